/-! L3: the reference reads rows, muds, lines -/
section RM9
variable {σ τ : Nat → Nat → Int32} {w u : Int64} {T : Nat → Nat} {n : Nat} {K : Nat × Nat × Nat} {Q : Nat → Nat} {P : List (Nat × Nat)}
theorem placed_f {r v G : Nat} {R : Nat → Nat} (hr : r < 8) (hv : v < 32) (h24 : σ 118 24 = nI r) (hR : ∀ q, q ≤ r → σ 124 (25 + q) = nI (R q) ∧ R q < 256) (hG : bt G v = 1 ↔ ∃ q, q ≤ r ∧ bt (R q) v = 1) : f_X11_isPlaced 118 (nI v) (mk σ w u) = some (nI (if bt G v = 1 then 1 else 0), mk σ w u) := by
  unfold f_X11_isPlaced
  rw [zg118]
  unfold l_X11_isPlaced_2
  refine lp_S (fun x => x = some (nI (if bt G v = 1 then 1 else 0), mk σ w u)) (fun i τ => (118, nI v, nI i, mk τ w u)) (fun i τ => τ = σ ∧ ∀ q, q < i → ¬ bt (R q) v = 1) (r + 1) ?_ ?_ (r + 1) 0 100000 σ (by omega) (by omega) ⟨rfl, fun q hq => by omega⟩
  · intro i hi k τ ⟨e, hI⟩ hk
    subst e
    obtain ⟨r1, r2⟩ := hR i (by omega)
    dsimp only
    unfold f_X11_isPlaced_2 f_X11_isPlaced_33
    rw [zi118_24, Option.bind_some, h24, if_neg (nI_nlt (by omega) (by omega)), if_neg (show ¬ (8 : Int32) ≤ nI i from nI_ge (b := 8) (by omega) (by decide)), zr118_32, Option.bind_some, i25, za124 (by omega), Option.bind_some, r1, bit_nI (by omega) hv]
    by_cases c : bt (R i) v = 1
    · rw [c, if_pos (show nI 1 = 1 from rfl), if_pos (by decide), if_pos (hG.mpr ⟨i, by omega, c⟩)]
      rfl
    · have h0 : bt (R i) v = 0 := by have := bt_lt (R i) v; omega
      rw [h0, if_neg (show ¬ nI 0 = 1 by decide), nI_1]
      refine hk τ ⟨rfl, fun q hq => ?_⟩
      by_cases cq : q = i
      · rw [cq]; exact c
      · exact hI q (by omega)
  · intro k τ ⟨e, hI⟩
    subst e
    dsimp only
    unfold f_X11_isPlaced_2 f_X11_isPlaced_41
    rw [zi118_24, Option.bind_some, h24, if_pos ((nI_ltI (by omega) (by omega)).mpr (by omega)), if_pos (by decide), if_neg (fun h => by
      obtain ⟨q, hq, hb⟩ := hG.mp h
      exact hI q (by omega) hb)]
    rfl
def b17 : (Nat × Int32 × Int32 × hp_H → Option hp_H) → Nat × Int32 × Int32 × hp_H → Option hp_H := fun k s => f_X11_readsRow_17 (fun a0 a1 a2 a3 => k (a0, a1, a2, a3)) s.1 s.2.1 s.2.2.1 s.2.2.2
theorem b17_1 {x0 : Nat} {x y : Int32} {h : hp_H} {N : Nat} : lp b17 (N + 1) (x0, x, y, h) = f_X11_readsRow_17 (fun a0 a1 a2 a3 => lp b17 N (a0, a1, a2, a3)) x0 x y h := rfl
theorem b17_l {x0 : Nat} {x y : Int32} {h : hp_H} : l_X11_readsRow_17 x0 x y h = lp b17 (99999 + 1) (x0, x, y, h) := rfl
def Wrw (r q k : Nat) : Prop := (q = 118 ∧ ((15 ≤ k ∧ k ≤ 20) ∨ k = 24)) ∨ (q = 124 ∧ k = 25 + r)
theorem rowl_R {men r : Nat} {R : Nat → Nat} (hm : men ≤ 8) (hr : r < 8) (hR8 : ∀ q, R q < 256) : ∀ d a S G K σ w N, a + d = 5 → RG σ w T n K → σ 118 23 = nI men → σ 118 24 = nI r → (∀ q, q < r → σ 124 (25 + q) = nI (R q)) → σ 124 (25 + r) = nI S → S < 256 → (∀ i, bt G i = 1 ↔ (∃ q, q < r ∧ bt (R q) i = 1) ∨ bt S i = 1) → 10 < N + a → match rw9 T n men d a S G K with
  | .inl (f, p) => d ≠ 0 → RW (fun τ _ => Fr Wrz σ τ ∧ RF τ f p) u (lp b17 N (118, nI a, nI (if a = 0 ∨ K.2.2 = 1 then 1 else 0), mk σ w u))
  | .inr (S1, _, K1) => RW (fun τ w => Fr (Wrw r) σ τ ∧ RG τ w T n K1 ∧ τ 124 (25 + r) = nI S1 ∧ τ 118 24 = nI (r + 1)) u (lp b17 N (118, nI a, nI (if a = 0 ∨ K.2.2 = 1 then 1 else 0), mk σ w u)) := by
  intro d
  induction d with
  | zero => intro a S G K σ w N ha rg h23 h24 hR hS hS8 hG hN; exact fun h => absurd rfl h
  | succ d ih =>
    intro a S G K σ w N ha rg h23 h24 hR hS hS8 hG hN
    obtain ⟨N, rfl⟩ : ∃ M, N = M + 1 := ⟨N - 1, by omega⟩
    obtain ⟨s1, s2', s3⟩ := srt_1 rg
    have rt := rg.2.2.2.2.1
    have o2 := rg.2.2.2.2.2.1.2.1
    have hn := rg.2.2.2.2.2.2.2
    have bad : ∀ f, f ≠ 0 → f < 100 → RW (fun τ _ => Fr Wrz σ τ ∧ RF τ f K.1) u ((f_X11_wrong 118 (nI f) (mk σ w u)).bind fun r1 => f_X11_readsRow_100 (fun a0 a1 a2 a3 => lp b17 N (a0, a1, a2, a3)) 118 (nI a) r1) := by
      intro f h1 h2
      obtain ⟨τ, ⟨fr, rf⟩, e⟩ := wrong_G (w := w) (u := u) rg h1 h2
      unfold f_X11_readsRow_100
      rw [e, Option.bind_some, gd_n rf, Option.bind_some]
      dsimp only
      rw [if_pos (show nI 0 = 0 from rfl)]
      exact ⟨τ, w, ⟨Wgf_r fr, rf⟩, rfl⟩
    rw [b17_1]
    unfold rw9
    by_cases c : K.2.2 = 1
    · rw [if_pos c, if_pos (Or.inr c)]
      unfold f_X11_readsRow_17 f_X11_readsRow_57
      rw [if_neg (show ¬ nI 1 = 0 by decide), isGood_1 rg.2.1, Option.bind_some]
      dsimp only
      rw [if_neg (show ¬ nI 1 = 0 by decide), zi118_16, Option.bind_some, if_pos (s1.mpr c)]
      have r19 : σ 118 19 = nI (vl T K.1 (K.2.1 - K.1)) := by rw [rt.2.2.2.2.1, if_pos c]
      by_cases c4 : a = 4
      · rw [if_pos (Or.inl c4), if_pos (show nI a = 4 by rw [c4]; rfl)]
        exact fun _ => bad 2 (by omega) (by omega)
      · rw [if_neg (show ¬ nI a = 4 from fun e => c4 ((nI_eq (b := 4) (by omega) (by decide)).mp e)), zi118_18, Option.bind_some, rt.2.2.2.1]
        by_cases c5 : 4 < K.2.1 - K.1
        · rw [if_pos (Or.inr c5), if_neg (show ¬ nI (K.2.1 - K.1) ≤ 4 from nI_ge (a := 4) c5 (by omega))]
          exact fun _ => bad 2 (by omega) (by omega)
        · have h4 : 10 ^ (K.2.1 - K.1) ≤ 10 ^ 4 := Nat.pow_le_pow_right (by decide) (by omega)
          have hv := nm_vl (T := T) (s := K.1) (K.2.1 - K.1) (by omega) (fun j hj => rg.2.2.2.2.2.2.1.2 c (K.1 + j) (by omega) (by omega))
          rw [if_neg (by omega), if_pos (show nI (K.2.1 - K.1) ≤ 4 from nI_le (b := 4) (by omega) (by decide)), zi118_19, Option.bind_some, r19, zi118_23, Option.bind_some, h23]
          obtain ⟨v, hve⟩ : ∃ v, v = vl T K.1 (K.2.1 - K.1) := ⟨_, rfl⟩
          rw [← hve] at hv r19 ⊢
          by_cases c3 : men ≤ v
          · rw [if_pos c3, if_neg (nI_nlt c3 (by omega))]
            exact fun _ => bad 3 (by omega) (by omega)
          · have hpl := placed_f (w := w) (u := u) (r := r) (v := v) (G := G) (R := fun q => if q = r then S else R q) hr (by omega) h24 (fun q hq => by
              by_cases cq : q = r
              · subst cq
                rw [if_pos rfl]
                exact ⟨hS, hS8⟩
              · rw [if_neg cq]
                exact ⟨hR q (by omega), hR8 q⟩) (by
              rw [hG v]
              constructor
              · rintro (⟨q, hq, hb⟩ | hb)
                · exact ⟨q, by omega, by rw [if_neg (by omega)]; exact hb⟩
                · exact ⟨r, Nat.le_refl _, by rw [if_pos rfl]; exact hb⟩
              · rintro ⟨q, hq, hb⟩
                by_cases cq : q = r
                · rw [if_pos cq] at hb; exact Or.inr hb
                · rw [if_neg cq] at hb; exact Or.inl ⟨q, by omega, hb⟩)
            rw [if_neg c3, if_pos ((nI_ltI (by omega) (by omega)).mpr (by omega)), Option.bind_some, hpl, Option.bind_some]
            dsimp only
            by_cases cb : bt G v = 1
            · rw [if_pos cb, if_pos cb, if_neg (show ¬ nI 1 = 0 by decide)]
              exact fun _ => bad 4 (by omega) (by omega)
            · have hp : 2 ^ v < 2 ^ 8 := Nat.pow_lt_pow_right (by decide) (by omega)
              have e1 : (1 : Int32) <<< (nI v &&& 31) = nI (2 ^ v) := x_one (by omega)
              have f1 : Fr (fun q k => q = 124 ∧ k = 25 + r) σ (s2 σ 124 (25 + r) (nI (S ||| 2 ^ v))) := Fr_s ⟨rfl, rfl⟩
              obtain ⟨τ, w2, ⟨fr, rg1⟩, e2⟩ := goes_G (u := u) (RG_F rg f1 (fun q k e => by omega))
              have s9 := (srt_1 rg1).1
              have h9 := ih (a + 1) (S ||| 2 ^ v) (G ||| 2 ^ v) (nxt T n K) τ w2 N (by omega) rg1 (by rw [fr 118 23 (by unfold Wgo; omega), s2_off (by omega)]; exact h23) (by rw [fr 118 24 (by unfold Wgo; omega), s2_off (by omega)]; exact h24) (fun q hq => by rw [fr 124 _ (by unfold Wgo; omega), s2_off (by omega)]; exact hR q hq) (by rw [fr 124 _ (by unfold Wgo; omega), s2_at rfl rfl]) (Nat.or_lt_two_pow (n := 8) hS8 hp) (fun i => by
                rw [bt_or2, bt_or2, hG i]
                constructor
                · rintro ((h | h) | h)
                  · exact Or.inl h
                  · exact Or.inr (Or.inl h)
                  · exact Or.inr (Or.inr h)
                · rintro (h | h | h)
                  · exact Or.inl (Or.inl h)
                  · exact Or.inl (Or.inr h)
                  · exact Or.inr h) (by omega)
              have fa : Fr (Wrw r) σ τ := Fr_t (Fr_m f1 (fun q k e => by unfold Wrw; omega)) (Fr_m fr (fun q k e => by unfold Wgo at e; unfold Wrw; omega))
              rw [if_neg cb, if_neg cb, if_pos (show nI 0 = 0 from rfl)]
              unfold f_X11_readsRow_100 f_X11_readsRow_149
              rw [isGood_1 rg.2.1, Option.bind_some]
              dsimp only
              rw [if_neg (show ¬ nI 1 = 0 by decide), zr118_32, Option.bind_some, zi118_24, Option.bind_some, h24, i25, za124 (by omega), Option.bind_some, hS, zi118_19, Option.bind_some, r19, e1, x_or, zb124 (by omega), Option.bind_some, e2, Option.bind_some, zi118_16, Option.bind_some, nI_1]
              have hx : (if τ 118 16 = 2 then lp b17 N (118, nI (a + 1), 1, mk τ w2 u) else lp b17 N (118, nI (a + 1), 0, mk τ w2 u)) = lp b17 N (118, nI (a + 1), nI (if a + 1 = 0 ∨ (nxt T n K).2.2 = 1 then 1 else 0), mk τ w2 u) := by
                by_cases cn : (nxt T n K).2.2 = 1
                · rw [if_pos (s9.mpr cn), if_pos (Or.inr cn)]; rfl
                · rw [if_neg (fun e => cn (s9.mp e)), if_neg (by omega)]; rfl
              rw [hx]
              match hq : rw9 T n men d (a + 1) (S ||| 2 ^ v) (G ||| 2 ^ v) (nxt T n K), h9 with
              | .inl (f, p), h9 =>
                intro _
                obtain ⟨τ2, w3, ⟨fr2, rf2⟩, e3⟩ := h9 (by omega)
                exact ⟨τ2, w3, ⟨Fr_t (Fr_m fa (fun q k e => by unfold Wrw at e; unfold Wrz; omega)) fr2, rf2⟩, e3⟩
              | .inr (S1, G1, K1), h9 =>
                obtain ⟨τ2, w3, ⟨fr2, q2⟩, e3⟩ := h9
                exact ⟨τ2, w3, ⟨Fr_t fa fr2, q2⟩, e3⟩
    · rw [if_neg c]
      by_cases c2 : a = 0
      · rw [if_pos c2, if_pos (Or.inl c2)]
        unfold f_X11_readsRow_17
        rw [if_neg (show ¬ nI 1 = 0 by decide), isGood_1 rg.2.1, Option.bind_some]
        dsimp only
        rw [if_neg (show ¬ nI 1 = 0 by decide), zi118_16, Option.bind_some, if_neg (fun e => c (s1.mp e))]
        exact fun _ => bad 1 (by omega) (by omega)
      · rw [if_neg c2, if_neg (show ¬ (a = 0 ∨ K.2.2 = 1) by omega)]
        unfold f_X11_readsRow_17 f_X11_readsRow_153
        rw [if_pos (show nI 0 = 0 from rfl), zi118_24, Option.bind_some, h24, nI_1, zw118_24, Option.bind_some]
        have f5 : Fr (fun q k => q = 118 ∧ k = 24) σ (s2 σ 118 24 (nI (r + 1))) := Fr_s ⟨rfl, rfl⟩
        exact ⟨_, w, ⟨Fr_m f5 (fun q k e => by unfold Wrw; omega), RG_F rg f5 (fun q k e => by omega), by rw [s2_off (by omega)]; exact hS, by rw [s2_at rfl rfl]⟩, rfl⟩
theorem readsRow_R (rg : RG σ w T n K) (rb : RB σ Q P) (wq : WQ Q P) (h8 : Q 2 ≠ 8) : rlq T n σ u (match rw9 T n (Q 1) 5 0 0 (Q 37) K with
    | .inl q => .inl q
    | .inr (S, G, K1) => .inr (un (un (un Q (29 + Q 2) S) 37 G) 2 (Q 2 + 1), P, K1)) (f_X11_readsRow 118 (mk σ w u)) := by
  have w1 := wq.2.1
  have w2 := wq.2.2.1
  have w5 := wq.2.2.2.2.2.1
  have w7 := wq.2.2.2.2.2.2.2.1
  have w8 := wq.2.2.2.2.2.2.2.2.1
  obtain ⟨a0, a1, a2, a3, a4, a5, a6, a7, a8⟩ := rb
  have b0 : ∀ i, ¬ bt 0 i = 1 := fun i h => by unfold bt at h; rw [Nat.zero_div] at h; omega
  have f1 : Fr (fun q k => q = 124 ∧ k = 25 + Q 2) σ (s2 σ 124 (25 + Q 2) (nI 0)) := Fr_s ⟨rfl, rfl⟩
  have rg1 := RG_F rg f1 (fun q k e => by omega)
  have hz : ∀ q, q < 8 → ZQ Q (25 + q) = Q (29 + q) := fun q hq => by unfold ZQ; rw [if_neg (by omega), if_neg (by omega), if_neg (by omega), show 4 + (25 + q) = 29 + q by omega]
  have h := rowl_R (u := u) (T := T) (n := n) (men := Q 1) (r := Q 2) (R := fun q => if q < 8 then Q (29 + q) else 0) w1 (by omega) (fun q => by
    split
    · next hq =>
      have h1 := (w5 q hq).2.2.2.1
      have h2 : 2 ^ Q 1 ≤ 2 ^ 8 := Nat.pow_le_pow_right (by decide) w1
      omega
    · omega) 5 0 0 (Q 37) K (s2 σ 124 (25 + Q 2) (nI 0)) w (99999 + 1) (by omega) rg1 (by rw [s2_off (by omega)]; exact a1) (by rw [s2_off (by omega)]; exact a2) (fun q hq => by rw [s2_off (by omega), a8 _ (by omega), hz q (by omega), if_pos (by omega)]) (by rw [s2_at rfl rfl]) (by omega) (fun i => by
      rw [w8 i]
      constructor
      · rintro ⟨q, hq, hb⟩
        left
        refine ⟨q, ?_, by rw [if_pos hq]; exact hb⟩
        by_cases c : q < Q 2
        · exact c
        · rw [w7 q (by omega) hq] at hb
          exact absurd hb (b0 i)
      · rintro (⟨q, hq, hb⟩ | hb)
        · rw [if_pos (by omega)] at hb
          exact ⟨q, by omega, hb⟩
        · exact absurd hb (b0 i)) (by omega)
  unfold f_X11_readsRow
  rw [zg118, zr118_32, Option.bind_some, zi118_24, Option.bind_some, a2, i25, show wr_A (mk σ w u) 124 (nI (25 + Q 2)) 0 = some (mk (s2 σ 124 (25 + Q 2) (nI 0)) w u) from zb124 (by omega), Option.bind_some, b17_l]
  have f1r : Fr Wrz σ (s2 σ 124 (25 + Q 2) (nI 0)) := Fr_m f1 (fun q k e => by unfold Wrz; omega)
  match hr : rw9 T n (Q 1) 5 0 0 (Q 37) K, h with
  | .inl (f, p), h =>
    obtain ⟨τ2, w3, ⟨fr2, rf2⟩, e3⟩ := h (by omega)
    exact ⟨τ2, w3, ⟨Fr_t f1r fr2, rf2⟩, e3⟩
  | .inr (S, G, K1), h =>
    obtain ⟨τ2, w3, ⟨fr2, rg2, gS, g24⟩, e3⟩ := h
    refine ⟨τ2, w3, ⟨Fr_t f1r (Fr_m fr2 (fun q k e => by unfold Wrw at e; unfold Wrz; omega)), rg2, ?_⟩, e3⟩
    have g : ∀ q k, ¬ (q = 124 ∧ k = 25 + Q 2) → ¬ (q = 118 ∧ (k = 24 ∨ (15 ≤ k ∧ k ≤ 20))) → τ2 q k = σ q k := fun q k x1 x2 => by rw [fr2 q k (by unfold Wrw; omega), s2_off x1]
    have o : ∀ k, k ≠ 2 → k ≠ 37 → k ≠ 29 + Q 2 → un (un (un Q (29 + Q 2) S) 37 G) 2 (Q 2 + 1) k = Q k := fun k x1 x2 x3 => by rw [un_off x1, un_off x2, un_off x3]
    refine ⟨?_, ?_, ?_, ?_, ?_, ?_, ?_, ?_, ?_⟩
    · rw [g _ _ (by omega) (by omega), a0, o 0 (by omega) (by omega) (by omega)]
    · rw [g _ _ (by omega) (by omega), a1, o 1 (by omega) (by omega) (by omega)]
    · rw [g24, un_at rfl]
    · rw [g _ _ (by omega) (by omega), a3, o 4 (by omega) (by omega) (by omega)]
    · rw [g _ _ (by omega) (by omega), a4, o 3 (by omega) (by omega) (by omega)]
    · intro h; rw [g _ _ (by omega) (by omega), g _ _ (by omega) (by omega)]; exact a5 h
    · intro h; exact ⟨by rw [g _ _ (by omega) (by omega)]; exact (a6 h).1, fun j x hx => by rw [g _ _ (by omega) (by omega)]; exact (a6 h).2.1 j x hx, (a6 h).2.2⟩
    · intro j hj
      rw [o 4 (by omega) (by omega) (by omega)] at hj
      have := wq.2.2.2.2.1
      rw [g _ _ (by omega) (by omega), a7 j hj, o (5 + j) (by omega) (by omega) (by omega)]
    · intro k hk
      have a8k := a8 k hk
      by_cases ck : k = 25 + Q 2
      · rw [ck, gS]
        unfold ZQ
        rw [if_neg (by omega), if_neg (by omega), if_neg (by omega), un_off (by omega), un_off (by omega), un_at (by omega)]
      · rw [g _ _ (by omega) (by omega), a8k]
        unfold ZQ
        by_cases k0 : k = 0
        · rw [if_pos k0, if_pos k0]
        · rw [if_neg k0, if_neg k0]
          by_cases k17 : k < 17
          · rw [if_pos k17, if_pos k17, o (12 + k) (by omega) (by omega) (by omega)]
          · rw [if_neg k17, if_neg k17]
            by_cases k25 : k < 25
            · rw [if_pos k25, if_pos k25]
            · rw [if_neg k25, if_neg k25, o (4 + k) (by omega) (by omega) (by omega)]
def bmR : (Nat × Int32 × hp_H → Option hp_H) → Nat × Int32 × hp_H → Option hp_H := fun k s => f_X11_readsMud_2 (fun a0 a1 a2 => k (a0, a1, a2)) s.1 s.2.1 s.2.2
theorem bmR_1 {x0 : Nat} {x : Int32} {h : hp_H} {N : Nat} : lp bmR (N + 1) (x0, x, h) = f_X11_readsMud_2 (fun a0 a1 a2 => lp bmR N (a0, a1, a2)) x0 x h := rfl
theorem bmR_l {x0 : Nat} {x : Int32} {h : hp_H} : l_X11_readsMud_2 x0 x h = lp bmR (99999 + 1) (x0, x, h) := rfl
theorem mudl_R : ∀ d j Q K σ w N, j + d = 9 → RG σ w T n K → RB σ Q P → Q 4 = j → 12 < N + j → match md9 T n d j Q K with
  | .inl (f, p) => d ≠ 0 → RW (fun τ _ => Fr Wrz σ τ ∧ RF τ f p) u (lp bmR N (118, nI (if j = 0 ∨ K.2.2 = 1 then 1 else 0), mk σ w u))
  | .inr (Q1, K1) => RW (fun τ w => Fr Wrz σ τ ∧ RG τ w T n K1 ∧ RB τ Q1 P) u (lp bmR N (118, nI (if j = 0 ∨ K.2.2 = 1 then 1 else 0), mk σ w u)) := by
  intro d
  induction d with
  | zero => intro j Q K σ w N ha rg rb hj hN; exact fun h => absurd rfl h
  | succ d ih =>
    intro j Q K σ w N ha rg rb hj hN
    obtain ⟨N, rfl⟩ : ∃ M, N = M + 1 := ⟨N - 1, by omega⟩
    obtain ⟨s1, s2', s3⟩ := srt_1 rg
    have a3 := rb.2.2.2.1
    rw [hj] at a3
    rw [bmR_1]
    unfold md9
    by_cases c : j = 0 ∨ K.2.2 = 1
    · rw [if_pos c]
      unfold f_X11_readsMud_2
      rw [if_neg (show ¬ nI 1 = 0 by decide), isGood_1 rg.2.1, Option.bind_some]
      dsimp only
      rw [if_neg (show ¬ nI 1 = 0 by decide), zi118_25, Option.bind_some, a3]
      by_cases c8 : j = 8
      · have hk : K.2.2 = 1 := by omega
        obtain ⟨τ, ⟨fr, rf⟩, e⟩ := wrong_G (w := w) (u := u) rg (f := 2) (by omega) (by omega)
        rw [if_pos hk, if_pos (Or.inl c8), if_pos (show nI j = 8 by rw [c8]; rfl), zi118_16, Option.bind_some, if_pos (s1.mpr hk), show f_X11_wrong 118 2 (mk σ w u) = some (mk τ w u) from e, Option.bind_some]
        unfold f_X11_readsMud_35
        rw [number_n rf, Option.bind_some]
        dsimp only
        rw [gd_n rf, Option.bind_some]
        dsimp only
        rw [if_pos (show nI 0 = 0 from rfl)]
        exact fun _ => ⟨τ, w, ⟨Wgf_r fr, rf⟩, rfl⟩
      · rw [if_neg (show ¬ nI j = 8 from fun e => c8 ((nI_eq (b := 8) (by omega) (by decide)).mp e))]
        unfold f_X11_readsMud_35
        have ht := number_R (u := u) rg (lo := 0) (hi := 9) (by omega) (by omega)
        unfold num9 at ht
        have bad : ∀ f p, (∃ v τ, Fr Wgf σ τ ∧ RF τ f p ∧ f_X11_number 118 (nI 0) (nI 9) (mk σ w u) = some (v, mk τ w u)) → RW (fun τ _ => Fr Wrz σ τ ∧ RF τ f p) u ((f_X11_number 118 0 9 (mk σ w u)).bind fun r1 => (f_X11_isGood 118 r1.2).bind fun r2 => if r2.1 = 0 then (some r2.2) else ((rd_R r2.2 118 11 31).bind fun v3 => (rd_I r2.2 118 11 25).bind fun v4 => (wr_A r2.2 v3 v4 r1.1).bind fun h5 => (rd_I h5 118 11 25).bind fun v6 => (wr_I h5 118 11 25 (v6 + 1)).bind fun h7 => (rd_I h7 118 11 16).bind fun v8 => if v8 = 2 then (f_X11_readsMud_84 (fun a0 a1 a2 => lp bmR N (a0, a1, a2)) 118 1 h7) else (f_X11_readsMud_84 (fun a0 a1 a2 => lp bmR N (a0, a1, a2)) 118 0 h7))) := by
          rintro f p ⟨v, τ, fr, rf, e⟩
          rw [show f_X11_number 118 0 9 (mk σ w u) = some (v, mk τ w u) from e, Option.bind_some]
          dsimp only
          rw [gd_n rf, Option.bind_some]
          dsimp only
          rw [if_pos (show nI 0 = 0 from rfl)]
          exact ⟨τ, w, ⟨Wgf_r fr, rf⟩, rfl⟩
        by_cases c1 : K.2.2 = 1
        · rw [if_pos c1] at ht ⊢
          by_cases c2 : j = 8 ∨ 4 < K.2.1 - K.1 ∨ 9 < vl T K.1 (K.2.1 - K.1)
          · rw [if_pos c2]
            rw [if_neg (by omega)] at ht
            exact fun _ => bad _ _ ht
          · rw [if_neg c2]
            rw [if_pos (by omega)] at ht
            obtain ⟨τ, w2, fr, rg1, e1⟩ := ht
            obtain ⟨v, hv⟩ : ∃ v, v = vl T K.1 (K.2.1 - K.1) := ⟨_, rfl⟩
            rw [← hv] at c2 e1 ⊢
            have rb1 := RB_F rb fr (fun q k e => by unfold Wgo at e; omega)
            have g25 : τ 118 25 = nI j := by rw [fr 118 25 (by unfold Wgo; omega)]; exact a3
            have f3 : Fr (fun q k => q = 123 ∨ (q = 118 ∧ k = 25)) τ (s2 (s2 τ 123 j (nI v)) 118 25 (nI (j + 1))) := Fr_st (Fr_s (Or.inl rfl)) (Or.inr ⟨rfl, rfl⟩)
            have rg3 := RG_F rg1 f3 (fun q k e => by omega)
            have s9 := (srt_1 rg3).1
            have rb3 : RB (s2 (s2 τ 123 j (nI v)) 118 25 (nI (j + 1))) (un (un Q (5 + j) v) 4 (j + 1)) P := by
              obtain ⟨a0, a1, a2, a3, a4, a5, a6, a7, a8⟩ := rb1
              have g : ∀ q k, q ≠ 123 → ¬ (q = 118 ∧ k = 25) → (s2 (s2 τ 123 j (nI v)) 118 25 (nI (j + 1))) q k = τ q k := fun q k x1 x2 => by rw [s2_off x2, s2_off (by omega)]
              have o : ∀ k, k ≠ 4 → ¬ (5 ≤ k ∧ k < 13) → un (un Q (5 + j) v) 4 (j + 1) k = Q k := fun k x1 x2 => by rw [un_off x1, un_off (by omega)]
              refine ⟨?_, ?_, ?_, ?_, ?_, ?_, ?_, ?_, ?_⟩
              · rw [g _ _ (by omega) (by omega), a0, o 0 (by omega) (by omega)]
              · rw [g _ _ (by omega) (by omega), a1, o 1 (by omega) (by omega)]
              · rw [g _ _ (by omega) (by omega), a2, o 2 (by omega) (by omega)]
              · rw [s2_at rfl rfl, un_at rfl]
              · rw [g _ _ (by omega) (by omega), a4, o 3 (by omega) (by omega)]
              · intro h; rw [g _ _ (by omega) (by omega), g _ _ (by omega) (by omega)]; exact a5 h
              · intro h; exact ⟨by rw [g _ _ (by omega) (by omega)]; exact (a6 h).1, fun i x hx => by rw [g _ _ (by omega) (by omega)]; exact (a6 h).2.1 i x hx, (a6 h).2.2⟩
              · intro i hi
                rw [un_at rfl] at hi
                rw [s2_off (by omega), un_off (by omega)]
                by_cases ci : i = j
                · rw [s2_at rfl ci, un_at (by omega)]
                · rw [s2_off (by omega), un_off (by omega), a7 i (by omega)]
              · intro k hk
                rw [g _ _ (by omega) (by omega), a8 k hk]
                unfold ZQ
                by_cases k0 : k = 0
                · rw [if_pos k0, if_pos k0]
                · rw [if_neg k0, if_neg k0]
                  by_cases k17 : k < 17
                  · rw [if_pos k17, if_pos k17, o (12 + k) (by omega) (by omega)]
                  · rw [if_neg k17, if_neg k17]
                    by_cases k25 : k < 25
                    · rw [if_pos k25, if_pos k25]
                    · rw [if_neg k25, if_neg k25, o (4 + k) (by omega) (by omega)]
            have h9 := ih (j + 1) (un (un Q (5 + j) v) 4 (j + 1)) (nxt T n K) (s2 (s2 τ 123 j (nI v)) 118 25 (nI (j + 1))) w2 N (by omega) rg3 rb3 (un_at rfl) (by omega)
            rw [show f_X11_number 118 0 9 (mk σ w u) = some (nI v, mk τ w2 u) from e1, Option.bind_some]
            dsimp only
            rw [isGood_1 rg1.2.1, Option.bind_some]
            dsimp only
            rw [if_neg (show ¬ nI 1 = 0 by decide), zr118_31, Option.bind_some, zi118_25, Option.bind_some, g25, zb123 (by omega), Option.bind_some, zi118_25, Option.bind_some, s2_off (by omega), g25, nI_1, zw118_25, Option.bind_some, zi118_16, Option.bind_some]
            unfold f_X11_readsMud_84
            have hx : (if (s2 (s2 τ 123 j (nI v)) 118 25 (nI (j + 1))) 118 16 = 2 then lp bmR N (118, 1, mk (s2 (s2 τ 123 j (nI v)) 118 25 (nI (j + 1))) w2 u) else lp bmR N (118, 0, mk (s2 (s2 τ 123 j (nI v)) 118 25 (nI (j + 1))) w2 u)) = lp bmR N (118, nI (if j + 1 = 0 ∨ (nxt T n K).2.2 = 1 then 1 else 0), mk (s2 (s2 τ 123 j (nI v)) 118 25 (nI (j + 1))) w2 u) := by
              by_cases cn : (nxt T n K).2.2 = 1
              · rw [if_pos (s9.mpr cn), if_pos (Or.inr cn)]; rfl
              · rw [if_neg (fun e => cn (s9.mp e)), if_neg (by omega)]; rfl
            rw [hx]
            have fa : Fr Wrz σ (s2 (s2 τ 123 j (nI v)) 118 25 (nI (j + 1))) := Fr_t (Wgo_r fr) (Fr_m f3 (fun q k e => by unfold Wrz; omega))
            match hq : md9 T n d (j + 1) (un (un Q (5 + j) v) 4 (j + 1)) (nxt T n K), h9 with
            | .inl (f, p), h9 =>
              intro _
              obtain ⟨τ2, w3, ⟨fr2, rf2⟩, e2⟩ := h9 (by omega)
              exact ⟨τ2, w3, ⟨Fr_t fa fr2, rf2⟩, e2⟩
            | .inr (Q1, K1), h9 =>
              obtain ⟨τ2, w3, ⟨fr2, q2⟩, e2⟩ := h9
              exact ⟨τ2, w3, ⟨Fr_t fa fr2, q2⟩, e2⟩
        · rw [if_neg c1] at ht ⊢
          rw [if_pos (by omega)]
          exact fun _ => bad _ _ ht
    · unfold f_X11_readsMud_2 f_X11_readsMud_88
      rw [if_neg (show ¬ K.2.2 = 1 by omega), if_neg (show ¬ j = 0 by omega), if_neg c, if_pos (show nI 0 = 0 from rfl)]
      exact ⟨σ, w, ⟨Fr_r _ _, rg, rb⟩, rfl⟩
end RM9
