/-! L3: the class reads rows and muds -/
section CO
variable {σ τ : Nat → Nat → Int32} {w u : Int64} {T : Nat → Nat} {n : Nat} {K : Nat × Nat × Nat} {Q : Nat → Nat} {P : List (Nat × Nat)}
theorem peek_n {f p : Nat} {a b : Int32} (cf : CF σ f p) : ∃ v, f_X5_peek 80 a b (mk σ w u) = some (v, mk σ w u) := by
  unfold f_X5_peek f_X5_peek_44
  have ff : ∀ x, f_X5_fail 80 x (mk σ w u) = some (mk σ w u) := fun x => fail_n cf.1 cf.2.2.1 cf.2.2.2
  rw [zg80]
  simp only [ff, zi80_6, zi80_7, zi80_8, zi80_9, Option.bind_some]
  split
  · split
    · exact ⟨_, rfl⟩
    · split
      · exact ⟨_, rfl⟩
      · split
        · exact ⟨_, rfl⟩
        · exact ⟨_, rfl⟩
  · exact ⟨_, rfl⟩
theorem holds_any (a b : Int32) (h : hp_H) : ∃ r, f_X10_holds a b h = some (r, h) := by
  unfold f_X10_holds f_X10_holds_13
  split
  · exact ⟨0, by rw [if_pos (by decide)]⟩
  · exact ⟨1, by rw [if_pos (by decide)]⟩
theorem tm54_n {f p : Nat} {x : Int32} (cf : CF σ f p) : f_X5_takeMan_54 80 x (mk σ w u) = some (0, mk σ w u) := by
  unfold f_X5_takeMan_54
  rw [zi80_2, Option.bind_some, cf.1, if_neg (nI_ne0 (by have := cf.2.2.1; omega) (by have := cf.2.2.2; omega))]
theorem tm10b_n {f p : Nat} (cf : CF σ f p) (v : Int32) : ((rd_R (mk σ w u) 80 5 0).bind fun v2 => (rd_I (mk σ w u) v2 1 1).bind fun v3 => if v < v3 then ((rd_I (mk σ w u) 80 5 11).bind fun v4 => (f_X10_holds v4 v (mk σ w u)).bind fun r5 => if r5.1 = 0 then (f_X5_takeMan_54 80 v r5.2) else ((f_X5_fail 80 4 r5.2).bind fun r6 => f_X5_takeMan_54 80 v r6)) else ((f_X5_fail 80 3 (mk σ w u)).bind fun r7 => f_X5_takeMan_54 80 v r7)) = some (0, mk σ w u) := by
  have ff : ∀ x, f_X5_fail 80 x (mk σ w u) = some (mk σ w u) := fun x => fail_n cf.1 cf.2.2.1 cf.2.2.2
  obtain ⟨r, hr⟩ := holds_any (σ 80 11) v (mk σ w u)
  rw [zr80_0, Option.bind_some, zi81_1, Option.bind_some]
  split
  · rw [zi80_11, Option.bind_some, hr, Option.bind_some]
    dsimp only
    split
    · exact tm54_n cf
    · rw [ff, Option.bind_some]
      exact tm54_n cf
  · rw [ff, Option.bind_some]
    exact tm54_n cf
theorem tm10_n {f p : Nat} (cf : CF σ f p) : f_X5_takeMan_10 80 (mk σ w u) = some (0, mk σ w u) := by
  obtain ⟨v, hv⟩ := peek_n (w := w) (u := u) (a := 0) (b := 9999) cf
  unfold f_X5_takeMan_10
  rw [hv, Option.bind_some]
  dsimp only
  exact tm10b_n cf v
def tm9 (T : Nat → Nat) (K : Nat × Nat × Nat) (a G men : Nat) : Nat ⊕ Nat := if K.2.2 = 1 then (if a = 4 ∨ 4 < K.2.1 - K.1 then .inl 2 else if men ≤ vl T K.1 (K.2.1 - K.1) then .inl 3 else if bt G (vl T K.1 (K.2.1 - K.1)) = 1 then .inl 4 else .inr (vl T K.1 (K.2.1 - K.1))) else .inl 1
def Wtm (q k : Nat) : Prop := q = 80 ∧ (k ≤ 9 ∨ k = 11)
theorem tm_f (cg : CG σ T n K) {a G men : Nat} (ha : a ≤ 4) (hk : a = 0 ∨ K.2.2 = 1) (h11 : σ 80 11 = nI G) (hG : G < 256) (h81 : σ 81 1 = nI men) (hm : men ≤ 8) : match tm9 T K a G men with
  | .inl f => RQ (fun τ => Fr Wrd σ τ ∧ CF τ f K.1) w u 0 (f_X5_takeMan 80 (nI a) (mk σ w u))
  | .inr v => v < men ∧ RQ (fun τ => Fr Wtm σ τ ∧ CG τ T n (nxt T n K) ∧ τ 80 11 = nI (G ||| 2 ^ v)) w u (nI (2 ^ v)) (f_X5_takeMan 80 (nI a) (mk σ w u)) := by
  have bad : ∀ f, f ≠ 0 → f < 100 → RN (fun τ => Fr Wrd σ τ ∧ CF τ f K.1) w u (f_X5_fail 80 (nI f) (mk σ w u)) := fun f h1 h2 => fail_G cg h1 h2
  unfold f_X5_takeMan tm9
  rw [zg80]
  by_cases c4 : a = 4
  · have hk1 : K.2.2 = 1 := by omega
    obtain ⟨τ, ⟨fr, cf⟩, e⟩ := bad 2 (by omega) (by omega)
    rw [if_pos hk1, if_pos (Or.inl c4), if_neg (show ¬ nI a < 4 from nI_nlt (b := 4) (by omega) (by omega)), show f_X5_fail 80 2 (mk σ w u) = some (mk τ w u) from e, Option.bind_some, tm10_n cf]
    exact ⟨τ, ⟨fr, cf⟩, rfl⟩
  · rw [if_pos (show nI a < 4 from (nI_ltI (b := 4) (by omega) (by decide)).mpr (by omega))]
    unfold f_X5_takeMan_10
    rcases peek_f (w := w) (u := u) cg (lo := 0) (hi := 9999) (by omega) (by omega) with ⟨⟨k1, k2, k3, k4⟩, e⟩ | ⟨hno, τ, ⟨fr, cf⟩, e⟩
    · rw [if_pos k1, if_neg (by omega), show f_X5_peek 80 0 9999 (mk σ w u) = some (nI (vl T K.1 (K.2.1 - K.1)), mk σ w u) from e, Option.bind_some]
      dsimp only
      obtain ⟨v, hv⟩ : ∃ v, v = vl T K.1 (K.2.1 - K.1) := ⟨_, rfl⟩
      rw [← hv] at k4 ⊢
      rw [zr80_0, Option.bind_some, zi81_1, Option.bind_some, h81]
      by_cases c3 : men ≤ v
      · obtain ⟨τ, ⟨fr, cf⟩, e3⟩ := bad 3 (by omega) (by omega)
        rw [if_pos c3, if_neg (nI_nlt c3 (by omega)), show f_X5_fail 80 3 (mk σ w u) = some (mk τ w u) from e3, Option.bind_some, tm54_n cf]
        exact ⟨τ, ⟨fr, cf⟩, rfl⟩
      · rw [if_neg c3, if_pos ((nI_ltI (by omega) (by omega)).mpr (by omega)), zi80_11, Option.bind_some, h11, holds_f (by omega) (by omega), Option.bind_some]
        dsimp only
        by_cases cb : bt G v = 1
        · obtain ⟨τ, ⟨fr, cf⟩, e3⟩ := bad 4 (by omega) (by omega)
          rw [if_pos cb, cb, if_neg (show ¬ nI 1 = 0 by decide), show f_X5_fail 80 4 (mk σ w u) = some (mk τ w u) from e3, Option.bind_some, tm54_n cf]
          exact ⟨τ, ⟨fr, cf⟩, rfl⟩
        · have hb0 : bt G v = 0 := by have := bt_lt G v; omega
          have fr1 : Fr (fun q k => q = 80 ∧ k = 11) σ (s2 σ 80 11 (nI (G ||| 2 ^ v))) := Fr_s ⟨rfl, rfl⟩
          obtain ⟨τ, ⟨fr, cg1⟩, e3⟩ := adv_G (w := w) (u := u) (CG_F cg fr1 (fun q k e => by omega))
          have e1 : (1 : Int32) <<< (nI v &&& 31) = nI (2 ^ v) := x_one (by omega)
          rw [if_neg cb, hb0, if_pos (show nI 0 = 0 from rfl)]
          unfold f_X5_takeMan_54
          rw [zi80_2, Option.bind_some, cg.2.1, if_pos (show nI 0 = 0 from rfl), zi80_11, Option.bind_some, h11, e1, x_or, zw80_11, Option.bind_some, e3, Option.bind_some]
          exact ⟨by omega, τ, ⟨Fr_t (Fr_m fr1 (fun q k e => by unfold Wtm; omega)) (Fr_m fr (fun q k e => by unfold Wrd at e; unfold Wtm; omega)), cg1, by rw [fr 80 11 (by unfold Wrd; omega), s2_at rfl rfl]⟩, rfl⟩
    · have hN : (if K.2.2 = 1 then (if a = 4 ∨ 4 < K.2.1 - K.1 then (.inl 2 : Nat ⊕ Nat) else if men ≤ vl T K.1 (K.2.1 - K.1) then .inl 3 else if bt G (vl T K.1 (K.2.1 - K.1)) = 1 then .inl 4 else .inr (vl T K.1 (K.2.1 - K.1))) else .inl 1) = .inl (nmF K) := by
        unfold nmF
        by_cases c1 : K.2.2 = 1
        · have c5 : 4 < K.2.1 - K.1 := by
            by_cases c5 : 4 < K.2.1 - K.1
            · exact c5
            · have h4 : 10 ^ (K.2.1 - K.1) ≤ 10 ^ 4 := Nat.pow_le_pow_right (by decide) (by omega)
              have := nm_vl (T := T) (s := K.1) (K.2.1 - K.1) (by omega) (fun j hj => cg.2.2.2.2.2.2.1.2 c1 (K.1 + j) (by omega) (by omega))
              exact absurd ⟨c1, by omega, by omega, by omega⟩ hno
          rw [if_pos c1, if_pos c1, if_pos (Or.inr c5)]
        · rw [if_neg c1, if_neg c1]
      rw [hN, show f_X5_peek 80 0 9999 (mk σ w u) = some (nI 0, mk τ w u) from e, Option.bind_some]
      dsimp only
      rw [tm10b_n cf]
      exact ⟨τ, ⟨fr, cf⟩, rfl⟩
def b26 : (Nat × Int32 × Int32 × hp_H → Option hp_H) → Nat × Int32 × Int32 × hp_H → Option hp_H := fun k s => f_X5_readRow_26 (fun a0 a1 a2 a3 => k (a0, a1, a2, a3)) s.1 s.2.1 s.2.2.1 s.2.2.2
theorem b26_1 {x0 : Nat} {x y : Int32} {h : hp_H} {N : Nat} : lp b26 (N + 1) (x0, x, y, h) = f_X5_readRow_26 (fun a0 a1 a2 a3 => lp b26 N (a0, a1, a2, a3)) x0 x y h := rfl
theorem b26_l {x0 : Nat} {x y : Int32} {h : hp_H} : l_X5_readRow_26 x0 x y h = lp b26 (99999 + 1) (x0, x, y, h) := rfl
theorem row53_f {r : Nat} (hr : r < 8) (h81 : σ 81 2 = nI r) (x : Int32) : f_X5_readRow_53 80 x (mk σ w u) = some (mk (s2 (s2 σ 99 r x) 81 2 (nI (r + 1))) w u) := by
  unfold f_X5_readRow_53
  rw [zr80_1, Option.bind_some, zr91_5, Option.bind_some, zr80_0, Option.bind_some, zi81_2, Option.bind_some, h81, zs98 hr, Option.bind_some, zr80_0, Option.bind_some, zi81_2, Option.bind_some, s2_off (by omega), h81, nI_1, zw81_2, Option.bind_some]
theorem row_n {f p r : Nat} (cf : CF σ f p) (hr : r < 8) (h81 : σ 81 2 = nI r) {x y : Int32} (N : Nat) : RN (fun τ => Fr Wrl σ τ ∧ CF τ f p) w u (lp b26 (N + 1) (80, x, y, mk σ w u)) := by
  have h53 : RN (fun τ => Fr Wrl σ τ ∧ CF τ f p) w u (f_X5_readRow_53 80 x (mk σ w u)) := by
    rw [row53_f hr h81]
    exact ⟨_, ⟨Fr_st (Fr_s (by unfold Wrl; omega)) (by unfold Wrl; omega), CF_F cf (Fr_st (Fr_s (W := fun q k => q = 99 ∨ q = 81) (Or.inl rfl)) (Or.inr rfl)) (fun q k e => by omega)⟩, rfl⟩
  rw [b26_1]
  unfold f_X5_readRow_26
  split
  · exact h53
  · rw [isNN_0 cf, Option.bind_some]
    dsimp only
    rw [if_pos (show nI 0 = 0 from rfl)]
    exact h53
def Wro (r q k : Nat) : Prop := (q = 80 ∧ (k ≤ 9 ∨ k = 11)) ∨ (q = 99 ∧ k = r) ∨ (q = 81 ∧ k = 2)
theorem row_l {men r : Nat} (hm : men ≤ 8) (hr : r < 8) : ∀ d a S G K σ N, a + d = 5 → CG σ T n K → σ 80 11 = nI G → σ 81 1 = nI men → σ 81 2 = nI r → G < 256 → 10 < N + a → match rw9 T n men d a S G K with
  | .inl (f, p) => d ≠ 0 → RN (fun τ => Fr Wrl σ τ ∧ CF τ f p) w u (lp b26 N (80, nI S, nI a, mk σ w u))
  | .inr (S1, G1, K1) => RN (fun τ => Fr (Wro r) σ τ ∧ CG τ T n K1 ∧ τ 80 11 = nI G1 ∧ τ 99 r = nI S1 ∧ τ 81 2 = nI (r + 1)) w u (lp b26 N (80, nI S, nI a, mk σ w u)) := by
  intro d
  induction d with
  | zero => intro a S G K σ N ha cg h11 h811 h812 hG hN; exact fun h => absurd rfl h
  | succ d ih =>
    intro a S G K σ N ha cg h11 h811 h812 hG hN
    obtain ⟨N, rfl⟩ : ∃ M, N = M + 1 := ⟨N - 1, by omega⟩
    rw [b26_1]
    unfold f_X5_readRow_26 rw9
    rw [if_neg (show ¬ (4 : Int32) < nI a from nI_nlt (a := 4) (by omega) (by decide)), isNN_f cg (by omega), Option.bind_some]
    dsimp only
    by_cases c : K.2.2 = 1
    · rw [if_pos (Or.inr c), if_pos c, if_neg (show ¬ nI 1 = 0 by decide)]
      have ht := tm_f (w := w) (u := u) cg (a := a) (by omega) (Or.inr c) h11 hG h811 hm
      unfold tm9 at ht
      rw [if_pos c] at ht
      have bad : ∀ f, RQ (fun τ => Fr Wrd σ τ ∧ CF τ f K.1) w u 0 (f_X5_takeMan 80 (nI a) (mk σ w u)) → RN (fun τ => Fr Wrl σ τ ∧ CF τ f K.1) w u ((f_X5_takeMan 80 (nI a) (mk σ w u)).bind fun r2 => lp b26 N (80, nI S ||| r2.1, nI a + 1, r2.2)) := by
        intro f hq
        obtain ⟨τ, ⟨fr, cf⟩, e⟩ := hq
        obtain ⟨N, rfl⟩ : ∃ M, N = M + 1 := ⟨N - 1, by omega⟩
        obtain ⟨τ2, ⟨fr2, cf2⟩, e2⟩ := row_n (w := w) (u := u) (x := nI S ||| 0) (y := nI a + 1) cf hr (by rw [fr 81 2 (by unfold Wrd; omega)]; exact h812) N
        rw [e, Option.bind_some]
        dsimp only
        rw [e2]
        exact ⟨τ2, ⟨Fr_t (Wrd_l fr) fr2, cf2⟩, rfl⟩
      by_cases c2 : a = 4 ∨ 4 < K.2.1 - K.1
      · rw [if_pos c2] at ht ⊢
        exact fun _ => bad 2 ht
      · rw [if_neg c2] at ht ⊢
        by_cases c3 : men ≤ vl T K.1 (K.2.1 - K.1)
        · rw [if_pos c3] at ht ⊢
          exact fun _ => bad 3 ht
        · rw [if_neg c3] at ht ⊢
          by_cases c4 : bt G (vl T K.1 (K.2.1 - K.1)) = 1
          · rw [if_pos c4] at ht ⊢
            exact fun _ => bad 4 ht
          · rw [if_neg c4] at ht ⊢
            obtain ⟨v, hv⟩ : ∃ v, v = vl T K.1 (K.2.1 - K.1) := ⟨_, rfl⟩
            rw [← hv] at c3 ht ⊢
            obtain ⟨hvm, τ, ⟨fr, cg1, g11⟩, e⟩ := ht
            have h2 : 2 ^ v < 2 ^ 8 := Nat.pow_lt_pow_right (by decide) (by omega)
            have h9 := ih (a + 1) (S ||| 2 ^ v) (G ||| 2 ^ v) (nxt T n K) τ N (by omega) cg1 g11 (by rw [fr 81 1 (by unfold Wtm; omega)]; exact h811) (by rw [fr 81 2 (by unfold Wtm; omega)]; exact h812) (Nat.or_lt_two_pow (n := 8) hG h2) (by omega)
            rw [e, Option.bind_some]
            dsimp only
            rw [x_or, nI_1]
            match hq : rw9 T n men d (a + 1) (S ||| 2 ^ v) (G ||| 2 ^ v) (nxt T n K), h9 with
            | .inl (f, p), h9 =>
              intro _
              obtain ⟨τ2, ⟨fr2, cf2⟩, e2⟩ := h9 (by omega)
              exact ⟨τ2, ⟨Fr_t (Fr_m fr (fun q k e => by unfold Wtm at e; unfold Wrl; omega)) fr2, cf2⟩, e2⟩
            | .inr (S1, G1, K1), h9 =>
              obtain ⟨τ2, ⟨fr2, q2⟩, e2⟩ := h9
              exact ⟨τ2, ⟨Fr_t (Fr_m fr (fun q k e => by unfold Wtm at e; unfold Wro; omega)) fr2, q2⟩, e2⟩
    · rw [if_neg c]
      by_cases c2 : a = 0
      · have ht := tm_f (w := w) (u := u) cg (a := a) (by omega) (Or.inl c2) h11 hG h811 hm
        unfold tm9 at ht
        rw [if_neg c] at ht
        rw [if_pos (Or.inl c2), if_pos c2, if_neg (show ¬ nI 1 = 0 by decide)]
        intro _
        obtain ⟨τ, ⟨fr, cf⟩, e⟩ := ht
        obtain ⟨N, rfl⟩ : ∃ M, N = M + 1 := ⟨N - 1, by omega⟩
        obtain ⟨τ2, ⟨fr2, cf2⟩, e2⟩ := row_n (w := w) (u := u) (x := nI S ||| 0) (y := nI a + 1) cf hr (by rw [fr 81 2 (by unfold Wrd; omega)]; exact h812) N
        rw [e, Option.bind_some]
        dsimp only
        rw [e2]
        exact ⟨τ2, ⟨Fr_t (Wrd_l fr) fr2, cf2⟩, rfl⟩
      · rw [if_neg c2, if_neg (show ¬ (a = 0 ∨ K.2.2 = 1) by omega), if_pos (show nI 0 = 0 from rfl), row53_f hr h812]
        have f5 : Fr (fun q k => (q = 99 ∧ k = r) ∨ (q = 81 ∧ k = 2)) σ (s2 (s2 σ 99 r (nI S)) 81 2 (nI (r + 1))) := Fr_st (Fr_s (Or.inl ⟨rfl, rfl⟩)) (Or.inr ⟨rfl, rfl⟩)
        exact ⟨_, ⟨Fr_m f5 (fun q k e => by unfold Wro; omega), CG_F cg f5 (fun q k e => by omega), by rw [s2_off (by omega), s2_off (by omega)]; exact h11, by rw [s2_off (by omega), s2_at rfl rfl], by rw [s2_at rfl rfl]⟩, rfl⟩
/-- a row's line -/
theorem readRow_f (cg : CG σ T n K) (cl : CL σ Q P) (wq : WQ Q P) : lq T n σ w u (if Q 2 = 8 then .inl (2, K.1) else match rw9 T n (Q 1) 5 0 0 (Q 37) (nxt T n K) with
    | .inl q => .inl q
    | .inr (S, G, K1) => .inr (un (un (un Q (29 + Q 2) S) 37 G) 2 (Q 2 + 1), P, K1)) (f_X5_readRow 80 (mk σ w u)) := by
  have b2 := cl.1.2.2.1
  have w1 := wq.2.1
  have w2 := wq.2.2.1
  have w37 := wq.2.2.2.2.2.2.2.2.2.1
  unfold f_X5_readRow
  rw [zg80, zr80_0, Option.bind_some, zi81_2, Option.bind_some, b2]
  by_cases c : Q 2 = 8
  · obtain ⟨τ, ⟨fr, cf⟩, e1⟩ := fail_G (w := w) (u := u) cg (f := 2) (by omega) (by omega)
    rw [if_pos c, if_neg (show ¬ nI (Q 2) < 8 from nI_nlt (b := 8) (by omega) (by omega)), show f_X5_fail 80 2 (mk σ w u) = some (mk τ w u) from e1, Option.bind_some]
    exact ⟨τ, ⟨Wl_m (Wrd_l fr), cf, mb8_F (CL_m cl wq) (Wrd_l fr)⟩, rfl⟩
  · obtain ⟨τ, ⟨fr, cg1⟩, e1⟩ := adv_G (w := w) (u := u) cg
    have cb1 := CB_F cl.1 fr (fun q k e => by unfold Wrd at e; omega)
    have t1 : τ 80 10 = nI (told Q P) := by rw [fr 80 10 (by unfold Wrd; omega)]; exact cl.2
    rw [if_neg c, if_pos (show nI (Q 2) < 8 from (nI_ltI (b := 8) (by omega) (by decide)).mpr (by omega)), e1, Option.bind_some, b26_l]
    refine lq_t (Wl_m (Wrd_l fr)) ?_
    obtain ⟨d0, d1, d2, d3, d4, d5, d6, d7, d8, d9⟩ := cb1
    have h := row_l (w := w) (u := u) (T := T) (n := n) w1 (show Q 2 < 8 by omega) 5 0 0 (Q 37) (nxt T n K) τ (99999 + 1) (by omega) cg1 d9 d1 d2 w37 (by omega)
    match hr : rw9 T n (Q 1) 5 0 0 (Q 37) (nxt T n K), h with
    | .inl (f, p), h =>
      obtain ⟨τ2, ⟨fr2, cf2⟩, e2⟩ := h (by omega)
      exact ⟨τ2, ⟨Wl_m fr2, cf2, mb8_F (mb8_F (CL_m cl wq) (Wrd_l fr)) fr2⟩, e2⟩
    | .inr (S, G, K1), h =>
      obtain ⟨τ2, ⟨fr2, cg2, g11, g99, g81⟩, e2⟩ := h
      refine ⟨τ2, ⟨Fr_m fr2 (fun q k e => by unfold Wro at e; unfold Wrm; omega), cg2, ⟨?_, ?_, ?_, ?_, ?_, ?_, ?_, ?_, ?_, ?_⟩, ?_⟩, e2⟩
      · rw [fr2 81 0 (by unfold Wro; omega), d0]; unfold bq; rw [un_off (by omega), un_off (by omega), un_off (by omega)]
      · rw [fr2 81 1 (by unfold Wro; omega), d1, un_off (by omega), un_off (by omega), un_off (by omega)]
      · rw [g81, un_at rfl]
      · rw [fr2 81 3 (by unfold Wro; omega), d3]; unfold sq3; rw [un_off (by omega), un_off (by omega), un_off (by omega)]
      · rw [fr2 81 4 (by unfold Wro; omega), d4, un_off (by omega), un_off (by omega), un_off (by omega)]
      · intro j hj
        rw [un_off (by omega), un_off (by omega), un_off (by omega)] at hj
        have := wq.2.2.2.2.1
        rw [fr2 83 j (by unfold Wro; omega), d5 j hj, un_off (by omega), un_off (by omega), un_off (by omega)]
      · exact CR_F d6 fr2 (fun q k e => by unfold Wro at e; omega)
      · rw [fr2 91 1 (by unfold Wro; omega)]; exact d7
      · intro i hi
        obtain ⟨x1, x2, x3, x4⟩ := d8 i hi
        refine ⟨?_, ?_, ?_, ?_⟩
        · rw [fr2 93 i (by unfold Wro; omega), x1, un_off (by omega), un_off (by omega), un_off (by omega)]
        · rw [fr2 95 i (by unfold Wro; omega), x2, un_off (by omega), un_off (by omega), un_off (by omega)]
        · rw [fr2 97 i (by unfold Wro; omega)]; exact x3
        · by_cases ci : i = Q 2
          · rw [ci, g99, un_off (by omega), un_off (by omega), un_at rfl]
          · rw [fr2 99 i (by unfold Wro; omega), x4, un_off (by omega), un_off (by omega), un_off (by omega)]
      · rw [g11, un_off (by omega), un_at rfl]
      · rw [fr2 80 10 (by unfold Wro; omega), t1]
        unfold told
        rw [un_off (by omega), un_off (by omega), un_off (by omega), un_off (by omega), un_off (by omega), un_off (by omega), un_off (by omega), un_off (by omega), un_off (by omega)]
end CO
