/-! L3: the reference reads men, rows, muds -/
def eb (v : Nat) : Int32 := if v = 0 then nJ 0 else nI v
def ZQ (Q : Nat → Nat) : Nat → Nat := fun k => if k = 0 then 0 else if k < 17 then Q (12 + k) else if k < 25 then 0 else Q (4 + k)
theorem eb_0 : ∀ v, v ≤ 12 → (eb v = -1 ↔ v = 0) := by decide
theorem nJ_0 : ∀ v, v ≤ 13 → (nJ v = -1 ↔ v = 0) := by decide
section RL9
variable {σ τ : Nat → Nat → Int32} {w u : Int64} {T : Nat → Nat} {n : Nat} {K : Nat × Nat × Nat} {Q : Nat → Nat} {P : List (Nat × Nat)}
def Wrz (q k : Nat) : Prop := (q = 118 ∧ (k = 11 ∨ k = 12 ∨ (15 ≤ k ∧ k ≤ 30))) ∨ (123 ≤ q ∧ q ≤ 127)
theorem Wgo_r (h : Fr Wgo σ τ) : Fr Wrz σ τ := Fr_m h (fun q k e => by unfold Wgo at e; unfold Wrz; omega)
theorem Wgf_r (h : Fr Wgf σ τ) : Fr Wrz σ τ := Fr_m h (fun q k e => by unfold Wgf at e; unfold Wrz; omega)
theorem Wex_r (h : Fr Wex σ τ) : Fr Wrz σ τ := Fr_m h (fun q k e => by unfold Wex at e; unfold Wrz; omega)
def RB (τ : Nat → Nat → Int32) (Q : Nat → Nat) (P : List (Nat × Nat)) : Prop := τ 118 22 = eb (Q 0) ∧ τ 118 23 = nI (Q 1) ∧ τ 118 24 = nI (Q 2) ∧ τ 118 25 = nI (Q 4) ∧ τ 118 26 = nJ (Q 3) ∧ (P = [] → τ 118 27 = nJ 0 ∧ τ 118 28 = nI 0) ∧ (P ≠ [] → τ 118 27 = nI 0 ∧ (∀ j x, (fl P ++ [nI 0])[j]? = some x → τ 125 j = x) ∧ (fl P).length < 1400) ∧ (∀ j, j < Q 4 → τ 123 j = nI (Q (5 + j))) ∧ ∀ k, k < 33 → τ 124 k = nI (ZQ Q k)
theorem RB_F {V : Nat → Nat → Prop} (rb : RB σ Q P) (fr : Fr V σ τ) (hw : ∀ q k, V q k → ¬ (q = 118 ∧ 22 ≤ k ∧ k ≤ 28) ∧ q ≠ 123 ∧ q ≠ 124 ∧ q ≠ 125) : RB τ Q P := by
  obtain ⟨a0, a1, a2, a3, a4, a5, a6, a7, a8⟩ := rb
  have g : ∀ q k, (q = 118 ∧ 22 ≤ k ∧ k ≤ 28) ∨ q = 123 ∨ q = 124 ∨ q = 125 → τ q k = σ q k := fun q k h => fr q k (fun e => by have := hw q k e; omega)
  exact ⟨by rw [g _ _ (by omega)]; exact a0, by rw [g _ _ (by omega)]; exact a1, by rw [g _ _ (by omega)]; exact a2, by rw [g _ _ (by omega)]; exact a3, by rw [g _ _ (by omega)]; exact a4, fun h => by rw [g _ _ (by omega), g _ _ (by omega)]; exact a5 h, fun h => ⟨by rw [g _ _ (by omega)]; exact (a6 h).1, fun j x hx => by rw [g _ _ (by omega)]; exact (a6 h).2.1 j x hx, (a6 h).2.2⟩, fun j hj => by rw [g _ _ (by omega)]; exact a7 j hj, fun k hk => by rw [g _ _ (by omega)]; exact a8 k hk⟩
def rlq (T : Nat → Nat) (n : Nat) (σ : Nat → Nat → Int32) (u : Int64) : LnR → Option hp_H → Prop
  | .inl (f, p), r => RW (fun τ _ => Fr Wrz σ τ ∧ RF τ f p) u r
  | .inr (Q, P, K), r => RW (fun τ w => Fr Wrz σ τ ∧ RG τ w T n K ∧ RB τ Q P) u r
theorem rlq_t {x : LnR} {r : Option hp_H} (fr : Fr Wrz σ τ) (h : rlq T n τ u x r) : rlq T n σ u x r := by
  match x, h with
  | .inl (f, p), ⟨τ', w', ⟨f1, h1⟩, h2⟩ => exact ⟨τ', w', ⟨Fr_t fr f1, h1⟩, h2⟩
  | .inr (Q, P, K), ⟨τ', w', ⟨f1, h1⟩, h2⟩ => exact ⟨τ', w', ⟨Fr_t fr f1, h1⟩, h2⟩
theorem gd_n {f p : Nat} (rf : RF σ f p) : f_X11_isGood 118 (mk σ w u) = some (nI 0, mk σ w u) := isGood_0 rf.1 rf.2.2.1 rf.2.2.2
theorem number_n {f p : Nat} (rf : RF σ f p) {a b : Int32} : f_X11_number 118 a b (mk σ w u) = some (0, mk σ w u) := by
  unfold f_X11_number
  rw [zg118, gd_n rf, Option.bind_some]
  dsimp only
  rw [if_pos (show nI 0 = 0 from rfl)]
theorem number_R (rg : RG σ w T n K) {lo hi : Nat} (hl : lo ≤ 9999) (hh : hi ≤ 9999) : match num9 T n lo hi K with
  | .inl (f, p) => ∃ v τ, Fr Wgf σ τ ∧ RF τ f p ∧ f_X11_number 118 (nI lo) (nI hi) (mk σ w u) = some (v, mk τ w u)
  | .inr (a, K1) => ∃ τ w', Fr Wgo σ τ ∧ RG τ w' T n K1 ∧ f_X11_number 118 (nI lo) (nI hi) (mk σ w u) = some (nI a, mk τ w' u) := by
  obtain ⟨s1, s2', s3⟩ := srt_1 rg
  have rt := rg.2.2.2.2.1
  have o2 := rg.2.2.2.2.2.1.2.1
  have hn := rg.2.2.2.2.2.2.2
  have bad : ∀ f, f ≠ 0 → f < 100 → ∃ v τ, Fr Wgf σ τ ∧ RF τ f K.1 ∧ ((f_X11_wrong 118 (nI f) (mk σ w u)).bind fun r1 => f_X11_number_54 118 r1) = some (v, mk τ w u) := by
    intro f h1 h2
    obtain ⟨τ, ⟨fr, rf⟩, e⟩ := wrong_G (w := w) (u := u) rg h1 h2
    refine ⟨τ 118 19, τ, fr, rf, ?_⟩
    unfold f_X11_number_54 f_X11_number_70
    rw [e, Option.bind_some, zi118_19, Option.bind_some, gd_n rf, Option.bind_some]
    dsimp only
    rw [if_pos (show nI 0 = 0 from rfl)]
  unfold f_X11_number num9 f_X11_number_49
  rw [zg118, isGood_1 rg.2.1, Option.bind_some]
  dsimp only
  rw [if_neg (show ¬ nI 1 = 0 by decide), zi118_16, Option.bind_some]
  by_cases c : K.2.2 = 1
  · rw [if_pos c, if_pos (s1.mpr c), zi118_18, Option.bind_some, rt.2.2.2.1]
    have r19 : σ 118 19 = nI (vl T K.1 (K.2.1 - K.1)) := by rw [rt.2.2.2.2.1, if_pos c]
    by_cases c4 : 4 < K.2.1 - K.1
    · rw [if_neg (by omega), if_pos (show (4 : Int32) < nI (K.2.1 - K.1) from (nI_ltI (a := 4) (by decide) (by omega)).mpr c4)]
      exact bad 2 (by omega) (by omega)
    · have h4 : 10 ^ (K.2.1 - K.1) ≤ 10 ^ 4 := Nat.pow_le_pow_right (by decide) (by omega)
      have hv := nm_vl (T := T) (s := K.1) (K.2.1 - K.1) (by omega) (fun j hj => rg.2.2.2.2.2.2.1.2 c (K.1 + j) (by omega) (by omega))
      rw [if_neg (show ¬ (4 : Int32) < nI (K.2.1 - K.1) from nI_nlt (a := 4) (by omega) (by decide)), zi118_19, Option.bind_some, r19]
      by_cases cl : vl T K.1 (K.2.1 - K.1) < lo
      · rw [if_neg (by omega), if_pos ((nI_ltI (by omega) (by omega)).mpr cl)]
        exact bad 2 (by omega) (by omega)
      · rw [if_neg (nI_nlt (by omega) (by omega)), Option.bind_some]
        by_cases ch : vl T K.1 (K.2.1 - K.1) ≤ hi
        · rw [if_pos ⟨by omega, by omega, ch⟩, if_pos (nI_le ch (by omega))]
          obtain ⟨τ, w', ⟨fr, rg1⟩, e⟩ := goes_G (u := u) rg
          refine ⟨τ, w', fr, rg1, ?_⟩
          unfold f_X11_number_54 f_X11_number_70
          rw [zi118_19, Option.bind_some, isGood_1 rg.2.1, Option.bind_some]
          dsimp only
          rw [if_neg (show ¬ nI 1 = 0 by decide), e, Option.bind_some, r19]
        · rw [if_neg (by omega), if_neg (nI_ge (by omega) (by omega))]
          exact bad 2 (by omega) (by omega)
  · rw [if_neg c, if_neg (fun e => c (s1.mp e))]
    exact bad 1 (by omega) (by omega)
theorem begins_e (rg : RG σ w T n K) : ∃ τ w', Fr Wgo σ τ ∧ RG τ w' T n (nxt T n K) ∧ f_X11_begins 118 0 0 (mk σ w u) = some (1, mk τ w' u) := by
  obtain ⟨τ, w', ⟨fr, rg1⟩, e⟩ := goes_G (u := u) rg
  refine ⟨τ, w', fr, rg1, ?_⟩
  unfold f_X11_begins f_X11_begins_9 f_X11_begins_18
  rw [zg118, if_pos rfl, if_pos rfl, isGood_1 rg.2.1, Option.bind_some]
  dsimp only
  rw [if_neg (show ¬ nI 1 = 0 by decide), e, Option.bind_some, if_pos (by decide)]
theorem begins_m (rg : RG σ w T n K) : ∃ τ, Fr Wgf σ τ ∧ RF τ 2 K.1 ∧ f_X11_begins 118 1 0 (mk σ w u) = some (0, mk τ w u) := by
  obtain ⟨τ, ⟨fr, rf⟩, e⟩ := wrong_G (w := w) (u := u) rg (f := 2) (by omega) (by omega)
  refine ⟨τ, fr, rf, ?_⟩
  unfold f_X11_begins f_X11_begins_9 f_X11_begins_18
  rw [zg118, if_neg (by decide), show f_X11_wrong 118 2 (mk σ w u) = some (mk τ w u) from e, Option.bind_some, if_pos rfl, gd_n rf, Option.bind_some]
  dsimp only
  rw [if_pos (show nI 0 = 0 from rfl), if_pos (by decide)]
theorem begins_a (rg : RG σ w T n K) : ∃ τ, Fr Wgf σ τ ∧ RF τ 5 K.1 ∧ f_X11_begins 118 0 1 (mk σ w u) = some (0, mk τ w u) := by
  obtain ⟨τ, ⟨fr, rf⟩, e⟩ := wrong_G (w := w) (u := u) rg (f := 5) (by omega) (by omega)
  refine ⟨τ, fr, rf, ?_⟩
  unfold f_X11_begins f_X11_begins_9 f_X11_begins_18
  rw [zg118, if_pos rfl, if_neg (by decide), show f_X11_wrong 118 5 (mk σ w u) = some (mk τ w u) from e, Option.bind_some, gd_n rf, Option.bind_some]
  dsimp only
  rw [if_pos (show nI 0 = 0 from rfl), if_pos (by decide)]
theorem sign_any {x : Int32} : ∃ v, f_X11_isSign 118 x (mk σ w u) = some (v, mk σ w u) := by
  unfold f_X11_isSign f_X11_isSign_20 f_X11_isSign_21
  rw [zg118, zi118_16, Option.bind_some]
  split
  · rw [zi118_20, Option.bind_some]
    split
    · exact ⟨1, by rw [if_pos (by decide)]⟩
    · exact ⟨0, by rw [if_pos (by decide)]⟩
  · exact ⟨0, by rw [if_pos (by decide)]⟩
theorem rend_0 {f p : Nat} (fr : Fr Wrz σ τ) (rf : RF τ f p) : rlq T n σ u (sem9 T n (.inl (f, p))) (f_X11_line_236 118 (mk τ w u)) := by
  obtain ⟨v, hv⟩ := sign_any (σ := τ) (w := w) (u := u) (x := 59)
  unfold f_X11_line_236 f_X11_need
  rw [hv, Option.bind_some]
  dsimp only
  rw [zg118, gd_n rf, Option.bind_some]
  dsimp only
  rw [if_pos (show nI 0 = 0 from rfl), Option.bind_some]
  exact ⟨τ, w, ⟨fr, rf⟩, rfl⟩
theorem rend_1 (fr : Fr Wrz σ τ) (rg : RG τ w T n K) (rb : RB τ Q P) : rlq T n σ u (sem9 T n (.inr (Q, P, K))) (f_X11_line_236 118 (mk τ w u)) := by
  unfold f_X11_line_236 f_X11_need f_X11_need_24 sem9
  by_cases c : K.2.2 = 3 ∧ T K.1 = 59
  · obtain ⟨τ2, w2, ⟨fr2, rg2⟩, e2⟩ := goes_G (u := u) rg
    simp only [if_pos c]
    rw [rsg_1 (c := 59) (x := 59) rfl (by decide) rg c, Option.bind_some]
    dsimp only
    rw [zg118, isGood_1 rg.2.1, Option.bind_some]
    dsimp only
    rw [if_neg (show ¬ nI 1 = 0 by decide), if_neg (show ¬ nI 1 = 0 by decide), e2, Option.bind_some, Option.bind_some]
    exact ⟨τ2, w2, ⟨Fr_t fr (Wgo_r fr2), rg2, RB_F rb fr2 (fun q k e => by unfold Wgo at e; omega)⟩, rfl⟩
  · obtain ⟨τ2, ⟨fr2, rf2⟩, e2⟩ := wrong_G (w := w) (u := u) rg (f := 1) (by omega) (by omega)
    simp only [if_neg c]
    rw [rsg_0 (c := 59) (x := 59) rfl (by decide) rg c, Option.bind_some]
    dsimp only
    rw [zg118, isGood_1 rg.2.1, Option.bind_some]
    dsimp only
    rw [if_neg (show ¬ nI 1 = 0 by decide), if_pos (show nI 0 = 0 from rfl), show f_X11_wrong 118 1 (mk τ w u) = some (mk τ2 w u) from e2, Option.bind_some, Option.bind_some]
    exact ⟨τ2, w, ⟨Fr_t fr (Wgf_r fr2), rf2⟩, rfl⟩
theorem rend_b {x : LnR} {A : Option hp_H} (h : rlq T n σ u x A) : rlq T n σ u (sem9 T n x) (A.bind fun r => f_X11_line_236 118 r) := by
  match x, h with
  | .inl (f, p), ⟨τ, w, ⟨fr, rf⟩, e⟩ => rw [e, Option.bind_some]; exact rend_0 fr rf
  | .inr (Q, P, K), ⟨τ, w, ⟨fr, rg, rb⟩, e⟩ => rw [e, Option.bind_some]; exact rend_1 fr rg rb
theorem i1 (m : Nat) : (1 : Int32) + nI m = nI (1 + m) := nI_add 1 m
theorem i9 (m : Nat) : (9 : Int32) + nI m = nI (9 + m) := nI_add 9 m
theorem i17 (m : Nat) : (17 : Int32) + nI m = nI (17 + m) := nI_add 17 m
theorem i25 (m : Nat) : (25 : Int32) + nI m = nI (25 + m) := nI_add 25 m
theorem readsMan_R (rg : RG σ w T n K) (rb : RB σ Q P) (wq : WQ Q P) (h8 : Q 1 ≠ 8) : rlq T n σ u (man9 T n Q P K) (f_X11_readsMan 118 (mk σ w u)) := by
  have w1 := wq.2.1
  obtain ⟨a0, a1, a2, a3, a4, a5, a6, a7, a8⟩ := rb
  have ff : ∀ (τ : Nat → Nat → Int32) (x y : Int32), Fr (fun q k => q = 124) τ (s2 (s2 τ 124 (9 + Q 1) x) 124 (17 + Q 1) y) := fun τ x y => Fr_st (Fr_s rfl) rfl
  have f1 : ∀ (τ : Nat → Nat → Int32) (x : Int32), Fr (fun q k => q = 124) τ (s2 τ 124 (1 + Q 1) x) := fun τ x => Fr_s rfl
  have W4 : ∀ {σ τ : Nat → Nat → Int32}, Fr (fun q k => q = 124) σ τ → Fr Wrz σ τ := fun h => Fr_m h (fun q k e => by unfold Wrz; omega)
  unfold f_X11_readsMan f_X11_readsMan_64 man9
  rw [zg118, zi118_23, Option.bind_some, a1, zr118_32, Option.bind_some, i1, i9, i17]
  have h1 := number_R (u := u) rg (lo := 0) (hi := 4095) (by omega) (by omega)
  match hr : num9 T n 0 4095 K, h1 with
  | .inl (f, p), h1 =>
    obtain ⟨v, τ, fr, rf, e⟩ := h1
    have rf2 := RF_F rf (f1 τ v) (fun q k e => by omega)
    have rf3 := RF_F rf2 (ff (s2 τ 124 (1 + Q 1) v) 0 0) (fun q k e => by omega)
    rw [show f_X11_number 118 0 4095 (mk σ w u) = some (v, mk τ w u) from e, Option.bind_some]
    dsimp only
    rw [zb124 (by omega), Option.bind_some, zr118_32, Option.bind_some, number_n rf2, Option.bind_some]
    dsimp only
    rw [zb124 (by omega), Option.bind_some, zr118_32, Option.bind_some, zb124 (by omega), Option.bind_some, gd_n rf3, Option.bind_some]
    dsimp only
    rw [if_pos (show nI 0 = 0 from rfl)]
    exact ⟨_, w, ⟨Fr_t (Wgf_r fr) (Fr_t (W4 (f1 τ v)) (W4 (ff _ 0 0))), rf3⟩, rfl⟩
  | .inr (a, K1), h1 =>
    obtain ⟨τ, w2, fr, rg1, e⟩ := h1
    have rg2 := RG_F rg1 (f1 τ (nI a)) (fun q k e => by omega)
    rw [show f_X11_number 118 0 4095 (mk σ w u) = some (nI a, mk τ w2 u) from e, Option.bind_some]
    dsimp only
    rw [zb124 (by omega), Option.bind_some, zr118_32, Option.bind_some]
    have h2 := number_R (u := u) rg2 (lo := 1) (hi := 9) (by omega) (by omega)
    match hr2 : num9 T n 1 9 K1, h2 with
    | .inl (f, p), h2 =>
      obtain ⟨v, τ3, fr3, rf3, e3⟩ := h2
      have rf4 := RF_F rf3 (ff τ3 v 0) (fun q k e => by omega)
      rw [show f_X11_number 118 1 9 (mk (s2 τ 124 (1 + Q 1) (nI a)) w2 u) = some (v, mk τ3 w2 u) from e3, Option.bind_some]
      dsimp only
      rw [zb124 (by omega), Option.bind_some, zr118_32, Option.bind_some, zb124 (by omega), Option.bind_some, gd_n rf4, Option.bind_some]
      dsimp only
      rw [if_pos (show nI 0 = 0 from rfl)]
      exact ⟨_, w2, ⟨Fr_t (Wgo_r fr) (Fr_t (W4 (f1 τ _)) (Fr_t (Wgf_r fr3) (W4 (ff _ v 0)))), rf4⟩, rfl⟩
    | .inr (b, K2), h2 =>
      obtain ⟨τ3, w3, fr3, rg3, e3⟩ := h2
      have rg4 := RG_F rg3 (ff τ3 (nI b) 0) (fun q k e => by omega)
      have g23 : (s2 (s2 τ3 124 (9 + Q 1) (nI b)) 124 (17 + Q 1) 0) 118 23 = nI (Q 1) := by rw [s2_off (by omega), s2_off (by omega), fr3 118 23 (by unfold Wgo; omega), s2_off (by omega), fr 118 23 (by unfold Wgo; omega)]; exact a1
      rw [show f_X11_number 118 1 9 (mk (s2 τ 124 (1 + Q 1) (nI a)) w2 u) = some (nI b, mk τ3 w3 u) from e3, Option.bind_some]
      dsimp only
      rw [zb124 (by omega), Option.bind_some, zr118_32, Option.bind_some, zb124 (by omega), Option.bind_some, isGood_1 rg4.2.1, Option.bind_some]
      dsimp only
      rw [if_neg (show ¬ nI 1 = 0 by decide), zi118_23, Option.bind_some, g23, nI_1, zw118_23, Option.bind_some]
      have f5 : Fr (fun q k => q = 118 ∧ k = 23) (s2 (s2 τ3 124 (9 + Q 1) (nI b)) 124 (17 + Q 1) 0) (s2 (s2 (s2 τ3 124 (9 + Q 1) (nI b)) 124 (17 + Q 1) 0) 118 23 (nI (Q 1 + 1))) := Fr_s ⟨rfl, rfl⟩
      refine ⟨_, w3, ⟨Fr_t (Wgo_r fr) (Fr_t (W4 (f1 τ _)) (Fr_t (Wgo_r fr3) (Fr_t (W4 (ff _ (nI b) 0)) (Fr_m f5 (fun q k e => by unfold Wrz; omega))))), RG_F rg4 f5 (fun q k e => by omega), ?_⟩, rfl⟩
      have g : ∀ q k, q ≠ 124 → ¬ (q = 118 ∧ k = 23) → ¬ (q = 118 ∧ 15 ≤ k ∧ k ≤ 20) → (s2 (s2 (s2 τ3 124 (9 + Q 1) (nI b)) 124 (17 + Q 1) 0) 118 23 (nI (Q 1 + 1))) q k = σ q k := fun q k x1 x2 x3 => by rw [s2_off x2, s2_off (by omega), s2_off (by omega), fr3 q k (by unfold Wgo; omega), s2_off (by omega), fr q k (by unfold Wgo; omega)]
      have o : ∀ k, k ≠ 1 → k ≠ 13 + Q 1 → k ≠ 21 + Q 1 → un (un (un Q (13 + Q 1) a) (21 + Q 1) b) 1 (Q 1 + 1) k = Q k := fun k x1 x2 x3 => by rw [un_off x1, un_off x3, un_off x2]
      refine ⟨?_, ?_, ?_, ?_, ?_, ?_, ?_, ?_, ?_⟩
      · rw [g _ _ (by omega) (by omega) (by omega), a0, o 0 (by omega) (by omega) (by omega)]
      · rw [s2_at rfl rfl, un_at rfl]
      · rw [g _ _ (by omega) (by omega) (by omega), a2, o 2 (by omega) (by omega) (by omega)]
      · rw [g _ _ (by omega) (by omega) (by omega), a3, o 4 (by omega) (by omega) (by omega)]
      · rw [g _ _ (by omega) (by omega) (by omega), a4, o 3 (by omega) (by omega) (by omega)]
      · intro h; rw [g _ _ (by omega) (by omega) (by omega), g _ _ (by omega) (by omega) (by omega)]; exact a5 h
      · intro h; exact ⟨by rw [g _ _ (by omega) (by omega) (by omega)]; exact (a6 h).1, fun j x hx => by rw [g _ _ (by omega) (by omega) (by omega)]; exact (a6 h).2.1 j x hx, (a6 h).2.2⟩
      · intro j hj
        rw [o 4 (by omega) (by omega) (by omega)] at hj
        have := wq.2.2.2.2.1
        rw [g _ _ (by omega) (by omega) (by omega), a7 j hj, o (5 + j) (by omega) (by omega) (by omega)]
      · intro k hk
        have a8k := a8 k hk
        unfold ZQ at a8k ⊢
        rw [s2_off (by omega)]
        by_cases c17 : k = 17 + Q 1
        · rw [s2_at rfl c17, if_neg (by omega), if_neg (by omega), if_pos (by omega)]; rfl
        · rw [s2_off (by omega)]
          by_cases c9 : k = 9 + Q 1
          · rw [s2_at rfl c9, if_neg (by omega), if_pos (by omega), un_off (by omega), un_at (by omega)]
          · rw [s2_off (by omega), fr3 124 k (by unfold Wgo; omega)]
            by_cases c1 : k = 1 + Q 1
            · rw [s2_at rfl c1, if_neg (by omega), if_pos (by omega), un_off (by omega), un_off (by omega), un_at (by omega)]
            · rw [s2_off (by omega), fr 124 k (by unfold Wgo; omega), a8k]
              by_cases k0 : k = 0
              · rw [if_pos k0, if_pos k0]
              · rw [if_neg k0, if_neg k0]
                by_cases k17 : k < 17
                · rw [if_pos k17, if_pos k17, o (12 + k) (by omega) (by omega) (by omega)]
                · rw [if_neg k17, if_neg k17]
                  by_cases k25 : k < 25
                  · rw [if_pos k25, if_pos k25]
                  · rw [if_neg k25, if_neg k25, o (4 + k) (by omega) (by omega) (by omega)]
end RL9
