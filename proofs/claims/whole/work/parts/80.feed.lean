/-! L3: feed -/
def sq4 (j : Nat) : Int32 := if j = 0 then 24 else if j = 1 then 16 else if j = 2 then 8 else if j = 3 then 0 else -8
theorem sq4_s : ∀ j, j < 4 → ¬ sq4 j < 0 ∧ sq4 j + (-8) = sq4 (j + 1) := by decide
theorem sq4_4 : sq4 4 < 0 := by decide
def bn (x : Int32) (j : Nat) : Nat := ((x >>> (sq4 j &&& 31)) &&& (255 : Int32)).toBitVec.toNat
theorem bn_lt (x : Int32) (j : Nat) : bn x j < 256 := by
  unfold bn
  rw [Int32.toBitVec_and, BitVec.toNat_and]
  exact Nat.lt_of_le_of_lt (Nat.and_le_right) (by decide)
theorem bn_e (x : Int32) (j : Nat) : (x >>> (sq4 j &&& 31)) &&& (255 : Int32) = nI (bn x j) := nI_all _
def TT (T : Nat → Nat) (t : Nat) (x : Int32) (j : Nat) : Nat → Nat := fun i => if t ≤ i ∧ i < t + j then bn x (i - t) else T i
theorem TT_lt {T : Nat → Nat} (h : ∀ i, i < 700 → T i < 256) (t : Nat) (x : Int32) (j : Nat) : ∀ i, i < 700 → TT T t x j i < 256 := by
  intro i hi
  unfold TT
  split
  · exact bn_lt _ _
  · exact h i hi
section AU
variable {σ : Nat → Nat → Int32} {w u : Int64}
theorem tape_f {T : Nat → Nat} {t : Nat} {x : Int32} (hT : ∀ i, i < 700 → σ 2 i = nI (T i)) (ht : σ 0 1 = nI t) (h4 : t + 4 ≤ 700) : RN (fun τ => Fr (fun q k => q = 2 ∨ (q = 0 ∧ k = 1)) σ τ ∧ τ 0 1 = nI (t + 4) ∧ ∀ i, i < 700 → τ 2 i = nI (TT T t x 4 i)) w u (f_X10_tapeNumber 0 x (mk σ w u)) := by
  unfold f_X10_tapeNumber
  rw [zg0]
  unfold l_X10_tapeNumber_3
  rw [show (24 : Int32) = sq4 0 from rfl]
  refine lp_S (RN (fun τ => Fr (fun q k => q = 2 ∨ (q = 0 ∧ k = 1)) σ τ ∧ τ 0 1 = nI (t + 4) ∧ ∀ i, i < 700 → τ 2 i = nI (TT T t x 4 i)) w u) (fun j τ => (0, x, sq4 j, mk τ w u)) (fun j τ => Fr (fun q k => q = 2 ∨ (q = 0 ∧ k = 1)) σ τ ∧ τ 0 1 = nI (t + j) ∧ ∀ i, i < 700 → τ 2 i = nI (TT T t x j i)) 4 ?_ ?_ 4 0 _ σ (by omega) (by omega) ⟨Fr_r _ _, ht, fun i hi => by unfold TT; rw [if_neg (by omega)]; exact hT i hi⟩
  · intro j hj k τ ⟨fr, h1, h2⟩ hk
    obtain ⟨g1, g2⟩ := sq4_s j hj
    have h := hk (s2 (s2 τ 2 (t + j) (nI (bn x j))) 0 1 (nI (t + j + 1))) ⟨Fr_st (Fr_st fr (Or.inl rfl)) (Or.inr ⟨rfl, rfl⟩), by rw [s2_at rfl rfl]; rfl, fun i hi => by
      unfold TT
      by_cases c : i = t + j
      · rw [s2_off (by omega), s2_at rfl c, if_pos (by omega), show i - t = j by omega]
      · rw [s2_off (by omega), s2_off (by omega), h2 i hi]
        unfold TT
        by_cases c2 : t ≤ i ∧ i < t + j
        · rw [if_pos c2, if_pos (by omega)]
        · rw [if_neg c2, if_neg (by omega)]⟩
    dsimp only at h ⊢
    unfold f_X10_tapeNumber_3
    rw [if_neg g1, zr0_0, Option.bind_some, zi0_1, Option.bind_some, h1, bn_e, zs1 (by omega), Option.bind_some, zi0_1, Option.bind_some, s2_off (by omega), h1, nI_1, zw0_1, Option.bind_some, g2]
    exact h
  · intro k τ hI
    dsimp only
    unfold f_X10_tapeNumber_3
    rw [if_pos sq4_4]
    exact ⟨τ, hI, rfl⟩
theorem lays_f {T : Nat → Nat} {t : Nat} {x : Int32} (hT : ∀ i, i < 700 → σ 121 i = nI (T i)) (ht : σ 118 10 = nI t) (h4 : t + 4 ≤ 700) : RN (fun τ => Fr (fun q k => q = 121 ∨ (q = 118 ∧ k = 10)) σ τ ∧ τ 118 10 = nI (t + 4) ∧ ∀ i, i < 700 → τ 121 i = nI (TT T t x 4 i)) w u (f_X11_lays 118 x (mk σ w u)) := by
  unfold f_X11_lays
  rw [zg118]
  unfold l_X11_lays_3
  rw [show (24 : Int32) = sq4 0 from rfl]
  refine lp_S (RN (fun τ => Fr (fun q k => q = 121 ∨ (q = 118 ∧ k = 10)) σ τ ∧ τ 118 10 = nI (t + 4) ∧ ∀ i, i < 700 → τ 121 i = nI (TT T t x 4 i)) w u) (fun j τ => (118, x, sq4 j, mk τ w u)) (fun j τ => Fr (fun q k => q = 121 ∨ (q = 118 ∧ k = 10)) σ τ ∧ τ 118 10 = nI (t + j) ∧ ∀ i, i < 700 → τ 121 i = nI (TT T t x j i)) 4 ?_ ?_ 4 0 _ σ (by omega) (by omega) ⟨Fr_r _ _, ht, fun i hi => by unfold TT; rw [if_neg (by omega)]; exact hT i hi⟩
  · intro j hj k τ ⟨fr, h1, h2⟩ hk
    obtain ⟨g1, g2⟩ := sq4_s j hj
    have h := hk (s2 (s2 τ 121 (t + j) (nI (bn x j))) 118 10 (nI (t + j + 1))) ⟨Fr_st (Fr_st fr (Or.inl rfl)) (Or.inr ⟨rfl, rfl⟩), by rw [s2_at rfl rfl]; rfl, fun i hi => by
      unfold TT
      by_cases c : i = t + j
      · rw [s2_off (by omega), s2_at rfl c, if_pos (by omega), show i - t = j by omega]
      · rw [s2_off (by omega), s2_off (by omega), h2 i hi]
        unfold TT
        by_cases c2 : t ≤ i ∧ i < t + j
        · rw [if_pos c2, if_pos (by omega)]
        · rw [if_neg c2, if_neg (by omega)]⟩
    dsimp only at h ⊢
    unfold f_X11_lays_3
    rw [if_neg g1, zr118_9, Option.bind_some, zi118_10, Option.bind_some, h1, bn_e, zb121 (by omega), Option.bind_some, zi118_10, Option.bind_some, s2_off (by omega), h1, nI_1, zw118_10, Option.bind_some, g2]
    exact h
  · intro k τ hI
    dsimp only
    unfold f_X11_lays_3
    rw [if_pos sq4_4]
    exact ⟨τ, hI, rfl⟩
theorem ag_feed (x1 x2 x3 x4 x5 : Int32) : Ag0 (fun h => f_X10_feed 0 x1 x2 x3 x4 x5 h) (fun h => f_X11_feed 118 x1 x2 x3 x4 x5 h) := by
  intro σ w u iv
  have iv0 := iv
  obtain ⟨A, P, X, cv, rv, ia, is, ik, ⟨t, T, ht, ht1, ht2, hT2, hf2, hst⟩⟩ := iv
  by_cases c : t + 20 ≤ 700
  · have hle : nI t + 20 ≤ 700 := by rw [show nI t + (20 : Int32) = nI (t + 20) from nI_add t 20]; exact nI_le (b := 700) c (by decide)
    obtain ⟨T5, hT5⟩ : ∃ T5, T5 = TT (TT (TT (TT (TT T t x1 4) (t + 4) x2 4) (t + 4 + 4) x3 4) (t + 4 + 4 + 4) x4 4) (t + 4 + 4 + 4 + 4) x5 4 := ⟨_, rfl⟩
    have hl : ∀ i, i < 700 → T5 i < 256 := by rw [hT5]; exact TT_lt (TT_lt (TT_lt (TT_lt (TT_lt (fun i hi => (hT2 i hi).1) _ _ _) _ _ _) _ _ _) _ _ _) _ _ _
    obtain ⟨a1, ⟨f1, n1, g1⟩, e1⟩ := tape_f (w := w) (u := u) (x := x1) (fun i hi => (hT2 i hi).2.1) ht1 (by omega)
    obtain ⟨a2, ⟨f2, n2, g2⟩, e2⟩ := tape_f (w := w) (u := u) (x := x2) g1 n1 (by omega)
    obtain ⟨a3, ⟨f3, n3, g3⟩, e3⟩ := tape_f (w := w) (u := u) (x := x3) g2 n2 (by omega)
    obtain ⟨a4, ⟨f4, n4, g4⟩, e4⟩ := tape_f (w := w) (u := u) (x := x4) g3 n3 (by omega)
    obtain ⟨a5, ⟨f5, n5, g5⟩, e5⟩ := tape_f (w := w) (u := u) (x := x5) g4 n4 (by omega)
    have fa := Fr_t f1 (Fr_t f2 (Fr_t f3 (Fr_t f4 f5)))
    have r0 : (s2 a5 118 0 0) 118 10 = nI t := by rw [s2_off (by omega), fa 118 10 (by omega)]; exact ht2
    have rT : ∀ i, i < 700 → (s2 a5 118 0 0) 121 i = nI (T i) := fun i hi => by rw [s2_off (by omega), fa 121 i (by omega)]; exact (hT2 i hi).2.2
    obtain ⟨b1, ⟨p1, m1, q1⟩, d1⟩ := lays_f (w := w) (u := u) (x := x1) rT r0 (by omega)
    obtain ⟨b2, ⟨p2, m2, q2⟩, d2⟩ := lays_f (w := w) (u := u) (x := x2) q1 m1 (by omega)
    obtain ⟨b3, ⟨p3, m3, q3⟩, d3⟩ := lays_f (w := w) (u := u) (x := x3) q2 m2 (by omega)
    obtain ⟨b4, ⟨p4, m4, q4⟩, d4⟩ := lays_f (w := w) (u := u) (x := x4) q3 m3 (by omega)
    obtain ⟨b5, ⟨p5, m5, q5⟩, d5⟩ := lays_f (w := w) (u := u) (x := x5) q4 m4 (by omega)
    have fb := Fr_t p1 (Fr_t p2 (Fr_t p3 (Fr_t p4 p5)))
    have fc : Fr (fun q k => (q = 118 ∧ k = 0) ∨ (q = 121 ∨ (q = 118 ∧ k = 10))) a5 b5 := Fr_t (Fr_s (Or.inl ⟨rfl, rfl⟩)) (Fr_m fb (fun q k e => Or.inr e))
    have fd : Fr (fun q k => (q = 2 ∨ (q = 0 ∧ k = 1)) ∨ ((q = 118 ∧ k = 0) ∨ (q = 121 ∨ (q = 118 ∧ k = 10)))) σ b5 := Fr_t (Fr_m fa (fun q k e => Or.inl e)) (Fr_m fc (fun q k e => Or.inr e))
    rw [← hT5] at g5 q5
    refine ⟨nI (t + 4 + 4 + 4 + 4 + 4), b5, w, mk a5 w u, ⟨A, P, X, CV_F cv fd (fun q k e => by omega), RV_F rv fd (fun q k e => by omega), IA_F ia fd (fun q k e => by unfold Wa; omega), IS_F is fd (fun q k e => by unfold Wa; omega), IK_F ik fd (fun q k e => by unfold Wst Wm Wa; omega), ⟨t + 4 + 4 + 4 + 4 + 4, T5, by omega, by rw [fc 0 1 (by omega)]; exact n5, m5, fun j hj => ⟨hl j hj, by rw [fc 2 j (by omega)]; exact g5 j hj, q5 j hj⟩, by rw [fd 0 2 (by omega), fd 118 12 (by omega)]; exact hf2, fun i hi => by rw [fd 4 i (by omega), fd 122 i (by omega)]; exact hst i hi⟩⟩, ?_, ?_⟩
    · show f_X10_feed 0 _ _ _ _ _ _ = _
      unfold f_X10_feed
      rw [zg0, zi0_1, Option.bind_some, ht1, if_pos hle, e1, Option.bind_some, e2, Option.bind_some, e3, Option.bind_some, e4, Option.bind_some, e5, Option.bind_some, zi0_1, Option.bind_some, n5]
    · show f_X11_feed 118 _ _ _ _ _ _ = _
      unfold f_X11_feed
      rw [zg118, zw118_0, Option.bind_some, zi118_10, Option.bind_some, r0, if_pos hle, d1, Option.bind_some, d2, Option.bind_some, d3, Option.bind_some, d4, Option.bind_some, d5, Option.bind_some, zi118_10, Option.bind_some, m5]
  · have hle : ¬ nI t + 20 ≤ 700 := by rw [show nI t + (20 : Int32) = nI (t + 20) from nI_add t 20]; exact nI_ge (a := 700) (by omega) (by omega)
    refine Ag0_ok iv0 (V := -1) ⟨σ, Fr_r _ _, ?_⟩ (fun τ fr => ⟨s2 τ 118 0 0, Fr_r _ _, ?_⟩)
    · show f_X10_feed 0 _ _ _ _ _ _ = _
      unfold f_X10_feed
      rw [zg0, zi0_1, Option.bind_some, ht1, if_neg hle]
    · show f_X11_feed 118 _ _ _ _ _ _ = _
      unfold f_X11_feed
      rw [zg118, zw118_0, Option.bind_some, zi118_10, Option.bind_some, s2_off (by omega), fr 118 10 (by unfold Ws; omega), ht2, if_neg hle]
end AU
