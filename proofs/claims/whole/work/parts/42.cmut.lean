/-! L3: the class's marches: what changes them -/
theorem an_tb (a b i : Nat) : (an a b).testBit i = (a.testBit i && !b.testBit i) := by
  unfold an
  rw [Nat.testBit_xor, Nat.testBit_and]
  cases a.testBit i <;> cases b.testBit i <;> rfl
theorem an_le (a b : Nat) : an a b ≤ a := by
  have h : an a b &&& a = an a b := by
    apply Nat.eq_of_testBit_eq
    intro i
    rw [Nat.testBit_and, an_tb]
    cases a.testBit i <;> cases b.testBit i <;> rfl
  rw [← h]
  exact Nat.and_le_right
theorem pc_mono {a b : Nat} (n : Nat) (h : ∀ i, i < n → a.testBit i = true → b.testBit i = true) : pc a n ≤ pc b n := by
  induction n with
  | zero => exact Nat.le_refl _
  | succ n ih =>
    have h1 := ih (fun i hi => h i (by omega))
    have h2 : bt a n ≤ bt b n := by
      rw [bt_eq, bt_eq]
      have h3 := h n (by omega)
      cases ha : a.testBit n
      · exact Nat.zero_le _
      · rw [h3 ha]; exact Nat.le_refl _
    show pc a n + bt a n ≤ pc b n + bt b n
    omega
theorem pc_or1 (a m : Nat) : ∀ n, pc (a ||| 2 ^ m) n ≤ pc a n + (if m < n then 1 else 0) := by
  intro n
  induction n with
  | zero => exact Nat.zero_le _
  | succ n ih =>
    have h2 : bt (a ||| 2 ^ m) n ≤ bt a n + (if m = n then 1 else 0) := by
      rw [bt_eq, bt_eq, Nat.testBit_or, Nat.testBit_two_pow]
      by_cases hm : m = n
      · rw [if_pos hm]
        cases a.testBit n <;> simp [hm]
      · rw [if_neg hm]
        simp [hm]
    show pc (a ||| 2 ^ m) n + bt (a ||| 2 ^ m) n ≤ pc a n + bt a n + _
    by_cases hm : m = n
    · rw [if_pos hm] at h2
      rw [if_neg (by omega)] at ih
      rw [if_pos (by omega)]
      omega
    · rw [if_neg hm] at h2
      by_cases hn : m < n
      · rw [if_pos hn] at ih
        rw [if_pos (by omega)]
        omega
      · rw [if_neg hn] at ih
        rw [if_neg (by omega)]
        omega
section WW
variable {A X : Nat → Nat} {man beat r q c : Nat}
theorem ng_W {P : List (Nat × Nat)} {w : Nat} (wa : WA A) (wx : WX A X) (hn : X 0 + 1 < 2000) : WX A (ng A P w X) := rt_W wa (hu_W wx) (by rw [hu_k (by omega)]; exact hn)
theorem WX_t {a : Nat} (wx : WX A X) (hm : man < 8) (ha : a < 2 ^ A 0) : WX A (un X (1 + man) a) := by
  obtain ⟨h0, h1, h2, h3⟩ := wx
  refine ⟨by rw [un_off (by omega)]; exact h0, fun i hi => ?_, fun r q i hr hq => ?_, fun r h4 h5 => by rw [un_off (by omega)]; exact h3 r h4 h5⟩
  · obtain ⟨x1, x2, x3, x4⟩ := h1 i hi
    rw [un_off (k := 1 + man) (j := 9 + i) (by omega), un_off (k := 1 + man) (j := 17 + i) (by omega), un_off (k := 1 + man) (j := 25 + i) (by omega)]
    refine ⟨?_, x2, x3, x4⟩
    by_cases h : i = man
    · rw [un_at (by omega)]; exact ha
    · rw [un_off (by omega)]; exact x1
  · rw [un_off (by omega), un_off (by omega)]
    exact h2 r q i hr hq
theorem WX_l {a : Nat} (wx : WX A X) (hm : man < 8) (ha : a ≤ 9) : WX A (un X (9 + man) a) := by
  obtain ⟨h0, h1, h2, h3⟩ := wx
  refine ⟨by rw [un_off (by omega)]; exact h0, fun i hi => ?_, fun r q i hr hq => ?_, fun r h4 h5 => by rw [un_off (by omega)]; exact h3 r h4 h5⟩
  · obtain ⟨x1, x2, x3, x4⟩ := h1 i hi
    rw [un_off (k := 9 + man) (j := 1 + i) (by omega), un_off (k := 9 + man) (j := 17 + i) (by omega), un_off (k := 9 + man) (j := 25 + i) (by omega)]
    refine ⟨x1, ?_, x3, x4⟩
    by_cases h : i = man
    · rw [un_at (by omega)]; exact ha
    · rw [un_off (by omega)]; exact x2
  · rw [un_off (by omega), un_off (by omega)]
    exact h2 r q i hr hq
theorem th_W (wx : WX A X) (hm : man < 8) (hb : beat < A 0) : WX A (th man beat X) := WX_t wx hm (Nat.xor_lt_two_pow (wx.2.1 man hm).1 (Nat.pow_lt_pow_right (by decide) hb))
theorem xc_r (hr : r < 8) (hq : q < 8) (i : Nat) : xc r q X (25 + i) = X (25 + (if i = q then r else if i = r then q else i)) := by
  unfold xc
  by_cases h1 : i = q
  · rw [if_pos h1, un_at (by omega)]
  · rw [if_neg h1, un_off (by omega)]
    by_cases h2 : i = r
    · rw [if_pos h2, un_at (by omega)]
    · rw [if_neg h2, un_off (by omega)]
theorem xc_k {k : Nat} (h : k < 25) : xc r q X k = X k := by
  unfold xc
  rw [un_off (by omega), un_off (by omega)]
theorem xc_W (wa : WA A) (wx : WX A X) (hr1 : r < A 2) (hq1 : q < A 2) : WX A (xc r q X) := by
  obtain ⟨h0, h1, h2, h3⟩ := wx
  have hR := wa.2.2.2.1
  have hr : r < 8 := by omega
  have hq : q < 8 := by omega
  refine ⟨by rw [xc_k (by omega)]; exact h0, fun i hi => ?_, fun a b i ha hb => ?_, fun a h4 h5 => by rw [xc_r hr hq, if_neg (by omega), if_neg (by omega)]; exact h3 a h4 h5⟩
  · obtain ⟨x1, x2, x3, -⟩ := h1 i hi
    rw [xc_k (by omega), xc_k (by omega), xc_k (by omega), xc_r hr hq]
    refine ⟨x1, x2, x3, (h1 _ ?_).2.2.2⟩
    split
    · omega
    · split <;> omega
  · rw [xc_r hr hq, xc_r hr hq]
    intro e1 e2
    have h := h2 _ _ i (by split; omega; split <;> omega) (by split; omega; split <;> omega) e1 e2
    by_cases c1 : a = q
    · rw [if_pos c1] at h
      by_cases c2 : b = q
      · omega
      · rw [if_neg c2] at h
        split at h <;> omega
    · rw [if_neg c1] at h
      by_cases c2 : b = q
      · rw [if_pos c2] at h
        split at h <;> omega
      · rw [if_neg c2] at h
        split at h <;> split at h <;> omega
theorem pl_r {i : Nat} (h : i < A 2) : pl A man c X (25 + i) = if i + 1 = c then an (X (25 + i)) (2 ^ man) ||| 2 ^ man else an (X (25 + i)) (2 ^ man) := by
  unfold pl
  rw [if_pos (by omega)]
  by_cases h2 : i + 1 = c
  · rw [if_pos (by omega), if_pos h2]
  · rw [if_neg (by omega), if_neg h2]
theorem pl_k {k : Nat} (h : k < 25 ∨ 25 + A 2 ≤ k) : pl A man c X k = X k := by
  unfold pl
  rw [if_neg (by omega)]
theorem an_lt {a b n : Nat} (h : a < n) : an a b < n := Nat.lt_of_le_of_lt (an_le a b) h
theorem pc_an (a b n : Nat) : pc (an a b) n ≤ pc a n := pc_mono n (fun i _ h => by rw [an_tb] at h; cases ha : a.testBit i <;> simp_all)
theorem pl_W (wa : WA A) (wx : WX A X) (hm : man < A 1) (hc : c = 0 ∨ pc (an (X (24 + c)) (2 ^ man)) 12 < 4) : WX A (pl A man c X) := by
  obtain ⟨h0, h1, h2, h6⟩ := wx
  have hR := wa.2.2.2.1
  have hM := wa.2.2.1
  refine ⟨by rw [pl_k (by omega)]; exact h0, fun i hi => ?_, fun a b i ha hb => ?_, fun r h4 h5 => by rw [pl_k (by omega)]; exact h6 r h4 h5⟩
  · obtain ⟨x1, x2, x3, x4, x5⟩ := h1 i hi
    rw [pl_k (by omega), pl_k (by omega), pl_k (by omega)]
    refine ⟨x1, x2, x3, ?_⟩
    by_cases hr : i < A 2
    · rw [pl_r hr]
      split
      · next h =>
        refine ⟨Nat.or_lt_two_pow (an_lt x4) (Nat.pow_lt_pow_right (by decide) hm), ?_⟩
        have h3 := pc_or1 (an (X (25 + i)) (2 ^ man)) man 12
        rw [if_pos (by omega)] at h3
        rcases hc with h4 | h4
        · omega
        · rw [show 24 + c = 25 + i by omega] at h4
          omega
      · exact ⟨an_lt x4, Nat.le_trans (pc_an _ _ _) x5⟩
    · rw [pl_k (by omega)]
      exact ⟨x4, x5⟩
  · have key : ∀ r, r < 8 → bt (pl A man c X (25 + r)) i = 1 → (bt (X (25 + r)) i = 1 ∧ i ≠ man) ∨ (i = man ∧ r + 1 = c) := by
      intro r hr hb1
      by_cases h : r < A 2
      · rw [pl_r h] at hb1
        split at hb1
        · next h3 =>
          rw [bt_1, Nat.testBit_or, an_tb, Nat.testBit_two_pow] at hb1
          by_cases hi : man = i
          · exact Or.inr ⟨hi.symm, h3⟩
          · refine Or.inl ⟨?_, fun e => hi e.symm⟩
            rw [bt_1]
            simp [hi] at hb1
            exact hb1
        · rw [bt_1, an_tb, Nat.testBit_two_pow] at hb1
          by_cases hi : man = i
          · simp [hi] at hb1
          · refine Or.inl ⟨?_, fun e => hi e.symm⟩
            rw [bt_1]
            simp [hi] at hb1
            exact hb1
      · rw [pl_k (by omega), h6 r (by omega) hr] at hb1
        rw [bt_1] at hb1
        simp at hb1
    intro b1 b2
    rcases key a ha b1 with ⟨k1, k2⟩ | ⟨k1, k2⟩
    · rcases key b hb b2 with ⟨k3, k4⟩ | ⟨k3, k4⟩
      · exact h2 a b i ha hb k1 k3
      · omega
    · rcases key b hb b2 with ⟨k3, k4⟩ | ⟨k3, k4⟩
      · omega
      · omega
end WW
section MU
variable {σ : Nat → Nat → Int32} {w u : Int64} {m i : Nat} {A X : Nat → Nat} {P : List (Nat × Nat)} {v : Int32}
theorem turnHeel_f (cv : CV σ m A P X) {man beat : Nat} (hman : man < 8) (hb : beat < 31) : RN (fun τ => Fr (Wm m) σ τ ∧ Mv τ m (th man beat X)) w u (f_X3_turnHeel m (nI man) (nI beat) (mk σ w u)) := by
  have hM := CV_M cv; have hT := CV_b cv; have cv2 := cv; obtain ⟨hm, ⟨⟨hA0, hA1, hA2, hA3, hA4⟩, hA7, hrl, hrn, hrc⟩, ⟨hN, hX⟩, ⟨hB1, hB2, hM8, hR8, hS12, hnm, hmd⟩, ⟨hN2, hW, hD⟩, hP⟩ := cv2
  refine ⟨s2 σ (m + 2) man (nI (X (1 + man) ^^^ 2 ^ beat)), ⟨Fr_s (by unfold Wm; omega), Mv_t cv.2.2.1 hman⟩, ?_⟩
  simp (disch := omega) only [f_X3_turnHeel, l0, l1, l2, l3, l4, l5, l6, l7, l8, l9, l10, l11, l12, l13, l14, l15, l16, l17, l18, l19, l20, l21, l22, l23, l24, l25, l33, l34, l40, l42, l50, l58, l99, l100, l700, l999, l4095, l9999, l10000, x_neg1, nI_add, x_pred, x_m1, x_J1, pk_sub, nJ_pos, Nat.add_sub_cancel, nI_leI, nI_ltI, nI_eq, q_leJ, q_Jle, q_ltJ, q_Jlt, q_eqJ, q_Jeq, q_JJ, q_JJle, q_JJlt, Option.bind_some, if_pos, if_neg, ↓reduceIte, M_a hM, M_n hM, M_wn hM, M_t hM, M_l hM, M_o hM, M_s hM, M_g hM, M_tt hM, M_tl hM, M_to hM, M_ts hM, M_st hM, M_sl hM, M_so hM, M_ss hM, zi5_0, zi5_1, zi5_2, zi5_3, zi5_4, zr5_5, zr5_6, zt6, zg5, zg8, hA0, hA1, hA2, hA3, hA4, CV_t cv, CV_l cv, CV_o cv, CV_s cv, x_one, x_xor]
theorem setLoud_f (cv : CV σ m A P X) {man a : Nat} (hman : man < 8) : RN (fun τ => Fr (Wm m) σ τ ∧ Mv τ m (un X (9 + man) a)) w u (f_X2_set (m + 3) (nI man) (nI a) (mk σ w u)) := ⟨s2 σ (m + 4) man (nI a), ⟨Fr_s (by unfold Wm; omega), Mv_l cv.2.2.1 hman⟩, M_sl (CV_M cv) hman⟩
theorem setTread_f (cv : CV σ m A P X) {man a : Nat} (hman : man < 8) : RN (fun τ => Fr (Wm m) σ τ ∧ Mv τ m (un X (1 + man) a)) w u (f_X2_set (m + 1) (nI man) (nI a) (mk σ w u)) := ⟨s2 σ (m + 2) man (nI a), ⟨Fr_s (by unfold Wm; omega), Mv_t cv.2.2.1 hman⟩, M_st (CV_M cv) hman⟩
theorem exchange_f (cv : CV σ m A P X) {r q : Nat} (hr : r < 8) (hq : q < 8) : RN (fun τ => Fr (Wm m) σ τ ∧ Mv τ m (xc r q X)) w u (f_X3_exchange m (nI r) (nI q) (mk σ w u)) := by
  have hM := CV_M cv; have hT := CV_b cv; have cv2 := cv; obtain ⟨hm, ⟨⟨hA0, hA1, hA2, hA3, hA4⟩, hA7, hrl, hrn, hrc⟩, ⟨hN, hX⟩, ⟨hB1, hB2, hM8, hR8, hS12, hnm, hmd⟩, ⟨hN2, hW, hD⟩, hP⟩ := cv2
  refine ⟨s2 (s2 σ (m + 8) r (nI (X (25 + q)))) (m + 8) q (nI (X (25 + r))), ⟨Fr_st (Fr_s (by unfold Wm; omega)) (by unfold Wm; omega), Mv_s (Mv_s cv.2.2.1 hr) hq⟩, ?_⟩
  simp (disch := omega) only [f_X3_exchange, l0, l1, l2, l3, l4, l5, l6, l7, l8, l9, l10, l11, l12, l13, l14, l15, l16, l17, l18, l19, l20, l21, l22, l23, l24, l25, l33, l34, l40, l42, l50, l58, l99, l100, l700, l999, l4095, l9999, l10000, x_neg1, nI_add, x_pred, x_m1, x_J1, pk_sub, nJ_pos, Nat.add_sub_cancel, nI_leI, nI_ltI, nI_eq, q_leJ, q_Jle, q_ltJ, q_Jlt, q_eqJ, q_Jeq, q_JJ, q_JJle, q_JJlt, Option.bind_some, if_pos, if_neg, ↓reduceIte, M_a hM, M_n hM, M_wn hM, M_t hM, M_l hM, M_o hM, M_s hM, M_g hM, M_tt hM, M_tl hM, M_to hM, M_ts hM, M_st hM, M_sl hM, M_so hM, M_ss hM, zi5_0, zi5_1, zi5_2, zi5_3, zi5_4, zr5_5, zr5_6, zt6, zg5, zg8, hA0, hA1, hA2, hA3, hA4, CV_t cv, CV_l cv, CV_o cv, CV_s cv]
theorem place_f (cv : CV σ m A P X) {man c : Nat} (hman : man < 31) (hc : c ≤ A 2) : RN (fun τ => Fr (Wm m) σ τ ∧ Mv τ m (pl A man c X)) w u (f_X3_place m (nI man) (nJ c) (mk σ w u)) := by
  have hM := CV_M cv; have hT := CV_b cv; have cv2 := cv; obtain ⟨hm, ⟨⟨hA0, hA1, hA2, hA3, hA4⟩, hA7, hrl, hrn, hrc⟩, ⟨hN, hX⟩, ⟨hB1, hB2, hM8, hR8, hS12, hnm, hmd⟩, ⟨hN2, hW, hD⟩, hP⟩ := cv2
  unfold f_X3_place l_X3_place_2
  rw [M_g hM]
  refine lp_S (RN (fun τ => Fr (Wm m) σ τ ∧ Mv τ m (pl A man c X)) w u) (fun i τ => (m, nI man, nJ c, nI i, mk τ w u)) (fun i τ => Fr (Wm m) σ τ ∧ Mv τ m (fun k => if 25 ≤ k ∧ k < 25 + i then an (X k) (2 ^ man) else X k)) (A 2) ?_ ?_ (A 2) 0 _ σ (by omega) (by omega) ⟨Fr_r _ _, ?_⟩
  · intro i hi k τ ⟨fr, mv⟩ hk
    have a2 : τ 5 2 = nI (A 2) := by rw [fr 5 2 (by unfold Wm; omega)]; exact hA2
    have e1 := (mv.2 i (by omega)).2.2.2
    dsimp only at e1
    rw [if_neg (by omega)] at e1
    have h := hk (s2 τ (m + 8) i (nI (an (X (25 + i)) (2 ^ man)))) ⟨Fr_st fr (by unfold Wm; omega), Mv_c (Mv_s mv (by omega)) (fun k hk => by
      by_cases h : k = 25 + i
      · rw [un_at h, if_pos (by omega), h]
      · rw [un_off h]
        by_cases h2 : 25 ≤ k ∧ k < 25 + i
        · rw [if_pos h2, if_pos (by omega)]
        · rw [if_neg h2, if_neg (by omega)])⟩
    dsimp only at h ⊢
    simp (disch := omega) only [f_X3_place_2, l0, l1, l2, l3, l4, l5, l6, l7, l8, l9, l10, l11, l12, l13, l14, l15, l16, l17, l18, l19, l20, l21, l22, l23, l24, l25, l33, l34, l40, l42, l50, l58, l99, l100, l700, l999, l4095, l9999, l10000, x_neg1, nI_add, x_pred, x_m1, x_J1, pk_sub, nJ_pos, Nat.add_sub_cancel, nI_leI, nI_ltI, nI_eq, q_leJ, q_Jle, q_ltJ, q_Jlt, q_eqJ, q_Jeq, q_JJ, q_JJle, q_JJlt, Option.bind_some, if_pos, if_neg, ↓reduceIte, M_a hM, M_s hM, zi5_2, a2, M_ts hM, M_ss hM, e1, x_one, x_andn]
    exact h
  · intro k τ ⟨fr, mv⟩
    have a2 : τ 5 2 = nI (A 2) := by rw [fr 5 2 (by unfold Wm; omega)]; exact hA2
    dsimp only
    by_cases h0 : c = 0
    · refine ⟨τ, ⟨fr, Mv_c mv (fun k hk => ?_)⟩, ?_⟩
      · unfold pl
        by_cases h2 : 25 ≤ k ∧ k < 25 + A 2
        · rw [if_pos h2, if_pos h2, if_neg (by omega)]
        · rw [if_neg h2, if_neg h2]
      · simp (disch := omega) only [f_X3_place_2, f_X3_place_41, f_X3_place_66, l0, l1, l2, l3, l4, l5, l6, l7, l8, l9, l10, l11, l12, l13, l14, l15, l16, l17, l18, l19, l20, l21, l22, l23, l24, l25, l33, l34, l40, l42, l50, l58, l99, l100, l700, l999, l4095, l9999, l10000, x_neg1, nI_add, x_pred, x_m1, x_J1, pk_sub, nJ_pos, Nat.add_sub_cancel, nI_leI, nI_ltI, nI_eq, q_leJ, q_Jle, q_ltJ, q_Jlt, q_eqJ, q_Jeq, q_JJ, q_JJle, q_JJlt, Option.bind_some, if_pos, if_neg, ↓reduceIte, M_a hM, zi5_2, a2]
    · have e1 := (mv.2 (c - 1) (by omega)).2.2.2
      dsimp only at e1
      rw [if_pos (by omega)] at e1
      refine ⟨s2 τ (m + 8) (c - 1) (nI (an (X (25 + (c - 1))) (2 ^ man) ||| 2 ^ man)), ⟨Fr_st fr (by unfold Wm; omega), Mv_c (Mv_s mv (by omega)) (fun k hk => ?_)⟩, ?_⟩
      · unfold pl
        by_cases h : k = 25 + (c - 1)
        · rw [un_at h, if_pos (by omega), if_pos (by omega), h]
        · rw [un_off h]
          by_cases h2 : 25 ≤ k ∧ k < 25 + A 2
          · rw [if_pos h2, if_pos h2, if_neg (by omega)]
          · rw [if_neg h2, if_neg h2]
      · simp (disch := omega) only [f_X3_place_2, f_X3_place_41, f_X3_place_66, l0, l1, l2, l3, l4, l5, l6, l7, l8, l9, l10, l11, l12, l13, l14, l15, l16, l17, l18, l19, l20, l21, l22, l23, l24, l25, l33, l34, l40, l42, l50, l58, l99, l100, l700, l999, l4095, l9999, l10000, x_neg1, nI_add, x_pred, x_m1, x_J1, pk_sub, nJ_pos, Nat.add_sub_cancel, nI_leI, nI_ltI, nI_eq, q_leJ, q_Jle, q_ltJ, q_Jlt, q_eqJ, q_Jeq, q_JJ, q_JJle, q_JJlt, Option.bind_some, if_pos, if_neg, ↓reduceIte, M_a hM, M_s hM, zi5_2, a2, M_ts hM, M_ss hM, e1, x_one, x_or]
  · refine Mv_c cv.2.2.1 (fun k hk => ?_)
    rw [if_neg (by omega)]
theorem goBy_f (cv : CV σ m A P X) (hn : X 0 + 1 < 2000) : RN (fun τ => Fr (Wm m) σ τ ∧ Mv τ m (ng A P (mq A (X 0)) X)) w u (f_X3_goBy m (mk σ w u)) := by
  have cv0 := cv
  have hmq := mq_lt cv.2.2.2.1 (X 0)
  obtain ⟨τ1, ⟨fr1, mv1⟩, g1⟩ := parade_f (w := w) (u := u) cv (n := 0) (mud := mq A (X 0)) (by omega) (by omega)
  rw [rt_0] at mv1 g1
  have em := mudIn_f (w := w) (u := u) cv (n := 0) (by omega)
  rw [Nat.add_zero] at em
  have e0 := (mv1.2 0 (by omega)).2.2.2
  have hM := CV_M cv; have hT := CV_b cv; have cv2 := cv; obtain ⟨hm, ⟨⟨hA0, hA1, hA2, hA3, hA4⟩, hA7, hrl, hrn, hrc⟩, ⟨hN, hX⟩, ⟨hB1, hB2, hM8, hR8, hS12, hnm, hmd⟩, ⟨hN2, hW, hD⟩, hP⟩ := cv2
  unfold f_X3_goBy
  simp (disch := omega) only [l0, l1, l2, l3, l4, l5, l6, l7, l8, l9, l10, l11, l12, l13, l14, l15, l16, l17, l18, l19, l20, l21, l22, l23, l24, l25, l33, l34, l40, l42, l50, l58, l99, l100, l700, l999, l4095, l9999, l10000, x_neg1, nI_add, x_pred, x_m1, x_J1, pk_sub, nJ_pos, Nat.add_sub_cancel, nI_leI, nI_ltI, nI_eq, q_leJ, q_Jle, q_ltJ, q_Jlt, q_eqJ, q_Jeq, q_JJ, q_JJle, q_JJlt, Option.bind_some, if_pos, if_neg, ↓reduceIte, M_a hM, M_n hM, M_wn hM, M_t hM, M_l hM, M_o hM, M_s hM, M_g hM, M_tt hM, M_tl hM, M_to hM, M_ts hM, M_st hM, M_sl hM, M_so hM, M_ss hM, zi5_0, zi5_1, zi5_2, zi5_3, zi5_4, zr5_5, zr5_6, zt6, zg5, zg8, hA0, hA1, hA2, hA3, hA4, em, g1, e0]
  unfold l_X3_goBy_22
  have key : ∀ τ, Fr (Wm m) σ τ → τ 5 2 = nI (A 2) := fun τ fr => by rw [fr 5 2 (by unfold Wm; omega)]; exact hA2
  refine lp_S (RN (fun τ => Fr (Wm m) σ τ ∧ Mv τ m (ng A P (mq A (X 0)) X)) w u) (fun i τ => (m, nI (hu A P X (mq A (X 0)) (A 2) X (25 + 0)), nI (1 + i), mk τ w u)) (fun i τ => Fr (Wm m) σ τ ∧ Mv τ m (fun k => if 25 ≤ k ∧ k < 25 + i then hu A P X (mq A (X 0)) (A 2) X (k + 1) else hu A P X (mq A (X 0)) (A 2) X k)) (A 2 - 1) ?_ ?_ (A 2 - 1) 0 _ τ1 (by omega) (by omega) ⟨fr1, ?_⟩
  · intro i hi k τ ⟨fr, mv⟩ hk
    have a2 := key τ fr
    have e1 := (mv.2 (1 + i) (by omega)).2.2.2
    dsimp only at e1
    rw [if_neg (by omega)] at e1
    have h := hk (s2 τ (m + 8) i (nI (hu A P X (mq A (X 0)) (A 2) X (25 + (1 + i))))) ⟨Fr_st fr (by unfold Wm; omega), Mv_c (Mv_s mv (by omega)) (fun k hk => by
      by_cases h : k = 25 + i
      · rw [un_at h, if_pos (by omega), h]
        exact congrArg (hu A P X (mq A (X 0)) (A 2) X) (by omega)
      · rw [un_off h]
        by_cases h2 : 25 ≤ k ∧ k < 25 + i
        · rw [if_pos h2, if_pos (by omega)]
        · rw [if_neg h2, if_neg (by omega)])⟩
    dsimp only at h ⊢
    rw [show 1 + (i + 1) = 1 + i + 1 by omega] at h
    simp (disch := omega) only [f_X3_goBy_22, l0, l1, l2, l3, l4, l5, l6, l7, l8, l9, l10, l11, l12, l13, l14, l15, l16, l17, l18, l19, l20, l21, l22, l23, l24, l25, l33, l34, l40, l42, l50, l58, l99, l100, l700, l999, l4095, l9999, l10000, x_neg1, nI_add, x_pred, x_m1, x_J1, pk_sub, nJ_pos, Nat.add_sub_cancel, nI_leI, nI_ltI, nI_eq, q_leJ, q_Jle, q_ltJ, q_Jlt, q_eqJ, q_Jeq, q_JJ, q_JJle, q_JJlt, Option.bind_some, if_pos, if_neg, ↓reduceIte, M_a hM, M_s hM, zi5_2, a2, M_ts hM, M_ss hM, e1, Nat.add_sub_cancel_left]
    exact h
  · intro k τ ⟨fr, mv⟩
    have a2 := key τ fr
    dsimp only
    have ex : hu A P X (mq A (X 0)) (A 2) X 0 = X 0 := hu_k (by omega)
    by_cases h0 : A 2 = 0
    · have e5 : τ m 1 = nI (X 0) := by have h5 := mv.1; dsimp only at h5; rw [h5, if_neg (by omega), ex]
      refine ⟨s2 τ m 1 (nI (X 0 + 1)), ⟨Fr_st fr (by unfold Wm; omega), Mv_c (Mv_n mv) (fun k hk => ?_)⟩, ?_⟩
      · unfold ng rt
        by_cases h : k = 0
        · rw [un_at h, if_pos h, ex]
        · rw [un_off h, if_neg h, if_neg (by omega), if_neg (by omega)]
      · rw [h0] at a2
        unfold f_X3_goBy_22
        rw [M_a hM, Option.bind_some, zi5_2, Option.bind_some, a2, if_pos (nI_le (by omega) (by omega))]
        unfold f_X3_goBy_57
        rw [M_s hM, Option.bind_some, M_a hM, Option.bind_some, zi5_2, Option.bind_some, a2, M_soff hM (by decide), Option.bind_some, M_n hM, Option.bind_some, e5, nI_1, M_wn hM, Option.bind_some]
    · have e5 : (s2 τ (m + 8) (A 2 - 1) (nI (hu A P X (mq A (X 0)) (A 2) X (25 + 0)))) m 1 = nI (X 0) := by have h5 := mv.1; dsimp only at h5; rw [s2_off (by omega), h5, if_neg (by omega), ex]
      refine ⟨s2 (s2 τ (m + 8) (A 2 - 1) (nI (hu A P X (mq A (X 0)) (A 2) X (25 + 0)))) m 1 (nI (X 0 + 1)), ⟨Fr_st (Fr_st fr (by unfold Wm; omega)) (by unfold Wm; omega), Mv_c (Mv_n (Mv_s mv (by omega))) (fun k hk => ?_)⟩, ?_⟩
      · unfold ng rt
        by_cases h : k = 0
        · rw [un_at h, if_pos h, ex]
        · rw [un_off h, if_neg h]
          by_cases h2 : 25 ≤ k ∧ k < 25 + A 2
          · rw [if_pos h2]
            by_cases h3 : k = 25 + (A 2 - 1)
            · rw [un_at h3, h3, show 25 + (A 2 - 1) - 25 + 1 = A 2 by omega, Nat.mod_self]
            · rw [un_off h3, if_pos (by omega), Nat.mod_eq_of_lt (by omega)]
              exact congrArg (hu A P X (mq A (X 0)) (A 2) X) (by omega)
          · rw [un_off (by omega), if_neg (by omega), if_neg h2]
      · simp (disch := omega) only [f_X3_goBy_22, f_X3_goBy_57, l0, l1, l2, l3, l4, l5, l6, l7, l8, l9, l10, l11, l12, l13, l14, l15, l16, l17, l18, l19, l20, l21, l22, l23, l24, l25, l33, l34, l40, l42, l50, l58, l99, l100, l700, l999, l4095, l9999, l10000, x_neg1, nI_add, x_pred, x_m1, x_J1, pk_sub, nJ_pos, Nat.add_sub_cancel, nI_leI, nI_ltI, nI_eq, q_leJ, q_Jle, q_ltJ, q_Jlt, q_eqJ, q_Jeq, q_JJ, q_JJle, q_JJlt, Option.bind_some, if_pos, if_neg, ↓reduceIte, M_a hM, M_s hM, zi5_2, a2, M_ss hM, M_n hM, e5, M_wn hM]
  · refine Mv_c mv1 (fun k hk => ?_)
    rw [if_neg (by omega)]
theorem goBack_f (cv : CV σ m A P X) (h1 : 1 ≤ X 0) : RN (fun τ => Fr (Wm m) σ τ ∧ Mv τ m (rb A X)) w u (f_X3_goBack m (mk σ w u)) := by
  have hM := CV_M cv; have hT := CV_b cv; have cv2 := cv; obtain ⟨hm, ⟨⟨hA0, hA1, hA2, hA3, hA4⟩, hA7, hrl, hrn, hrc⟩, ⟨hN, hX⟩, ⟨hB1, hB2, hM8, hR8, hS12, hnm, hmd⟩, ⟨hN2, hW, hD⟩, hP⟩ := cv2
  have key : ∀ τ, Fr (Wm m) σ τ → τ 5 2 = nI (A 2) := fun τ fr => by rw [fr 5 2 (by unfold Wm; omega)]; exact hA2
  have hb : ∃ b, (0 < A 2 → b = X (25 + (A 2 - 1))) ∧ f_X3_goBack m (mk σ w u) = l_X3_goBack_27 m (nI b) (nJ (A 2)) (mk σ w u) := by
    by_cases h0 : A 2 = 0
    · refine ⟨0, fun h => by omega, ?_⟩
      unfold f_X3_goBack
      rw [M_g hM, M_s hM, Option.bind_some, M_a hM, Option.bind_some, zi5_2, Option.bind_some, hA2, h0, M_tsN hM (by decide), Option.bind_some]
      dsimp only
      rw [M_a hM, Option.bind_some, zi5_2, Option.bind_some, hA2, h0]
      rfl
    · refine ⟨X (25 + (A 2 - 1)), fun _ => rfl, ?_⟩
      simp (disch := omega) only [f_X3_goBack, l0, l1, l2, l3, l4, l5, l6, l7, l8, l9, l10, l11, l12, l13, l14, l15, l16, l17, l18, l19, l20, l21, l22, l23, l24, l25, l33, l34, l40, l42, l50, l58, l99, l100, l700, l999, l4095, l9999, l10000, x_neg1, nI_add, x_pred, x_m1, x_J1, pk_sub, nJ_pos, Nat.add_sub_cancel, nI_leI, nI_ltI, nI_eq, q_leJ, q_Jle, q_ltJ, q_Jlt, q_eqJ, q_Jeq, q_JJ, q_JJle, q_JJlt, Option.bind_some, if_pos, if_neg, ↓reduceIte, M_a hM, M_n hM, M_wn hM, M_t hM, M_l hM, M_o hM, M_s hM, M_g hM, M_tt hM, M_tl hM, M_to hM, M_ts hM, M_st hM, M_sl hM, M_so hM, M_ss hM, zi5_0, zi5_1, zi5_2, zi5_3, zi5_4, zr5_5, zr5_6, zt6, zg5, zg8, hA0, hA1, hA2, hA3, hA4, CV_t cv, CV_l cv, CV_o cv, CV_s cv]
  obtain ⟨b, hb1, hb2⟩ := hb
  rw [hb2]
  unfold l_X3_goBack_27
  refine lp_S (RN (fun τ => Fr (Wm m) σ τ ∧ Mv τ m (rb A X)) w u) (fun i τ => (m, nI b, nJ (A 2 - i), mk τ w u)) (fun i τ => Fr (Wm m) σ τ ∧ Mv τ m (fun k => if 25 + (A 2 - i) ≤ k ∧ k < 25 + A 2 then X (k - 1) else X k)) (A 2 - 1) ?_ ?_ (A 2 - 1) 0 _ σ (by omega) (by omega) ⟨Fr_r _ _, ?_⟩
  · intro i hi k τ ⟨fr, mv⟩ hk
    have e1 := (mv.2 (A 2 - i - 1 - 1) (by omega)).2.2.2
    dsimp only at e1
    rw [if_neg (by omega)] at e1
    have h := hk (s2 τ (m + 8) (A 2 - i - 1) (nI (X (25 + (A 2 - i - 1 - 1))))) ⟨Fr_st fr (by unfold Wm; omega), Mv_c (Mv_s mv (by omega)) (fun k hk => by
      by_cases h : k = 25 + (A 2 - i - 1)
      · rw [un_at h, if_pos (by omega), h]
        exact congrArg X (by omega)
      · rw [un_off h]
        by_cases h2 : 25 + (A 2 - i) ≤ k ∧ k < 25 + A 2
        · rw [if_pos h2, if_pos (by omega)]
        · rw [if_neg h2, if_neg (by omega)])⟩
    dsimp only at h ⊢
    rw [show A 2 - (i + 1) = A 2 - i - 1 by omega, nJ_pos (by omega)] at h
    simp (disch := omega) only [f_X3_goBack_27, l0, l1, l2, l3, l4, l5, l6, l7, l8, l9, l10, l11, l12, l13, l14, l15, l16, l17, l18, l19, l20, l21, l22, l23, l24, l25, l33, l34, l40, l42, l50, l58, l99, l100, l700, l999, l4095, l9999, l10000, x_neg1, nI_add, x_pred, x_m1, x_J1, pk_sub, nJ_pos, Nat.add_sub_cancel, nI_leI, nI_ltI, nI_eq, q_leJ, q_Jle, q_ltJ, q_Jlt, q_eqJ, q_Jeq, q_JJ, q_JJle, q_JJlt, Option.bind_some, if_pos, if_neg, ↓reduceIte, M_s hM, M_ts hM, M_ss hM, e1]
    exact h
  · intro k τ ⟨fr, mv⟩
    have a2 := key τ fr
    have e5 : τ m 1 = nI (X 0) := by have h5 := mv.1; dsimp only at h5; rw [h5, if_neg (by omega)]
    dsimp only
    by_cases h0 : A 2 = 0
    · rw [h0] at a2
      refine ⟨s2 τ m 1 (nI (X 0 - 1)), ⟨Fr_st fr (by unfold Wm; omega), Mv_c (Mv_n mv) (fun k hk => ?_)⟩, ?_⟩
      · unfold rb
        by_cases h : k = 0
        · rw [un_at h, if_pos h]
        · rw [un_off h, if_neg h, if_neg (by omega), if_neg (by omega)]
      · simp (disch := omega) only [f_X3_goBack_27, f_X3_goBack_55, f_X3_goBack_74, h0, Nat.zero_sub, l0, l1, l2, l3, l4, l5, l6, l7, l8, l9, l10, l11, l12, l13, l14, l15, l16, l17, l18, l19, l20, l21, l22, l23, l24, l25, l33, l34, l40, l42, l50, l58, l99, l100, l700, l999, l4095, l9999, l10000, x_neg1, nI_add, x_pred, x_m1, x_J1, pk_sub, nJ_pos, Nat.add_sub_cancel, nI_leI, nI_ltI, nI_eq, q_leJ, q_Jle, q_ltJ, q_Jlt, q_eqJ, q_Jeq, q_JJ, q_JJle, q_JJlt, Option.bind_some, if_pos, if_neg, ↓reduceIte, M_a hM, zi5_2, a2, M_n hM, e5, M_wn hM]
    · have e6 : (s2 τ (m + 8) 0 (nI b)) m 1 = nI (X 0) := by rw [s2_off (by omega), e5]
      refine ⟨s2 (s2 τ (m + 8) 0 (nI b)) m 1 (nI (X 0 - 1)), ⟨Fr_st (Fr_st fr (by unfold Wm; omega)) (by unfold Wm; omega), Mv_c (Mv_n (Mv_s mv (by omega))) (fun k hk => ?_)⟩, ?_⟩
      · unfold rb
        by_cases h : k = 0
        · rw [un_at h, if_pos h]
        · rw [un_off h, if_neg h]
          by_cases h2 : 25 ≤ k ∧ k < 25 + A 2
          · rw [if_pos h2]
            by_cases h3 : k = 25
            · rw [un_at (by omega), hb1 (by omega), h3, show 25 - 25 + (A 2 - 1) = A 2 - 1 by omega, Nat.mod_eq_of_lt (by omega)]
            · rw [un_off (by omega), if_pos (by omega), show k - 25 + (A 2 - 1) = k - 26 + A 2 by omega, Nat.add_mod_right, Nat.mod_eq_of_lt (by omega)]
              exact congrArg X (by omega)
          · rw [un_off (by omega), if_neg (by omega), if_neg h2]
      · rw [show A 2 - (A 2 - 1) = 1 by omega]
        simp (disch := omega) only [f_X3_goBack_27, f_X3_goBack_55, f_X3_goBack_74, l0, l1, l2, l3, l4, l5, l6, l7, l8, l9, l10, l11, l12, l13, l14, l15, l16, l17, l18, l19, l20, l21, l22, l23, l24, l25, l33, l34, l40, l42, l50, l58, l99, l100, l700, l999, l4095, l9999, l10000, x_neg1, nI_add, x_pred, x_m1, x_J1, pk_sub, nJ_pos, Nat.add_sub_cancel, nI_leI, nI_ltI, nI_eq, q_leJ, q_Jle, q_ltJ, q_Jlt, q_eqJ, q_Jeq, q_JJ, q_JJle, q_JJlt, Option.bind_some, if_pos, if_neg, ↓reduceIte, M_s hM, M_a hM, zi5_2, a2, M_ss hM, M_n hM, e6, M_wn hM]
  · refine Mv_c cv.2.2.1 (fun k hk => ?_)
    rw [if_neg (by omega)]
theorem copy_f {a a' m' : Nat} (hm : isN a m) (hm' : isN a' m') (hd : m + 8 < m' ∨ m' + 8 < m) (mv : Mv σ m' X) : RN (fun τ => Fr (Wm m) σ τ ∧ Mv τ m X) w u (f_X3_copyFrom m m' (mk σ w u)) := by
  obtain ⟨s, c1, c2, c3, c4⟩ := hm
  obtain ⟨s', d1, d2, d3, d4⟩ := hm'
  unfold f_X3_copyFrom
  rw [gdm s, rI s' rfl, Option.bind_some, wI s rfl, Option.bind_some, rR s rfl, Option.bind_some, rR s' rfl, Option.bind_some, C_copy c1 d1 (by omega) (by decide), Option.bind_some, rR s rfl, Option.bind_some, rR s' rfl, Option.bind_some, C_copy c2 d2 (by omega) (by decide), Option.bind_some, rR s rfl, Option.bind_some, rR s' rfl, Option.bind_some, C_copy c3 d3 (by omega) (by decide), Option.bind_some, rR s rfl, Option.bind_some, rR s' rfl, Option.bind_some, C_copy c4 d4 (by omega) (by decide), Option.bind_some]
  refine ⟨_, ⟨?_, ?_, fun i hi => ⟨?_, ?_, ?_, ?_⟩⟩, rfl⟩
  · intro q k hw
    unfold Wm at hw
    rw [sr_n (by omega), sr_n (by omega), sr_n (by omega), sr_n (by omega), s2_off (by omega)]
  · rw [sr_n (by omega), sr_n (by omega), sr_n (by omega), sr_n (by omega), s2_at rfl rfl]
    exact mv.1
  · rw [sr_n (by omega), sr_n (by omega), sr_n (by omega), sr_s, if_pos hi, s2_off (by omega)]
    exact (mv.2 i hi).1
  · rw [sr_n (by omega), sr_n (by omega), sr_s, if_pos hi, sr_n (by omega), s2_off (by omega)]
    exact (mv.2 i hi).2.1
  · rw [sr_n (by omega), sr_s, if_pos hi, sr_n (by omega), sr_n (by omega), s2_off (by omega)]
    exact (mv.2 i hi).2.2.1
  · rw [sr_s, if_pos hi, sr_n (by omega), sr_n (by omega), sr_n (by omega), s2_off (by omega)]
    exact (mv.2 i hi).2.2.2
theorem isN_34 : isN 7 34 := isM_34
theorem isN_71 : isN 7 71 := isM_71
theorem isN_62 : isN 7 62 := ⟨rfl, ⟨rfl, rfl, by decide⟩, ⟨rfl, rfl, by decide⟩, ⟨rfl, rfl, by decide⟩, ⟨rfl, rfl, by decide⟩⟩
theorem isN_91 : isN 83 91 := ⟨rfl, ⟨rfl, rfl, by decide⟩, ⟨rfl, rfl, by decide⟩, ⟨rfl, rfl, by decide⟩, ⟨rfl, rfl, by decide⟩⟩
/-- on trial what is now -/
theorem trial_f (cv : CV σ 34 A P X) : ∃ τ, Fr (Wm 71) σ τ ∧ CV τ 71 A P X ∧ CV τ 34 A P X ∧ f_X3_copyFrom 71 34 (mk σ w u) = some (mk τ w u) := by
  obtain ⟨τ, ⟨fr, mv⟩, e⟩ := copy_f (w := w) (u := u) isN_71 isN_34 (by omega) cv.2.2.1
  have c2 := CV_o2 cv (Or.inr rfl) (by omega) fr
  exact ⟨τ, fr, ⟨Or.inr rfl, c2.2.1, mv, c2.2.2.2⟩, c2, e⟩
end MU
