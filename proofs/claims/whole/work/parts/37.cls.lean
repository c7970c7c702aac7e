/-! L3: the class's marches -/
def isA (a : Nat) : Prop := sh[a]? = some (.inr (1, [0, 0, 0, 0, 0, a + 3, a + 5])) ∧ isC (a + 1) 8 ∧ sh[a + 3]? = some (.inr (6, [a + 6, a + 8, a + 10, 0])) ∧ isC (a + 4) 64 ∧ isC (a + 6) 700 ∧ isC (a + 8) 6
def isM (m : Nat) : Prop := sh[m]? = some (.inr (3, [7, 0, m + 3, m + 5, m + 7, m + 9])) ∧ isC (m + 1) 8 ∧ isC (m + 3) 8 ∧ isC (m + 5) 8 ∧ isC (m + 7) 8
theorem isM_34 : isM 34 := ⟨rfl, ⟨rfl, rfl, by decide⟩, ⟨rfl, rfl, by decide⟩, ⟨rfl, rfl, by decide⟩, ⟨rfl, rfl, by decide⟩⟩
theorem isM_71 : isM 71 := ⟨rfl, ⟨rfl, rfl, by decide⟩, ⟨rfl, rfl, by decide⟩, ⟨rfl, rfl, by decide⟩, ⟨rfl, rfl, by decide⟩⟩
section MA
variable {σ : Nat → Nat → Int32} {w u : Int64} {m i : Nat} {A X : Nat → Nat} {P : List (Nat × Nat)} {v : Int32}
theorem CV_M (cv : CV σ m A P X) : isM m := by
  rcases cv.1 with e | e
  · rw [e]; exact isM_34
  · rw [e]; exact isM_71
theorem M_a (hm : isM m) : rd_R (mk σ w u) m 3 0 = some 5 := rR hm.1 rfl
theorem M_n (hm : isM m) : rd_I (mk σ w u) m 3 1 = some (σ m 1) := rI hm.1 rfl
theorem M_wn (hm : isM m) : wr_I (mk σ w u) m 3 1 v = some (mk (s2 σ m 1 v) w u) := wI hm.1 rfl
theorem M_t (hm : isM m) : rd_R (mk σ w u) m 3 2 = some (m + 1) := rR hm.1 rfl
theorem M_l (hm : isM m) : rd_R (mk σ w u) m 3 3 = some (m + 3) := rR hm.1 rfl
theorem M_o (hm : isM m) : rd_R (mk σ w u) m 3 4 = some (m + 5) := rR hm.1 rfl
theorem M_s (hm : isM m) : rd_R (mk σ w u) m 3 5 = some (m + 7) := rR hm.1 rfl
theorem M_g {β : Type} {x : Option β} (hm : isM m) : gd (mk σ w u) m 3 x = x := gdm hm.1
theorem M_tt (hm : isM m) (h : i < 8) : f_X2_at (m + 1) (nI i) (mk σ w u) = some (σ (m + 2) i, mk σ w u) := C_at hm.2.1 h
theorem M_tl (hm : isM m) (h : i < 8) : f_X2_at (m + 3) (nI i) (mk σ w u) = some (σ (m + 4) i, mk σ w u) := C_at hm.2.2.1 h
theorem M_to (hm : isM m) (h : i < 8) : f_X2_at (m + 5) (nI i) (mk σ w u) = some (σ (m + 6) i, mk σ w u) := C_at hm.2.2.2.1 h
theorem M_ts (hm : isM m) (h : i < 8) : f_X2_at (m + 7) (nI i) (mk σ w u) = some (σ (m + 8) i, mk σ w u) := C_at hm.2.2.2.2 h
theorem M_st (hm : isM m) (h : i < 8) : f_X2_set (m + 1) (nI i) v (mk σ w u) = some (mk (s2 σ (m + 2) i v) w u) := C_set hm.2.1 h
theorem M_sl (hm : isM m) (h : i < 8) : f_X2_set (m + 3) (nI i) v (mk σ w u) = some (mk (s2 σ (m + 4) i v) w u) := C_set hm.2.2.1 h
theorem M_so (hm : isM m) (h : i < 8) : f_X2_set (m + 5) (nI i) v (mk σ w u) = some (mk (s2 σ (m + 6) i v) w u) := C_set hm.2.2.2.1 h
theorem M_ss (hm : isM m) (h : i < 8) : f_X2_set (m + 7) (nI i) v (mk σ w u) = some (mk (s2 σ (m + 8) i v) w u) := C_set hm.2.2.2.2 h
theorem M_tsN {x : Int32} (hm : isM m) (h : x < 0) : f_X2_at (m + 7) x (mk σ w u) = some (0, mk σ w u) := C_atN hm.2.2.2.2 h
theorem M_soff {x : Int32} (hm : isM m) (h : x < 0) : f_X2_set (m + 7) x v (mk σ w u) = some (mk σ w u) := C_setN hm.2.2.2.2 h
theorem CV_t (cv : CV σ m A P X) : ∀ i, i < 8 → σ (m + 2) i = nI (X (1 + i)) := fun i h => (cv.2.2.1.2 i h).1
theorem CV_l (cv : CV σ m A P X) : ∀ i, i < 8 → σ (m + 4) i = nI (X (9 + i)) := fun i h => (cv.2.2.1.2 i h).2.1
theorem CV_o (cv : CV σ m A P X) : ∀ i, i < 8 → σ (m + 6) i = nI (X (17 + i)) := fun i h => (cv.2.2.1.2 i h).2.2.1
theorem CV_s (cv : CV σ m A P X) : ∀ i, i < 8 → σ (m + 8) i = nI (X (25 + i)) := fun i h => (cv.2.2.1.2 i h).2.2.2
theorem WX_b (wa : WA A) (wx : WX A X) : ∀ i, i < 8 → X (1 + i) < 4096 ∧ X (9 + i) ≤ 9 ∧ X (17 + i) ≤ 99 ∧ X (25 + i) < 256 := fun i h => by
  obtain ⟨a, b, c, d, -⟩ := wx.2.1 i h
  exact ⟨tw12 a wa.2.1, b, c, tw8 d wa.2.2.1⟩
theorem CV_b (cv : CV σ m A P X) : ∀ i, i < 8 → X (1 + i) < 4096 ∧ X (9 + i) ≤ 9 ∧ X (17 + i) ≤ 99 ∧ X (25 + i) < 256 := WX_b cv.2.2.2.1 cv.2.2.2.2.1
theorem rem_f {a d : Nat} (ha : a < 2 ^ 31) (h0 : 0 < d) (hd : d < 2 ^ 31) : hp_rem (nI a) (nI d) = some (nI (a % d)) := by
  unfold hp_rem
  rw [if_neg (nI_ne0 h0 hd), pk_rem ha h0 hd]
theorem div_f {a d : Nat} (ha : a < 2 ^ 31) (h0 : 0 < d) (hd : d < 2 ^ 31) : hp_div (nI a) (nI d) = some (nI (a / d)) := by
  unfold hp_div
  rw [if_neg (nI_ne0 h0 hd), pk_div ha h0 hd]
theorem loudAt_f (cv : CV σ m A P X) {beat set : Nat} (hb : beat < 32) (hs : set < 2 ^ 31) : f_X3_loudAt m (nI beat) (nI set) (mk σ w u) = some (nI (ls X beat set (A 1)), mk σ w u) := by
  have hM := CV_M cv; have hT := CV_b cv; have cv2 := cv; obtain ⟨hm, ⟨⟨hA0, hA1, hA2, hA3, hA4⟩, hA7, hrl, hrn, hrc⟩, ⟨hN, hX⟩, ⟨hB1, hB2, hM8, hR8, hS12, hnm, hmd⟩, ⟨hN2, hW, hD⟩, hP⟩ := cv2
  unfold f_X3_loudAt l_X3_loudAt_5
  rw [M_g hM]
  refine lp_for (fun i => (m, nI beat, nI set, nI (ls X beat set i), nI i, mk σ w u)) (A 1) _ ?_ ?_ (A 1) 0 _ (by omega) (by omega)
  · intro i hi k0
    have hb2 := hT i (by omega)
    have h1 := bt_lt set i
    have h2 := bt_lt (X (1 + i)) beat
    have e1 : ls X beat set (i + 1) = ls X beat set i + (if bt set i = 0 then 0 else if bt (X (1 + i)) beat = 0 then 0 else X (9 + i)) := rfl
    rw [e1]
    dsimp only
    by_cases h3 : bt set i = 0
    · simp (disch := omega) only [f_X3_loudAt_60, f_X3_loudAt_54, f_X3_loudAt_5, f_X3_loudAt, l0, l1, l2, l3, l4, l5, l6, l7, l8, l9, l10, l11, l12, l13, l14, l15, l16, l17, l18, l19, l20, l21, l22, l23, l24, l25, l33, l34, l40, l42, l50, l58, l99, l100, l700, l999, l4095, l9999, l10000, x_neg1, nI_add, x_pred, x_m1, x_J1, pk_sub, nJ_pos, Nat.add_sub_cancel, nI_leI, nI_ltI, nI_eq, q_leJ, q_Jle, q_ltJ, q_Jlt, q_eqJ, q_Jeq, q_JJ, q_JJle, q_JJlt, Option.bind_some, if_pos, if_neg, ↓reduceIte, M_a hM, M_n hM, M_wn hM, M_t hM, M_l hM, M_o hM, M_s hM, M_g hM, M_tt hM, M_tl hM, M_to hM, M_ts hM, M_st hM, M_sl hM, M_so hM, M_ss hM, zi5_0, zi5_1, zi5_2, zi5_3, zi5_4, zr5_5, zr5_6, zt6, zg5, zg8, hA0, hA1, hA2, hA3, hA4, CV_t cv, CV_l cv, CV_o cv, CV_s cv, holds_f, Nat.add_zero]
    · by_cases h4 : bt (X (1 + i)) beat = 0
      · simp (disch := omega) only [f_X3_loudAt_60, f_X3_loudAt_54, f_X3_loudAt_5, f_X3_loudAt, l0, l1, l2, l3, l4, l5, l6, l7, l8, l9, l10, l11, l12, l13, l14, l15, l16, l17, l18, l19, l20, l21, l22, l23, l24, l25, l33, l34, l40, l42, l50, l58, l99, l100, l700, l999, l4095, l9999, l10000, x_neg1, nI_add, x_pred, x_m1, x_J1, pk_sub, nJ_pos, Nat.add_sub_cancel, nI_leI, nI_ltI, nI_eq, q_leJ, q_Jle, q_ltJ, q_Jlt, q_eqJ, q_Jeq, q_JJ, q_JJle, q_JJlt, Option.bind_some, if_pos, if_neg, ↓reduceIte, M_a hM, M_n hM, M_wn hM, M_t hM, M_l hM, M_o hM, M_s hM, M_g hM, M_tt hM, M_tl hM, M_to hM, M_ts hM, M_st hM, M_sl hM, M_so hM, M_ss hM, zi5_0, zi5_1, zi5_2, zi5_3, zi5_4, zr5_5, zr5_6, zt6, zg5, zg8, hA0, hA1, hA2, hA3, hA4, CV_t cv, CV_l cv, CV_o cv, CV_s cv, holds_f, Nat.add_zero]
      · simp (disch := omega) only [f_X3_loudAt_60, f_X3_loudAt_54, f_X3_loudAt_5, f_X3_loudAt, l0, l1, l2, l3, l4, l5, l6, l7, l8, l9, l10, l11, l12, l13, l14, l15, l16, l17, l18, l19, l20, l21, l22, l23, l24, l25, l33, l34, l40, l42, l50, l58, l99, l100, l700, l999, l4095, l9999, l10000, x_neg1, nI_add, x_pred, x_m1, x_J1, pk_sub, nJ_pos, Nat.add_sub_cancel, nI_leI, nI_ltI, nI_eq, q_leJ, q_Jle, q_ltJ, q_Jlt, q_eqJ, q_Jeq, q_JJ, q_JJle, q_JJlt, Option.bind_some, if_pos, if_neg, ↓reduceIte, M_a hM, M_n hM, M_wn hM, M_t hM, M_l hM, M_o hM, M_s hM, M_g hM, M_tt hM, M_tl hM, M_to hM, M_ts hM, M_st hM, M_sl hM, M_so hM, M_ss hM, zi5_0, zi5_1, zi5_2, zi5_3, zi5_4, zr5_5, zr5_6, zt6, zg5, zg8, hA0, hA1, hA2, hA3, hA4, CV_t cv, CV_l cv, CV_o cv, CV_s cv, holds_f]
  · intro k0
    dsimp only
    simp (disch := omega) only [f_X3_loudAt_60, f_X3_loudAt_54, f_X3_loudAt_5, f_X3_loudAt, l0, l1, l2, l3, l4, l5, l6, l7, l8, l9, l10, l11, l12, l13, l14, l15, l16, l17, l18, l19, l20, l21, l22, l23, l24, l25, l33, l34, l40, l42, l50, l58, l99, l100, l700, l999, l4095, l9999, l10000, x_neg1, nI_add, x_pred, x_m1, x_J1, pk_sub, nJ_pos, Nat.add_sub_cancel, nI_leI, nI_ltI, nI_eq, q_leJ, q_Jle, q_ltJ, q_Jlt, q_eqJ, q_Jeq, q_JJ, q_JJle, q_JJlt, Option.bind_some, if_pos, if_neg, ↓reduceIte, M_a hM, M_n hM, M_wn hM, M_t hM, M_l hM, M_o hM, M_s hM, M_g hM, M_tt hM, M_tl hM, M_to hM, M_ts hM, M_st hM, M_sl hM, M_so hM, M_ss hM, zi5_0, zi5_1, zi5_2, zi5_3, zi5_4, zr5_5, zr5_6, zt6, zg5, zg8, hA0, hA1, hA2, hA3, hA4, CV_t cv, CV_l cv, CV_o cv, CV_s cv]
theorem mudIn_f (cv : CV σ m A P X) {n : Nat} (hn : n < 2000) : f_X3_mudIn m (nI n) (mk σ w u) = some (nI (mq A (X 0 + n)), mk σ w u) := by
  have hM := CV_M cv; have hT := CV_b cv; have cv2 := cv; obtain ⟨hm, ⟨⟨hA0, hA1, hA2, hA3, hA4⟩, hA7, hrl, hrn, hrc⟩, ⟨hN, hX⟩, ⟨hB1, hB2, hM8, hR8, hS12, hnm, hmd⟩, ⟨hN2, hW, hD⟩, hP⟩ := cv2
  unfold mq
  by_cases h : A 4 = 0
  · simp (disch := omega) only [f_X3_mudIn, f_X1_mudOf_24, f_X1_mudOf, l0, l1, l2, l3, l4, l5, l6, l7, l8, l9, l10, l11, l12, l13, l14, l15, l16, l17, l18, l19, l20, l21, l22, l23, l24, l25, l33, l34, l40, l42, l50, l58, l99, l100, l700, l999, l4095, l9999, l10000, x_neg1, nI_add, x_pred, x_m1, x_J1, pk_sub, nJ_pos, Nat.add_sub_cancel, nI_leI, nI_ltI, nI_eq, q_leJ, q_Jle, q_ltJ, q_Jlt, q_eqJ, q_Jeq, q_JJ, q_JJle, q_JJlt, Option.bind_some, if_pos, if_neg, ↓reduceIte, M_a hM, M_n hM, M_wn hM, M_t hM, M_l hM, M_o hM, M_s hM, M_g hM, M_tt hM, M_tl hM, M_to hM, M_ts hM, M_st hM, M_sl hM, M_so hM, M_ss hM, zi5_0, zi5_1, zi5_2, zi5_3, zi5_4, zr5_5, zr5_6, zt6, zg5, zg8, hA0, hA1, hA2, hA3, hA4, CV_t cv, CV_l cv, CV_o cv, CV_s cv, hN]
  · have hl := Nat.mod_lt (X 0 + n) (show A 4 > 0 by omega)
    simp (disch := omega) only [f_X3_mudIn, f_X1_mudOf_24, f_X1_mudOf, l0, l1, l2, l3, l4, l5, l6, l7, l8, l9, l10, l11, l12, l13, l14, l15, l16, l17, l18, l19, l20, l21, l22, l23, l24, l25, l33, l34, l40, l42, l50, l58, l99, l100, l700, l999, l4095, l9999, l10000, x_neg1, nI_add, x_pred, x_m1, x_J1, pk_sub, nJ_pos, Nat.add_sub_cancel, nI_leI, nI_ltI, nI_eq, q_leJ, q_Jle, q_ltJ, q_Jlt, q_eqJ, q_Jeq, q_JJ, q_JJle, q_JJlt, Option.bind_some, if_pos, if_neg, ↓reduceIte, M_a hM, M_n hM, M_wn hM, M_t hM, M_l hM, M_o hM, M_s hM, M_g hM, M_tt hM, M_tl hM, M_to hM, M_ts hM, M_st hM, M_sl hM, M_so hM, M_ss hM, zi5_0, zi5_1, zi5_2, zi5_3, zi5_4, zr5_5, zr5_6, zt6, zg5, zg8, hA0, hA1, hA2, hA3, hA4, CV_t cv, CV_l cv, CV_o cv, CV_s cv, hN, rem_f, hA7]
theorem menAt_J (cv : CV σ m A P X) {p n : Nat} (hp : p < 100) (hn : n < 2000) : f_X3_menAt m (nJ p) (nI n) (mk σ w u) = some (nI (rw1 A (rt A n X) p), mk σ w u) := by
  have hM := CV_M cv; have hT := CV_b cv; have cv2 := cv; obtain ⟨hm, ⟨⟨hA0, hA1, hA2, hA3, hA4⟩, hA7, hrl, hrn, hrc⟩, ⟨hN, hX⟩, ⟨hB1, hB2, hM8, hR8, hS12, hnm, hmd⟩, ⟨hN2, hW, hD⟩, hP⟩ := cv2
  unfold rw1
  by_cases h0 : p = 0
  · simp (disch := omega) only [f_X3_menAt_15, f_X3_menAt, l0, l1, l2, l3, l4, l5, l6, l7, l8, l9, l10, l11, l12, l13, l14, l15, l16, l17, l18, l19, l20, l21, l22, l23, l24, l25, l33, l34, l40, l42, l50, l58, l99, l100, l700, l999, l4095, l9999, l10000, x_neg1, nI_add, x_pred, x_m1, x_J1, pk_sub, nJ_pos, Nat.add_sub_cancel, nI_leI, nI_ltI, nI_eq, q_leJ, q_Jle, q_ltJ, q_Jlt, q_eqJ, q_Jeq, q_JJ, q_JJle, q_JJlt, Option.bind_some, if_pos, if_neg, ↓reduceIte, M_a hM, M_n hM, M_wn hM, M_t hM, M_l hM, M_o hM, M_s hM, M_g hM, M_tt hM, M_tl hM, M_to hM, M_ts hM, M_st hM, M_sl hM, M_so hM, M_ss hM, zi5_0, zi5_1, zi5_2, zi5_3, zi5_4, zr5_5, zr5_6, zt6, zg5, zg8, hA0, hA1, hA2, hA3, hA4, CV_t cv, CV_l cv, CV_o cv, CV_s cv]
  · by_cases h1 : A 2 < p
    · simp (disch := omega) only [f_X3_menAt_15, f_X3_menAt, l0, l1, l2, l3, l4, l5, l6, l7, l8, l9, l10, l11, l12, l13, l14, l15, l16, l17, l18, l19, l20, l21, l22, l23, l24, l25, l33, l34, l40, l42, l50, l58, l99, l100, l700, l999, l4095, l9999, l10000, x_neg1, nI_add, x_pred, x_m1, x_J1, pk_sub, nJ_pos, Nat.add_sub_cancel, nI_leI, nI_ltI, nI_eq, q_leJ, q_Jle, q_ltJ, q_Jlt, q_eqJ, q_Jeq, q_JJ, q_JJle, q_JJlt, Option.bind_some, if_pos, if_neg, ↓reduceIte, M_a hM, M_n hM, M_wn hM, M_t hM, M_l hM, M_o hM, M_s hM, M_g hM, M_tt hM, M_tl hM, M_to hM, M_ts hM, M_st hM, M_sl hM, M_so hM, M_ss hM, zi5_0, zi5_1, zi5_2, zi5_3, zi5_4, zr5_5, zr5_6, zt6, zg5, zg8, hA0, hA1, hA2, hA3, hA4, CV_t cv, CV_l cv, CV_o cv, CV_s cv]
    · have hl := Nat.mod_lt (p - 1 + n) (show A 2 > 0 by omega)
      have e : rt A n X (24 + p) = X (25 + (p - 1 + n) % A 2) := by rw [show 24 + p = 25 + (p - 1) by omega, rt_s (by omega)]
      simp (disch := omega) only [f_X3_menAt_15, f_X3_menAt, l0, l1, l2, l3, l4, l5, l6, l7, l8, l9, l10, l11, l12, l13, l14, l15, l16, l17, l18, l19, l20, l21, l22, l23, l24, l25, l33, l34, l40, l42, l50, l58, l99, l100, l700, l999, l4095, l9999, l10000, x_neg1, nI_add, x_pred, x_m1, x_J1, pk_sub, nJ_pos, Nat.add_sub_cancel, nI_leI, nI_ltI, nI_eq, q_leJ, q_Jle, q_ltJ, q_Jlt, q_eqJ, q_Jeq, q_JJ, q_JJle, q_JJlt, Option.bind_some, if_pos, if_neg, ↓reduceIte, M_a hM, M_n hM, M_wn hM, M_t hM, M_l hM, M_o hM, M_s hM, M_g hM, M_tt hM, M_tl hM, M_to hM, M_ts hM, M_st hM, M_sl hM, M_so hM, M_ss hM, zi5_0, zi5_1, zi5_2, zi5_3, zi5_4, zr5_5, zr5_6, zt6, zg5, zg8, hA0, hA1, hA2, hA3, hA4, CV_t cv, CV_l cv, CV_o cv, CV_s cv, rem_f, e]
theorem menAt_I (cv : CV σ m A P X) {p n : Nat} (hp : p < 90) (hn : n < 2000) : f_X3_menAt m (nI p) (nI n) (mk σ w u) = some (nI (rw1 A (rt A n X) (p + 1)), mk σ w u) := by
  rw [← nJ_S p]
  exact menAt_J cv (by omega) hn
theorem besideAt_f (cv : CV σ m A P X) {p n : Nat} (hp : p < 80) (hn : n < 2000) : f_X3_besideAt m (nI p) (nI n) (mk σ w u) = some (nI (rw1 A (rt A n X) p ||| rw1 A (rt A n X) (p + 2)), mk σ w u) := by
  have hM := CV_M cv; have hT := CV_b cv; have cv2 := cv; obtain ⟨hm, ⟨⟨hA0, hA1, hA2, hA3, hA4⟩, hA7, hrl, hrn, hrc⟩, ⟨hN, hX⟩, ⟨hB1, hB2, hM8, hR8, hS12, hnm, hmd⟩, ⟨hN2, hW, hD⟩, hP⟩ := cv2
  unfold f_X3_besideAt
  rw [M_g hM, show nI p - 1 = nJ p from rfl, menAt_J cv (by omega) hn, Option.bind_some]
  dsimp only
  rw [nI_1, menAt_I cv (by omega) hn, Option.bind_some, x_or]
theorem give_0 : f_X6_give 8 (nJ 0) v (mk σ w u) = some (mk (s2 σ 14 0 v) w u) := by
  unfold f_X6_give
  rw [zg8, zr8_2, Option.bind_some, show ((-1) : Int32) - nJ 0 = nI 0 by decide, zs13 (by decide), Option.bind_some]
theorem give_1 : f_X6_give 8 (-nI 2) v (mk σ w u) = some (mk (s2 σ 14 1 v) w u) := by
  unfold f_X6_give
  rw [zg8, zr8_2, Option.bind_some, show ((-1) : Int32) - (-nI 2) = nI 1 by decide, zs13 (by decide), Option.bind_some]
theorem give_2 : f_X6_give 8 (-nI 3) v (mk σ w u) = some (mk (s2 σ 14 2 v) w u) := by
  unfold f_X6_give
  rw [zg8, zr8_2, Option.bind_some, show ((-1) : Int32) - (-nI 3) = nI 2 by decide, zs13 (by decide), Option.bind_some]
theorem give_3 : f_X6_give 8 (-nI 4) v (mk σ w u) = some (mk (s2 σ 14 3 v) w u) := by
  unfold f_X6_give
  rw [zg8, zr8_2, Option.bind_some, show ((-1) : Int32) - (-nI 4) = nI 3 by decide, zs13 (by decide), Option.bind_some]
theorem give_4 : f_X6_give 8 (-nI 5) v (mk σ w u) = some (mk (s2 σ 14 4 v) w u) := by
  unfold f_X6_give
  rw [zg8, zr8_2, Option.bind_some, show ((-1) : Int32) - (-nI 5) = nI 4 by decide, zs13 (by decide), Option.bind_some]
theorem give_5 : f_X6_give 8 (-nI 6) v (mk σ w u) = some (mk (s2 σ 14 5 v) w u) := by
  unfold f_X6_give
  rw [zg8, zr8_2, Option.bind_some, show ((-1) : Int32) - (-nI 6) = nI 5 by decide, zs13 (by decide), Option.bind_some]
theorem joined_f {k n : Nat} (h1 : 4 ≤ k) (h2 : k ≤ 11) (a b : Int32) (h : hp_H) : f_X6_joined (eC k n) a b h = some (jn k a b, h) := by
  rcases (show k = 4 ∨ k = 5 ∨ k = 6 ∨ k = 7 ∨ k = 8 ∨ k = 9 ∨ k = 10 ∨ k = 11 by omega) with e | e | e | e | e | e | e | e <;> subst e
  · rw [show eC 4 n = -14 from rfl]
    unfold f_X6_joined
    rw [if_pos rfl, show jn 4 a b = (if a = 0 then 0 else if b = 0 then 0 else 1) from rfl]
    split
    · rfl
    · split <;> rfl
  · rw [show eC 5 n = -15 from rfl]
    unfold f_X6_joined
    rw [if_neg (by decide), if_neg (by decide), if_neg (by decide), if_neg (by decide), if_neg (by decide), if_neg (by decide), if_neg (by decide), show jn 5 a b = (if a = 0 then (if b = 0 then 0 else 1) else 1) from rfl]
    split
    · split <;> rfl
    · rfl
  · rw [show eC 6 n = -12 from rfl]
    unfold f_X6_joined
    rw [if_neg (by decide), if_neg (by decide), if_pos rfl, show jn 6 a b = (if a < b then 1 else 0) from rfl]
    by_cases hc : b ≤ a
    · rw [if_pos hc, if_neg (Int32.not_lt.mpr hc)]; rfl
    · rw [if_neg hc, if_pos (Int32.not_le.mp hc)]; rfl
  · rw [show eC 7 n = -13 from rfl]
    unfold f_X6_joined
    rw [if_neg (by decide), if_pos rfl, show jn 7 a b = (if a = b then 1 else 0) from rfl]
    split <;> rfl
  · rw [show eC 8 n = -8 from rfl]
    unfold f_X6_joined
    rw [if_neg (by decide), if_neg (by decide), if_neg (by decide), if_neg (by decide), if_neg (by decide), if_neg (by decide), if_pos rfl]
    rfl
  · rw [show eC 9 n = -9 from rfl]
    unfold f_X6_joined
    rw [if_neg (by decide), if_neg (by decide), if_neg (by decide), if_neg (by decide), if_neg (by decide), if_pos rfl]
    rfl
  · rw [show eC 10 n = -10 from rfl]
    unfold f_X6_joined
    rw [if_neg (by decide), if_neg (by decide), if_neg (by decide), if_neg (by decide), if_pos rfl]
    rfl
  · rw [show eC 11 n = -11 from rfl]
    unfold f_X6_joined
    rw [if_neg (by decide), if_neg (by decide), if_neg (by decide), if_pos rfl, show jn 11 a b = (if b = 0 then 0 else a / b) from rfl]
    by_cases hc : b = 0
    · rw [if_pos hc, if_pos hc]; rfl
    · rw [if_neg hc, if_neg hc]
      unfold hp_div
      rw [if_neg hc]
      rfl
theorem eC_2 : ∀ n, n < 6 → ¬ eC 2 n ≤ -7 ∧ eC 2 n < 0 ∧ (-1 : Int32) - eC 2 n = nI n := by decide
theorem eC_4 (n : Nat) : ∀ k, k < 12 → 4 ≤ k → eC k n ≤ -7 ∧ ¬ eC k n = -7 := by
  intro k h1 h2
  rcases (show k = 4 ∨ k = 5 ∨ k = 6 ∨ k = 7 ∨ k = 8 ∨ k = 9 ∨ k = 10 ∨ k = 11 by omega) with e | e | e | e | e | e | e | e <;> subst e
  · exact (by decide : (-14 : Int32) ≤ -7 ∧ ¬ (-14 : Int32) = -7)
  · exact (by decide : (-15 : Int32) ≤ -7 ∧ ¬ (-15 : Int32) = -7)
  · exact (by decide : (-12 : Int32) ≤ -7 ∧ ¬ (-12 : Int32) = -7)
  · exact (by decide : (-13 : Int32) ≤ -7 ∧ ¬ (-13 : Int32) = -7)
  · exact (by decide : (-8 : Int32) ≤ -7 ∧ ¬ (-8 : Int32) = -7)
  · exact (by decide : (-9 : Int32) ≤ -7 ∧ ¬ (-9 : Int32) = -7)
  · exact (by decide : (-10 : Int32) ≤ -7 ∧ ¬ (-10 : Int32) = -7)
  · exact (by decide : (-11 : Int32) ≤ -7 ∧ ¬ (-11 : Int32) = -7)
def W10 (q _k : Nat) : Prop := q = 10
theorem s2_10 (σ : Nat → Nat → Int32) (k : Nat) (v : Int32) : s2 σ 10 k v 10 = upd (σ 10) k v := by
  funext j
  unfold s2 upd
  by_cases h : j = k <;> simp [h]
theorem ans_1 {i d n len : Nat} {K : Nat → Int32 → Int32 → hp_H → Option (Int32 × hp_H)} (c1 : σ 12 i = eC 1 n) (c2 : σ 8 3 = nI len) (hi : i < len) (hl : len ≤ 700) (hn : n ≤ 9999) (hd : d < 64) : f_X6_answer_4 K 8 (nI d) (nI i) (mk σ w u) = K 8 (nI (d + 1)) (nI (i + 1)) (mk (s2 σ 10 d (nI n)) w u) := by
  have e1 : ¬ nI n ≤ -7 := by
    rw [Int32.le_iff_toInt_le, nI_toInt (by omega)]
    show ¬ (n : Int) ≤ -7
    omega
  have e2 : ¬ nI n < 0 := nI_pos (n := n) (by omega)
  rw [show eC 1 n = nI n from rfl] at c1
  unfold f_X6_answer_4
  rw [zi8_3, Option.bind_some, c2, if_neg (nI_ge hi (by omega)), zr8_1, Option.bind_some, zt11 (by omega), Option.bind_some]
  dsimp only
  rw [c1, if_neg e1, zr8_0, Option.bind_some, if_neg e2]
  unfold f_X6_answer_50 f_X6_answer_131
  rw [zs9 hd, Option.bind_some, nI_1, nI_1]
theorem ans_2 {i d n len : Nat} {K : Nat → Int32 → Int32 → hp_H → Option (Int32 × hp_H)} (c1 : σ 12 i = eC 2 n) (c2 : σ 8 3 = nI len) (hi : i < len) (hl : len ≤ 700) (hn : n < 6) (hd : d < 64) : f_X6_answer_4 K 8 (nI d) (nI i) (mk σ w u) = K 8 (nI (d + 1)) (nI (i + 1)) (mk (s2 σ 10 d (σ 14 n)) w u) := by
  obtain ⟨e1, e2, e3⟩ := eC_2 n hn
  unfold f_X6_answer_4
  rw [zi8_3, Option.bind_some, c2, if_neg (nI_ge hi (by omega)), zr8_1, Option.bind_some, zt11 (by omega), Option.bind_some]
  dsimp only
  rw [c1, if_neg e1, zr8_0, Option.bind_some, if_pos e2, zr8_2, Option.bind_some, e3, zt13 hn, Option.bind_some]
  unfold f_X6_answer_50 f_X6_answer_131
  dsimp only
  rw [zs9 hd, Option.bind_some, nI_1, nI_1]
theorem ans_3 {i d n len : Nat} {K : Nat → Int32 → Int32 → hp_H → Option (Int32 × hp_H)} (c1 : σ 12 i = eC 3 n) (c2 : σ 8 3 = nI len) (hi : i < len) (hl : len ≤ 700) (hd2 : 1 ≤ d) (hd : d ≤ 64) : f_X6_answer_4 K 8 (nI d) (nI i) (mk σ w u) = K 8 (nI d) (nI (i + 1)) (mk (s2 σ 10 (d - 1) (if σ 10 (d - 1) = 0 then 1 else 0)) w u) := by
  rw [show eC 3 n = -7 from rfl] at c1
  have e3 : nI d - 1 = nI (d - 1) := pk_sub (b := 1) hd2
  have e4 : (-7 : Int32) ≤ -7 := by decide
  by_cases h0 : σ 10 (d - 1) = 0
  · simp (disch := omega) only [f_X6_answer_4, zi8_3, c2, nI_leI, zr8_1, zt11, c1, Option.bind_some, if_pos e4, if_pos h0, if_neg, zr8_0, e3, zt9, f_X6_answer_90, f_X6_answer_131, zs9, nI_1, ↓reduceIte]
  · simp (disch := omega) only [f_X6_answer_4, zi8_3, c2, nI_leI, zr8_1, zt11, c1, Option.bind_some, if_pos e4, if_neg h0, if_neg, zr8_0, e3, zt9, f_X6_answer_90, f_X6_answer_131, zs9, nI_1, ↓reduceIte]
theorem ans_4 {i d k n len : Nat} {K : Nat → Int32 → Int32 → hp_H → Option (Int32 × hp_H)} (c1 : σ 12 i = eC k n) (c2 : σ 8 3 = nI len) (hi : i < len) (hl : len ≤ 700) (hk : 4 ≤ k) (hk2 : k ≤ 11) (hd2 : 2 ≤ d) (hd : d ≤ 64) : f_X6_answer_4 K 8 (nI d) (nI i) (mk σ w u) = K 8 (nI (d - 1)) (nI (i + 1)) (mk (s2 σ 10 (d - 2) (jn k (σ 10 (d - 2)) (σ 10 (d - 1)))) w u) := by
  obtain ⟨e3, e4⟩ := eC_4 n k (by omega) hk
  have e5 : nI d + (-1) = nI (d - 1) := by
    have h := pk_m1 (d - 1)
    rw [show d - 1 + 1 = d by omega] at h
    exact h
  have e6 : nI (d - 1) - 1 = nI (d - 2) := pk_sub (a := d - 1) (b := 1) (by omega)
  simp (disch := omega) only [f_X6_answer_4, zi8_3, c2, nI_leI, zr8_1, zt11, c1, Option.bind_some, if_pos e3, if_neg e4, if_neg, zr8_0, e5, e6, zt9, joined_f, f_X6_answer_131, zs9, nI_1]
theorem ans_0 {d len : Nat} {V : Int32} {K : Nat → Int32 → Int32 → hp_H → Option (Int32 × hp_H)} (c2 : σ 8 3 = nI len) (hl : len ≤ 700) (h : σ 10 0 = V) : f_X6_answer_4 K 8 (nI d) (nI len) (mk σ w u) = some (V, mk σ w u) := by
  simp (disch := omega) only [f_X6_answer_4, f_X6_answer_137, l0, zi8_3, Option.bind_some, c2, nI_leI, if_pos, zr8_0, zt9, h]
/-- the pile as the rule is reckoned behind its first i codes -/
theorem answer_f {vl : Nat → Int32} (hl : σ 8 3 = nI P.length) (hl2 : P.length ≤ 700) (hc : ∀ j k n, P[j]? = some (k, n) → σ 12 j = eC k n) (hP : okP P 0) (hv : ∀ k, k < 6 → σ 14 k = vl k) : ∃ σ', Fr W10 σ σ' ∧ f_X6_answer 8 (mk σ w u) = some (ev P vl, mk σ' w u) := by
  unfold f_X6_answer l_X6_answer_4
  rw [zg8]
  have key := lp_gen (f := fun k (s : Nat × Int32 × Int32 × hp_H) => f_X6_answer_4  (fun a0 a1 a2 a3 => k (a0, a1, a2, a3)) s.1 s.2.1 s.2.2.1 s.2.2.2)
    (fun i s => ∃ σ1 d, s = (8, nI d, nI i, mk σ1 w u) ∧ Fr W10 σ σ1 ∧ okP (P.drop i) d ∧ d ≤ 64 ∧ ex vl (P.drop i) (σ1 10) d = ev P vl) P.length
    (fun r => ∃ σ2, Fr W10 σ σ2 ∧ r = (ev P vl, mk σ2 w u)) ?_ ?_ P.length 0 100000 (8, 0, 0, mk σ w u) (by omega) (by omega) ⟨σ, 0, rfl, Fr_r _ _, hP, by omega, ex_c vl P 0 _ _ hP (fun j hj => by omega)⟩
  · obtain ⟨r, h1, σ2, h2, h3⟩ := key
    exact ⟨σ2, h2, by rw [← h3]; exact h1⟩
  · intro i hi s hs
    obtain ⟨σ1, d, hs1, fr, ok, hd, hex⟩ := hs
    subst hs1
    refine Or.inl ?_
    obtain ⟨k, n, hp⟩ : ∃ k n, P[i] = (k, n) := ⟨P[i].1, P[i].2, rfl⟩
    have hg : P[i]? = some (k, n) := by rw [List.getElem?_eq_getElem hi, hp]
    have hdr : P.drop i = (k, n) :: P.drop (i + 1) := by rw [List.drop_eq_getElem_cons hi, hp]
    rw [hdr] at ok hex
    have c1 : σ1 12 i = eC k n := by rw [fr 12 i (by unfold W10; omega)]; exact hc i k n hg
    have c2 : σ1 8 3 = nI P.length := by rw [fr 8 3 (by unfold W10; omega)]; exact hl
    have c3 : ∀ k, k < 6 → σ1 14 k = vl k := fun k hk => by rw [fr 14 k (by unfold W10; omega)]; exact hv k hk
    unfold ex at hex
    rcases ok with ⟨e, hn, hd2, ok2⟩ | ⟨e, hn, hd2, ok2⟩ | ⟨e, hd2, ok2⟩ | ⟨e, e2, hd2, ok2⟩
    · subst e
      rw [if_pos rfl, ← s2_10] at hex
      refine ⟨(8, nI (d + 1), nI (i + 1), mk (s2 σ1 10 d (nI n)) w u), ⟨_, _, rfl, Fr_st fr rfl, ok2, by omega, hex⟩, fun K => ?_⟩
      dsimp only
      exact ans_1 c1 c2 hi hl2 hn hd2
    · subst e
      rw [if_neg (by decide), if_pos rfl, ← c3 n hn, ← s2_10] at hex
      refine ⟨(8, nI (d + 1), nI (i + 1), mk (s2 σ1 10 d (σ1 14 n)) w u), ⟨_, _, rfl, Fr_st fr rfl, ok2, by omega, hex⟩, fun K => ?_⟩
      dsimp only
      exact ans_2 c1 c2 hi hl2 hn hd2
    · subst e
      rw [if_neg (by decide), if_neg (by decide), if_pos rfl, ← s2_10] at hex
      refine ⟨(8, nI d, nI (i + 1), mk (s2 σ1 10 (d - 1) (if σ1 10 (d - 1) = 0 then 1 else 0)) w u), ⟨_, _, rfl, Fr_st fr rfl, ok2, hd, hex⟩, fun K => ?_⟩
      dsimp only
      exact ans_3 c1 c2 hi hl2 hd2 hd
    · rw [if_neg (by omega), if_neg (by omega), if_neg (by omega), ← s2_10] at hex
      refine ⟨(8, nI (d - 1), nI (i + 1), mk (s2 σ1 10 (d - 2) (jn k (σ1 10 (d - 2)) (σ1 10 (d - 1)))) w u), ⟨_, _, rfl, Fr_st fr rfl, ok2, by omega, hex⟩, fun K => ?_⟩
      dsimp only
      exact ans_4 c1 c2 hi hl2 e e2 hd2 hd
  · intro s hs
    obtain ⟨σ1, d, hs1, fr, ok, hd, hex⟩ := hs
    subst hs1
    rw [List.drop_length] at ok hex
    have c2 : σ1 8 3 = nI P.length := by rw [fr 8 3 (by unfold W10; omega)]; exact hl
    refine ⟨(ev P vl, mk σ1 w u), ⟨σ1, fr, rfl⟩, fun K => ?_⟩
    dsimp only
    exact ans_0 c2 hl2 hex
end MA
