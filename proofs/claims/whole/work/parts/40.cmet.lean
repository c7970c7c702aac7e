/-! L3: the class's marches: methods -/
theorem hp_min_nI {a b : Nat} (ha : a < 2 ^ 31) (hb : b < 2 ^ 31) : hp_min (nI a) (nI b) = nI (min a b) := by
  unfold hp_min
  by_cases h : b < a
  · rw [if_pos ((nI_ltI hb ha).mpr h), Nat.min_eq_right (by omega)]
  · rw [if_neg (fun e => h ((nI_ltI hb ha).mp e)), Nat.min_eq_left (by omega)]
theorem hp_max_nI {a b : Nat} (ha : a < 2 ^ 31) (hb : b < 2 ^ 31) : hp_max (nI a) (nI b) = nI (max a b) := by
  unfold hp_max
  by_cases h : a < b
  · rw [if_pos ((nI_ltI ha hb).mpr h), Nat.max_eq_right (by omega)]
  · rw [if_neg (fun e => h ((nI_ltI ha hb).mp e)), Nat.max_eq_left (by omega)]
theorem tn_S (A : Nat → Nat) (P : List (Nat × Nat)) (X : Nat → Nat) (c w i : Nat) : tn A P X c w (i + 1) = tn A P X c w i + (if na A P X i w = c then 1 else 0) := rfl
theorem nbt_S (A : Nat → Nat) (P : List (Nat × Nat)) (X : Nat → Nat) (w i : Nat) : nbt A P X w (i + 1) = if na A P X i w = 0 then nbt A P X w i else nbt A P X w i ||| 2 ^ (na A P X i w - 1) := rfl
theorem rr_S (A : Nat → Nat) (P : List (Nat × Nat)) (X : Nat → Nat) (w i : Nat) : rr A P X w (i + 1) = if na A P X i w = 0 then rr A P X w i else if bt (X (25 + i)) (na A P X i w - 1) = 0 then rr A P X w i else rr A P X w i + 1 := rfl
theorem mc_S (A : Nat → Nat) (P : List (Nat × Nat)) (X : Nat → Nat) (w i : Nat) : mc A P X w (i + 1) = if na A P X i w = 0 then mc A P X w i else if bt (X (25 + i)) (na A P X i w - 1) = 0 then mc A P X w i + 1 else mc A P X w i := rfl
theorem rw1_i {A X : Nat → Nat} {i : Nat} (h : i < A 2) : rw1 A X (i + 1) = X (25 + i) := by
  unfold rw1
  rw [if_neg (by omega), if_neg (by omega), show 24 + (i + 1) = 25 + i by omega]
section MV
variable {τ : Nat → Nat → Int32} {m j a : Nat} {X Y : Nat → Nat}
theorem Mv_c (mv : Mv τ m X) (h : ∀ k, k < 33 → X k = Y k) : Mv τ m Y := by
  refine ⟨?_, fun i hi => ⟨?_, ?_, ?_, ?_⟩⟩
  · rw [← h 0 (by omega)]; exact mv.1
  · rw [← h (1 + i) (by omega)]; exact (mv.2 i hi).1
  · rw [← h (9 + i) (by omega)]; exact (mv.2 i hi).2.1
  · rw [← h (17 + i) (by omega)]; exact (mv.2 i hi).2.2.1
  · rw [← h (25 + i) (by omega)]; exact (mv.2 i hi).2.2.2
theorem Mv_n (mv : Mv τ m X) : Mv (s2 τ m 1 (nI a)) m (un X 0 a) := by
  refine ⟨by rw [s2_at rfl rfl, un_at rfl], fun i hi => ⟨?_, ?_, ?_, ?_⟩⟩
  · rw [s2_off (by omega), un_off (by omega)]; exact (mv.2 i hi).1
  · rw [s2_off (by omega), un_off (by omega)]; exact (mv.2 i hi).2.1
  · rw [s2_off (by omega), un_off (by omega)]; exact (mv.2 i hi).2.2.1
  · rw [s2_off (by omega), un_off (by omega)]; exact (mv.2 i hi).2.2.2
theorem Mv_t (mv : Mv τ m X) (hj : j < 8) : Mv (s2 τ (m + 2) j (nI a)) m (un X (1 + j) a) := by
  refine ⟨by rw [s2_off (by omega), un_off (by omega)]; exact mv.1, fun i hi => ⟨?_, ?_, ?_, ?_⟩⟩
  · by_cases h : i = j
    · rw [s2_at rfl h, un_at (by omega)]
    · rw [s2_off (by omega), un_off (by omega)]; exact (mv.2 i hi).1
  · rw [s2_off (by omega), un_off (by omega)]; exact (mv.2 i hi).2.1
  · rw [s2_off (by omega), un_off (by omega)]; exact (mv.2 i hi).2.2.1
  · rw [s2_off (by omega), un_off (by omega)]; exact (mv.2 i hi).2.2.2
theorem Mv_l (mv : Mv τ m X) (hj : j < 8) : Mv (s2 τ (m + 4) j (nI a)) m (un X (9 + j) a) := by
  refine ⟨by rw [s2_off (by omega), un_off (by omega)]; exact mv.1, fun i hi => ⟨?_, ?_, ?_, ?_⟩⟩
  · rw [s2_off (by omega), un_off (by omega)]; exact (mv.2 i hi).1
  · by_cases h : i = j
    · rw [s2_at rfl h, un_at (by omega)]
    · rw [s2_off (by omega), un_off (by omega)]; exact (mv.2 i hi).2.1
  · rw [s2_off (by omega), un_off (by omega)]; exact (mv.2 i hi).2.2.1
  · rw [s2_off (by omega), un_off (by omega)]; exact (mv.2 i hi).2.2.2
theorem Mv_o (mv : Mv τ m X) (hj : j < 8) : Mv (s2 τ (m + 6) j (nI a)) m (un X (17 + j) a) := by
  refine ⟨by rw [s2_off (by omega), un_off (by omega)]; exact mv.1, fun i hi => ⟨?_, ?_, ?_, ?_⟩⟩
  · rw [s2_off (by omega), un_off (by omega)]; exact (mv.2 i hi).1
  · rw [s2_off (by omega), un_off (by omega)]; exact (mv.2 i hi).2.1
  · by_cases h : i = j
    · rw [s2_at rfl h, un_at (by omega)]
    · rw [s2_off (by omega), un_off (by omega)]; exact (mv.2 i hi).2.2.1
  · rw [s2_off (by omega), un_off (by omega)]; exact (mv.2 i hi).2.2.2
theorem Mv_s (mv : Mv τ m X) (hj : j < 8) : Mv (s2 τ (m + 8) j (nI a)) m (un X (25 + j) a) := by
  refine ⟨by rw [s2_off (by omega), un_off (by omega)]; exact mv.1, fun i hi => ⟨?_, ?_, ?_, ?_⟩⟩
  · rw [s2_off (by omega), un_off (by omega)]; exact (mv.2 i hi).1
  · rw [s2_off (by omega), un_off (by omega)]; exact (mv.2 i hi).2.1
  · rw [s2_off (by omega), un_off (by omega)]; exact (mv.2 i hi).2.2.1
  · by_cases h : i = j
    · rw [s2_at rfl h, un_at (by omega)]
    · rw [s2_off (by omega), un_off (by omega)]; exact (mv.2 i hi).2.2.2
theorem Mv_fr {σ : Nat → Nat → Int32} (mv : Mv σ m X) (fr : Fr Wc σ τ) (hm : 20 < m) : Mv τ m X := by
  have g : ∀ q k, 20 < q → τ q k = σ q k := fun q k h => fr q k (by unfold Wc; omega)
  refine ⟨by rw [g _ _ (by omega)]; exact mv.1, fun i hi => ?_⟩
  rw [g _ _ (by omega), g _ _ (by omega), g _ _ (by omega), g _ _ (by omega)]
  exact mv.2 i hi
end MV
section MC
variable {σ : Nat → Nat → Int32} {w u : Int64} {m i : Nat} {A X : Nat → Nat} {P : List (Nat × Nat)} {v : Int32}
theorem timesNamed_f (cv : CV σ m A P X) {c n mud : Nat} (hc : c < 100) (hn : X 0 + n < 2000) (hmu : mud < 1000) : RQ (Fr Wc σ) w u (nI (tn A P (rt A n X) c mud (A 2))) (f_X3_timesNamed m (nJ c) (nI n) (nI mud) (mk σ w u)) := by
  have hM := CV_M cv
  have hR8 := cv.2.2.2.1.2.2.2.1
  unfold f_X3_timesNamed l_X3_timesNamed_6
  rw [M_g hM]
  refine lp_S (RQ (Fr Wc σ) w u (nI (tn A P (rt A n X) c mud (A 2)))) (fun i τ => (m, nJ c, nI n, nI mud, nI (tn A P (rt A n X) c mud i), nI i, mk τ w u)) (fun _ τ => Fr Wc σ τ) (A 2) ?_ ?_ (A 2) 0 _ σ (by omega) (by omega) (Fr_r _ _)
  · intro i hi k τ fr hk
    have cv := CV_fr cv fr
    have hM := CV_M cv; have hT := CV_b cv; have cv2 := cv; obtain ⟨hm, ⟨⟨hA0, hA1, hA2, hA3, hA4⟩, hA7, hrl, hrn, hrc⟩, ⟨hN, hX⟩, ⟨hB1, hB2, hM8, hR8, hS12, hnm, hmd⟩, ⟨hN2, hW, hD⟩, hP⟩ := cv2
    obtain ⟨τ2, g1, g2⟩ := namedAt_f (w := w) (u := u) cv (p := i) (n := n) (mud := mud) (by omega) hn hmu
    have h9 := na_le A P (rt A n X) i mud hS12
    have h := hk τ2 (Fr_t fr g1)
    dsimp only at h ⊢
    by_cases h1 : na A P (rt A n X) i mud = c
    · rw [tn_S, if_pos h1] at h
      simp (disch := omega) only [f_X3_timesNamed_39, f_X3_timesNamed_33, f_X3_timesNamed_6, f_X3_timesNamed, l0, l1, l2, l3, l4, l5, l6, l7, l8, l9, l10, l11, l12, l13, l14, l15, l16, l17, l18, l19, l20, l21, l22, l23, l24, l25, l33, l34, l40, l42, l50, l58, l99, l100, l700, l999, l4095, l9999, l10000, x_neg1, nI_add, x_pred, x_m1, x_J1, pk_sub, nJ_pos, Nat.add_sub_cancel, nI_leI, nI_ltI, nI_eq, q_leJ, q_Jle, q_ltJ, q_Jlt, q_eqJ, q_Jeq, q_JJ, q_JJle, q_JJlt, Option.bind_some, if_pos, if_neg, ↓reduceIte, M_a hM, M_n hM, M_wn hM, M_t hM, M_l hM, M_o hM, M_s hM, M_g hM, M_tt hM, M_tl hM, M_to hM, M_ts hM, M_st hM, M_sl hM, M_so hM, M_ss hM, zi5_0, zi5_1, zi5_2, zi5_3, zi5_4, zr5_5, zr5_6, zt6, zg5, zg8, hA0, hA1, hA2, hA3, hA4, CV_t cv, CV_l cv, CV_o cv, CV_s cv, g2]
      exact h
    · rw [tn_S, if_neg h1, Nat.add_zero] at h
      simp (disch := omega) only [f_X3_timesNamed_39, f_X3_timesNamed_33, f_X3_timesNamed_6, f_X3_timesNamed, l0, l1, l2, l3, l4, l5, l6, l7, l8, l9, l10, l11, l12, l13, l14, l15, l16, l17, l18, l19, l20, l21, l22, l23, l24, l25, l33, l34, l40, l42, l50, l58, l99, l100, l700, l999, l4095, l9999, l10000, x_neg1, nI_add, x_pred, x_m1, x_J1, pk_sub, nJ_pos, Nat.add_sub_cancel, nI_leI, nI_ltI, nI_eq, q_leJ, q_Jle, q_ltJ, q_Jlt, q_eqJ, q_Jeq, q_JJ, q_JJle, q_JJlt, Option.bind_some, if_pos, if_neg, ↓reduceIte, M_a hM, M_n hM, M_wn hM, M_t hM, M_l hM, M_o hM, M_s hM, M_g hM, M_tt hM, M_tl hM, M_to hM, M_ts hM, M_st hM, M_sl hM, M_so hM, M_ss hM, zi5_0, zi5_1, zi5_2, zi5_3, zi5_4, zr5_5, zr5_6, zt6, zg5, zg8, hA0, hA1, hA2, hA3, hA4, CV_t cv, CV_l cv, CV_o cv, CV_s cv, g2]
      exact h
  · intro k τ fr
    have cv := CV_fr cv fr
    have hM := CV_M cv; have hT := CV_b cv; have cv2 := cv; obtain ⟨hm, ⟨⟨hA0, hA1, hA2, hA3, hA4⟩, hA7, hrl, hrn, hrc⟩, ⟨hN, hX⟩, ⟨hB1, hB2, hM8, hR8, hS12, hnm, hmd⟩, ⟨hN2, hW, hD⟩, hP⟩ := cv2
    dsimp only
    simp (disch := omega) only [f_X3_timesNamed_39, f_X3_timesNamed_33, f_X3_timesNamed_6, f_X3_timesNamed, l0, l1, l2, l3, l4, l5, l6, l7, l8, l9, l10, l11, l12, l13, l14, l15, l16, l17, l18, l19, l20, l21, l22, l23, l24, l25, l33, l34, l40, l42, l50, l58, l99, l100, l700, l999, l4095, l9999, l10000, x_neg1, nI_add, x_pred, x_m1, x_J1, pk_sub, nJ_pos, Nat.add_sub_cancel, nI_leI, nI_ltI, nI_eq, q_leJ, q_Jle, q_ltJ, q_Jlt, q_eqJ, q_Jeq, q_JJ, q_JJle, q_JJlt, Option.bind_some, if_pos, if_neg, ↓reduceIte, M_a hM, M_n hM, M_wn hM, M_t hM, M_l hM, M_o hM, M_s hM, M_g hM, M_tt hM, M_tl hM, M_to hM, M_ts hM, M_st hM, M_sl hM, M_so hM, M_ss hM, zi5_0, zi5_1, zi5_2, zi5_3, zi5_4, zr5_5, zr5_6, zt6, zg5, zg8, hA0, hA1, hA2, hA3, hA4, CV_t cv, CV_l cv, CV_o cv, CV_s cv]
    exact ⟨τ, fr, rfl⟩
theorem namedBits_f (cv : CV σ m A P X) {n : Nat} (hn : X 0 + n < 2000) : RQ (Fr Wc σ) w u (nI (nbt A P (rt A n X) (mq A (X 0 + n)) (A 2))) (f_X3_namedBits m (nI n) (mk σ w u)) := by
  have hM := CV_M cv
  have hR8 := cv.2.2.2.1.2.2.2.1
  have hmu := mq_lt cv.2.2.2.1 (X 0 + n)
  unfold f_X3_namedBits
  rw [M_g hM, mudIn_f cv (by omega), Option.bind_some]
  dsimp only
  unfold l_X3_namedBits_11
  refine lp_S (RQ (Fr Wc σ) w u (nI (nbt A P (rt A n X) (mq A (X 0 + n)) (A 2)))) (fun i τ => (m, nI n, nI (mq A (X 0 + n)), nI (nbt A P (rt A n X) (mq A (X 0 + n)) i), nI i, mk τ w u)) (fun _ τ => Fr Wc σ τ) (A 2) ?_ ?_ (A 2) 0 _ σ (by omega) (by omega) (Fr_r _ _)
  · intro i hi k τ fr hk
    have cv := CV_fr cv fr
    have hM := CV_M cv; have hT := CV_b cv; have cv2 := cv; obtain ⟨hm, ⟨⟨hA0, hA1, hA2, hA3, hA4⟩, hA7, hrl, hrn, hrc⟩, ⟨hN, hX⟩, ⟨hB1, hB2, hM8, hR8, hS12, hnm, hmd⟩, ⟨hN2, hW, hD⟩, hP⟩ := cv2
    obtain ⟨τ2, g1, g2⟩ := namedAt_f (w := w) (u := u) cv (p := i) (n := n) (mud := mq A (X 0 + n)) (by omega) hn (by omega)
    have h9 := na_le A P (rt A n X) i (mq A (X 0 + n)) hS12
    have h := hk τ2 (Fr_t fr g1)
    dsimp only at h ⊢
    by_cases h1 : na A P (rt A n X) i (mq A (X 0 + n)) = 0
    · rw [nbt_S, if_pos h1] at h
      simp (disch := omega) only [f_X3_namedBits_52, f_X3_namedBits_46, f_X3_namedBits_11, f_X3_namedBits, l0, l1, l2, l3, l4, l5, l6, l7, l8, l9, l10, l11, l12, l13, l14, l15, l16, l17, l18, l19, l20, l21, l22, l23, l24, l25, l33, l34, l40, l42, l50, l58, l99, l100, l700, l999, l4095, l9999, l10000, x_neg1, nI_add, x_pred, x_m1, x_J1, pk_sub, nJ_pos, Nat.add_sub_cancel, nI_leI, nI_ltI, nI_eq, q_leJ, q_Jle, q_ltJ, q_Jlt, q_eqJ, q_Jeq, q_JJ, q_JJle, q_JJlt, Option.bind_some, if_pos, if_neg, ↓reduceIte, M_a hM, M_n hM, M_wn hM, M_t hM, M_l hM, M_o hM, M_s hM, M_g hM, M_tt hM, M_tl hM, M_to hM, M_ts hM, M_st hM, M_sl hM, M_so hM, M_ss hM, zi5_0, zi5_1, zi5_2, zi5_3, zi5_4, zr5_5, zr5_6, zt6, zg5, zg8, hA0, hA1, hA2, hA3, hA4, CV_t cv, CV_l cv, CV_o cv, CV_s cv, g2]
      exact h
    · rw [nbt_S, if_neg h1] at h
      simp (disch := omega) only [f_X3_namedBits_52, f_X3_namedBits_46, f_X3_namedBits_11, f_X3_namedBits, l0, l1, l2, l3, l4, l5, l6, l7, l8, l9, l10, l11, l12, l13, l14, l15, l16, l17, l18, l19, l20, l21, l22, l23, l24, l25, l33, l34, l40, l42, l50, l58, l99, l100, l700, l999, l4095, l9999, l10000, x_neg1, nI_add, x_pred, x_m1, x_J1, pk_sub, nJ_pos, Nat.add_sub_cancel, nI_leI, nI_ltI, nI_eq, q_leJ, q_Jle, q_ltJ, q_Jlt, q_eqJ, q_Jeq, q_JJ, q_JJle, q_JJlt, Option.bind_some, if_pos, if_neg, ↓reduceIte, M_a hM, M_n hM, M_wn hM, M_t hM, M_l hM, M_o hM, M_s hM, M_g hM, M_tt hM, M_tl hM, M_to hM, M_ts hM, M_st hM, M_sl hM, M_so hM, M_ss hM, zi5_0, zi5_1, zi5_2, zi5_3, zi5_4, zr5_5, zr5_6, zt6, zg5, zg8, hA0, hA1, hA2, hA3, hA4, CV_t cv, CV_l cv, CV_o cv, CV_s cv, g2, x_one, x_or]
      exact h
  · intro k τ fr
    have cv := CV_fr cv fr
    have hM := CV_M cv; have hT := CV_b cv; have cv2 := cv; obtain ⟨hm, ⟨⟨hA0, hA1, hA2, hA3, hA4⟩, hA7, hrl, hrn, hrc⟩, ⟨hN, hX⟩, ⟨hB1, hB2, hM8, hR8, hS12, hnm, hmd⟩, ⟨hN2, hW, hD⟩, hP⟩ := cv2
    dsimp only
    simp (disch := omega) only [f_X3_namedBits_52, f_X3_namedBits_46, f_X3_namedBits_11, f_X3_namedBits, l0, l1, l2, l3, l4, l5, l6, l7, l8, l9, l10, l11, l12, l13, l14, l15, l16, l17, l18, l19, l20, l21, l22, l23, l24, l25, l33, l34, l40, l42, l50, l58, l99, l100, l700, l999, l4095, l9999, l10000, x_neg1, nI_add, x_pred, x_m1, x_J1, pk_sub, nJ_pos, Nat.add_sub_cancel, nI_leI, nI_ltI, nI_eq, q_leJ, q_Jle, q_ltJ, q_Jlt, q_eqJ, q_Jeq, q_JJ, q_JJle, q_JJlt, Option.bind_some, if_pos, if_neg, ↓reduceIte, M_a hM, M_n hM, M_wn hM, M_t hM, M_l hM, M_o hM, M_s hM, M_g hM, M_tt hM, M_tl hM, M_to hM, M_ts hM, M_st hM, M_sl hM, M_so hM, M_ss hM, zi5_0, zi5_1, zi5_2, zi5_3, zi5_4, zr5_5, zr5_6, zt6, zg5, zg8, hA0, hA1, hA2, hA3, hA4, CV_t cv, CV_l cv, CV_o cv, CV_s cv]
    exact ⟨τ, fr, rfl⟩
theorem rightRows_f (cv : CV σ m A P X) {n : Nat} (hn : X 0 + n < 2000) : RQ (Fr Wc σ) w u (nI (rr A P (rt A n X) (mq A (X 0 + n)) (A 2))) (f_X3_rightRows m (nI n) (mk σ w u)) := by
  have hM := CV_M cv
  have hR8 := cv.2.2.2.1.2.2.2.1
  have hmu := mq_lt cv.2.2.2.1 (X 0 + n)
  unfold f_X3_rightRows
  rw [M_g hM, mudIn_f cv (by omega), Option.bind_some]
  dsimp only
  unfold l_X3_rightRows_11
  refine lp_S (RQ (Fr Wc σ) w u (nI (rr A P (rt A n X) (mq A (X 0 + n)) (A 2)))) (fun i τ => (m, nI n, nI (mq A (X 0 + n)), nI (rr A P (rt A n X) (mq A (X 0 + n)) i), nI i, mk τ w u)) (fun _ τ => Fr Wc σ τ) (A 2) ?_ ?_ (A 2) 0 _ σ (by omega) (by omega) (Fr_r _ _)
  · intro i hi k τ fr hk
    have cv := CV_fr cv fr
    obtain ⟨τ2, g1, g2⟩ := namedAt_f (w := w) (u := u) cv (p := i) (n := n) (mud := mq A (X 0 + n)) (by omega) hn (by omega)
    have cv3 := CV_fr cv g1
    have hM := CV_M cv; have hT := CV_b cv; have cv2 := cv; obtain ⟨hm, ⟨⟨hA0, hA1, hA2, hA3, hA4⟩, hA7, hrl, hrn, hrc⟩, ⟨hN, hX⟩, ⟨hB1, hB2, hM8, hR8, hS12, hnm, hmd⟩, ⟨hN2, hW, hD⟩, hP⟩ := cv2
    have h8 := rw1_lt cv.2.2.2.1 (rt_W cv.2.2.2.1 cv.2.2.2.2.1 hn) (i + 1)
    rw [rw1_i (by omega)] at h8
    have h9 := na_le A P (rt A n X) i (mq A (X 0 + n)) hS12
    have h := hk τ2 (Fr_t fr g1)
    have e8 := menAt_I (w := w) (u := u) cv3 (p := i) (n := n) (by omega) (by omega)
    rw [rw1_i (by omega)] at e8
    dsimp only at h ⊢
    by_cases h1 : na A P (rt A n X) i (mq A (X 0 + n)) = 0
    · rw [rr_S, if_pos h1] at h
      simp (disch := omega) only [f_X3_rightRows_63, f_X3_rightRows_57, f_X3_rightRows_11, f_X3_rightRows, l0, l1, l2, l3, l4, l5, l6, l7, l8, l9, l10, l11, l12, l13, l14, l15, l16, l17, l18, l19, l20, l21, l22, l23, l24, l25, l33, l34, l40, l42, l50, l58, l99, l100, l700, l999, l4095, l9999, l10000, x_neg1, nI_add, x_pred, x_m1, x_J1, pk_sub, nJ_pos, Nat.add_sub_cancel, nI_leI, nI_ltI, nI_eq, q_leJ, q_Jle, q_ltJ, q_Jlt, q_eqJ, q_Jeq, q_JJ, q_JJle, q_JJlt, Option.bind_some, if_pos, if_neg, ↓reduceIte, M_a hM, M_n hM, M_wn hM, M_t hM, M_l hM, M_o hM, M_s hM, M_g hM, M_tt hM, M_tl hM, M_to hM, M_ts hM, M_st hM, M_sl hM, M_so hM, M_ss hM, zi5_0, zi5_1, zi5_2, zi5_3, zi5_4, zr5_5, zr5_6, zt6, zg5, zg8, hA0, hA1, hA2, hA3, hA4, CV_t cv, CV_l cv, CV_o cv, CV_s cv, g2]
      exact h
    · have h7 := bt_lt (rt A n X (25 + i)) (na A P (rt A n X) i (mq A (X 0 + n)) - 1)
      by_cases h2 : bt (rt A n X (25 + i)) (na A P (rt A n X) i (mq A (X 0 + n)) - 1) = 0
      · rw [rr_S, if_neg h1, if_pos h2] at h
        simp (disch := omega) only [f_X3_rightRows_63, f_X3_rightRows_57, f_X3_rightRows_11, f_X3_rightRows, l0, l1, l2, l3, l4, l5, l6, l7, l8, l9, l10, l11, l12, l13, l14, l15, l16, l17, l18, l19, l20, l21, l22, l23, l24, l25, l33, l34, l40, l42, l50, l58, l99, l100, l700, l999, l4095, l9999, l10000, x_neg1, nI_add, x_pred, x_m1, x_J1, pk_sub, nJ_pos, Nat.add_sub_cancel, nI_leI, nI_ltI, nI_eq, q_leJ, q_Jle, q_ltJ, q_Jlt, q_eqJ, q_Jeq, q_JJ, q_JJle, q_JJlt, Option.bind_some, if_pos, if_neg, ↓reduceIte, M_a hM, M_n hM, M_wn hM, M_t hM, M_l hM, M_o hM, M_s hM, M_g hM, M_tt hM, M_tl hM, M_to hM, M_ts hM, M_st hM, M_sl hM, M_so hM, M_ss hM, zi5_0, zi5_1, zi5_2, zi5_3, zi5_4, zr5_5, zr5_6, zt6, zg5, zg8, hA0, hA1, hA2, hA3, hA4, CV_t cv, CV_l cv, CV_o cv, CV_s cv, g2, e8, holds_f]
        exact h
      · rw [rr_S, if_neg h1, if_neg h2] at h
        simp (disch := omega) only [f_X3_rightRows_63, f_X3_rightRows_57, f_X3_rightRows_11, f_X3_rightRows, l0, l1, l2, l3, l4, l5, l6, l7, l8, l9, l10, l11, l12, l13, l14, l15, l16, l17, l18, l19, l20, l21, l22, l23, l24, l25, l33, l34, l40, l42, l50, l58, l99, l100, l700, l999, l4095, l9999, l10000, x_neg1, nI_add, x_pred, x_m1, x_J1, pk_sub, nJ_pos, Nat.add_sub_cancel, nI_leI, nI_ltI, nI_eq, q_leJ, q_Jle, q_ltJ, q_Jlt, q_eqJ, q_Jeq, q_JJ, q_JJle, q_JJlt, Option.bind_some, if_pos, if_neg, ↓reduceIte, M_a hM, M_n hM, M_wn hM, M_t hM, M_l hM, M_o hM, M_s hM, M_g hM, M_tt hM, M_tl hM, M_to hM, M_ts hM, M_st hM, M_sl hM, M_so hM, M_ss hM, zi5_0, zi5_1, zi5_2, zi5_3, zi5_4, zr5_5, zr5_6, zt6, zg5, zg8, hA0, hA1, hA2, hA3, hA4, CV_t cv, CV_l cv, CV_o cv, CV_s cv, g2, e8, holds_f]
        exact h
  · intro k τ fr
    have cv := CV_fr cv fr
    have hM := CV_M cv; have hT := CV_b cv; have cv2 := cv; obtain ⟨hm, ⟨⟨hA0, hA1, hA2, hA3, hA4⟩, hA7, hrl, hrn, hrc⟩, ⟨hN, hX⟩, ⟨hB1, hB2, hM8, hR8, hS12, hnm, hmd⟩, ⟨hN2, hW, hD⟩, hP⟩ := cv2
    dsimp only
    simp (disch := omega) only [f_X3_rightRows_63, f_X3_rightRows_57, f_X3_rightRows_11, f_X3_rightRows, l0, l1, l2, l3, l4, l5, l6, l7, l8, l9, l10, l11, l12, l13, l14, l15, l16, l17, l18, l19, l20, l21, l22, l23, l24, l25, l33, l34, l40, l42, l50, l58, l99, l100, l700, l999, l4095, l9999, l10000, x_neg1, nI_add, x_pred, x_m1, x_J1, pk_sub, nJ_pos, Nat.add_sub_cancel, nI_leI, nI_ltI, nI_eq, q_leJ, q_Jle, q_ltJ, q_Jlt, q_eqJ, q_Jeq, q_JJ, q_JJle, q_JJlt, Option.bind_some, if_pos, if_neg, ↓reduceIte, M_a hM, M_n hM, M_wn hM, M_t hM, M_l hM, M_o hM, M_s hM, M_g hM, M_tt hM, M_tl hM, M_to hM, M_ts hM, M_st hM, M_sl hM, M_so hM, M_ss hM, zi5_0, zi5_1, zi5_2, zi5_3, zi5_4, zr5_5, zr5_6, zt6, zg5, zg8, hA0, hA1, hA2, hA3, hA4, CV_t cv, CV_l cv, CV_o cv, CV_s cv]
    exact ⟨τ, fr, rfl⟩
theorem parade_f (cv : CV σ m A P X) {n mud : Nat} (hn : X 0 + n < 2000) (hmu : mud < 1000) : RQ (fun τ => Fr (Wm m) σ τ ∧ Mv τ m (hu A P (rt A n X) mud (A 2) X)) w u (nI (mc A P (rt A n X) mud (A 2))) (f_X3_parade m (nI n) (nI mud) (mk σ w u)) := by
  have hM := CV_M cv
  have hR8 := cv.2.2.2.1.2.2.2.1
  unfold f_X3_parade l_X3_parade_5
  rw [M_g hM]
  refine lp_S (RQ (fun τ => Fr (Wm m) σ τ ∧ Mv τ m (hu A P (rt A n X) mud (A 2) X)) w u (nI (mc A P (rt A n X) mud (A 2)))) (fun i τ => (m, nI n, nI mud, nI (mc A P (rt A n X) mud i), nI i, mk τ w u)) (fun i τ => Fr (Wm m) σ τ ∧ Mv τ m (hu A P (rt A n X) mud i X)) (A 2) ?_ ?_ (A 2) 0 _ σ (by omega) (by omega) ⟨Fr_r _ _, ?_⟩
  · intro i hi k τ ⟨fr, mv⟩ hk
    have cv0 := cv
    have cv := CV_mk cv fr mv (hu_W cv.2.2.2.2.1)
    have e0 : hu A P (rt A n X) mud i X 0 = X 0 := hu_k (by omega)
    obtain ⟨τ2, g1, g2⟩ := namedAt_f (w := w) (u := u) cv (p := i) (n := n) (mud := mud) (by omega) (by omega) hmu
    have q1 : hq (rt A n (hu A P (rt A n X) mud i X)) (rt A n X) := rt_h n (hu_q _ _ _ _ _ _)
    rw [na_c cv.2.2.2.1.2.2.1 q1] at g2
    have cv3 := CV_fr cv g1
    have hM := CV_M cv; have hT := CV_b cv; have cv2 := cv; obtain ⟨hm, ⟨⟨hA0, hA1, hA2, hA3, hA4⟩, hA7, hrl, hrn, hrc⟩, ⟨hN, hX⟩, ⟨hB1, hB2, hM8, hR8, hS12, hnm, hmd⟩, ⟨hN2, hW, hD⟩, hP⟩ := cv2
    have h8 := rw1_lt cv.2.2.2.1 (rt_W cv0.2.2.2.1 cv0.2.2.2.2.1 hn) (i + 1)
    rw [rw1_i (by omega)] at h8
    have h9 := na_le A P (rt A n X) i mud hS12
    dsimp only at hk ⊢
    by_cases h1 : na A P (rt A n X) i mud = 0
    · have h := hk τ2 ⟨Fr_t fr (Wc_m g1), Mv_c (Mv_fr mv g1 (by omega)) (fun k hk => by
        unfold hu
        split
        · rw [tn_S, if_neg (by omega), Nat.add_zero]
        · rfl)⟩
      rw [mc_S, if_pos h1] at h
      simp (disch := omega) only [f_X3_parade_87, f_X3_parade_81, f_X3_parade_79, f_X3_parade_5, f_X3_parade, l0, l1, l2, l3, l4, l5, l6, l7, l8, l9, l10, l11, l12, l13, l14, l15, l16, l17, l18, l19, l20, l21, l22, l23, l24, l25, l33, l34, l40, l42, l50, l58, l99, l100, l700, l999, l4095, l9999, l10000, x_neg1, nI_add, x_pred, x_m1, x_J1, pk_sub, nJ_pos, Nat.add_sub_cancel, nI_leI, nI_ltI, nI_eq, q_leJ, q_Jle, q_ltJ, q_Jlt, q_eqJ, q_Jeq, q_JJ, q_JJle, q_JJlt, Option.bind_some, if_pos, if_neg, ↓reduceIte, M_a hM, M_n hM, M_wn hM, M_t hM, M_l hM, M_o hM, M_s hM, M_g hM, M_tt hM, M_tl hM, M_to hM, M_ts hM, M_st hM, M_sl hM, M_so hM, M_ss hM, zi5_0, zi5_1, zi5_2, zi5_3, zi5_4, zr5_5, zr5_6, zt6, zg5, zg8, hA0, hA1, hA2, hA3, hA4, CV_t cv, CV_l cv, CV_o cv, CV_s cv, g2]
      exact h
    · obtain ⟨c, hc⟩ : ∃ c, na A P (rt A n X) i mud = c + 1 := ⟨na A P (rt A n X) i mud - 1, by omega⟩
      have h7 := bt_lt (rt A n X (25 + i)) c
      have e9 := CV_o cv3 c (by omega)
      rw [hu_h (by omega)] at e9
      have b9 : min 99 (X (17 + c) + tn A P (rt A n X) (c + 1) mud i) ≤ 99 := Nat.min_le_left _ _
      have mv4 : Mv (s2 τ2 (m + 6) c (nI (min 99 (min 99 (X (17 + c) + tn A P (rt A n X) (c + 1) mud i) + 1)))) m (hu A P (rt A n X) mud (i + 1) X) := Mv_c (Mv_o (Mv_fr mv g1 (by omega)) (by omega)) (fun k hk => by
        by_cases hk2 : k = 17 + c
        · rw [un_at hk2, hk2, hu_h (by omega), tn_S, if_pos hc]
          omega
        · rw [un_off hk2]
          unfold hu
          split
          · rw [tn_S, if_neg (by omega), Nat.add_zero]
          · rfl)
      have fr4 : Fr (Wm m) σ (s2 τ2 (m + 6) c (nI (min 99 (min 99 (X (17 + c) + tn A P (rt A n X) (c + 1) mud i) + 1)))) := Fr_st (Fr_t fr (Wc_m g1)) (by unfold Wm; omega)
      have cv4 := CV_mk cv0 fr4 mv4 (hu_W cv0.2.2.2.2.1)
      have e4 : hu A P (rt A n X) mud (i + 1) X 0 = X 0 := hu_k (by omega)
      have e8 := menAt_I (w := w) (u := u) cv4 (p := i) (n := n) (by omega) (by omega)
      rw [rw1_i (by omega), rt_h n (hu_q A P (rt A n X) mud (i + 1) X) (25 + i) (by omega) (by omega)] at e8
      have h := hk _ ⟨fr4, mv4⟩
      rw [hc] at g2
      by_cases h2 : bt (rt A n X (25 + i)) c = 0
      · rw [mc_S, if_neg h1, hc, Nat.add_sub_cancel, if_pos h2] at h
        simp (disch := omega) only [f_X3_parade_87, f_X3_parade_81, f_X3_parade_79, f_X3_parade_5, f_X3_parade, l0, l1, l2, l3, l4, l5, l6, l7, l8, l9, l10, l11, l12, l13, l14, l15, l16, l17, l18, l19, l20, l21, l22, l23, l24, l25, l33, l34, l40, l42, l50, l58, l99, l100, l700, l999, l4095, l9999, l10000, x_neg1, nI_add, x_pred, x_m1, x_J1, pk_sub, nJ_pos, Nat.add_sub_cancel, nI_leI, nI_ltI, nI_eq, q_leJ, q_Jle, q_ltJ, q_Jlt, q_eqJ, q_Jeq, q_JJ, q_JJle, q_JJlt, Option.bind_some, if_pos, if_neg, ↓reduceIte, M_a hM, M_n hM, M_wn hM, M_t hM, M_l hM, M_o hM, M_s hM, M_g hM, M_tt hM, M_tl hM, M_to hM, M_ts hM, M_st hM, M_sl hM, M_so hM, M_ss hM, zi5_0, zi5_1, zi5_2, zi5_3, zi5_4, zr5_5, zr5_6, zt6, zg5, zg8, hA0, hA1, hA2, hA3, hA4, g2, nJ_S, e9, hp_min_nI, e8, holds_f]
        exact h
      · rw [mc_S, if_neg h1, hc, Nat.add_sub_cancel, if_neg h2] at h
        simp (disch := omega) only [f_X3_parade_87, f_X3_parade_81, f_X3_parade_79, f_X3_parade_5, f_X3_parade, l0, l1, l2, l3, l4, l5, l6, l7, l8, l9, l10, l11, l12, l13, l14, l15, l16, l17, l18, l19, l20, l21, l22, l23, l24, l25, l33, l34, l40, l42, l50, l58, l99, l100, l700, l999, l4095, l9999, l10000, x_neg1, nI_add, x_pred, x_m1, x_J1, pk_sub, nJ_pos, Nat.add_sub_cancel, nI_leI, nI_ltI, nI_eq, q_leJ, q_Jle, q_ltJ, q_Jlt, q_eqJ, q_Jeq, q_JJ, q_JJle, q_JJlt, Option.bind_some, if_pos, if_neg, ↓reduceIte, M_a hM, M_n hM, M_wn hM, M_t hM, M_l hM, M_o hM, M_s hM, M_g hM, M_tt hM, M_tl hM, M_to hM, M_ts hM, M_st hM, M_sl hM, M_so hM, M_ss hM, zi5_0, zi5_1, zi5_2, zi5_3, zi5_4, zr5_5, zr5_6, zt6, zg5, zg8, hA0, hA1, hA2, hA3, hA4, g2, nJ_S, e9, hp_min_nI, e8, holds_f, Nat.add_zero]
        exact h
  · intro k τ ⟨fr, mv⟩
    have cv := CV_mk cv fr mv (hu_W cv.2.2.2.2.1)
    have hM := CV_M cv; have hT := CV_b cv; have cv2 := cv; obtain ⟨hm, ⟨⟨hA0, hA1, hA2, hA3, hA4⟩, hA7, hrl, hrn, hrc⟩, ⟨hN, hX⟩, ⟨hB1, hB2, hM8, hR8, hS12, hnm, hmd⟩, ⟨hN2, hW, hD⟩, hP⟩ := cv2
    dsimp only
    simp (disch := omega) only [f_X3_parade_87, f_X3_parade_81, f_X3_parade_79, f_X3_parade_5, f_X3_parade, l0, l1, l2, l3, l4, l5, l6, l7, l8, l9, l10, l11, l12, l13, l14, l15, l16, l17, l18, l19, l20, l21, l22, l23, l24, l25, l33, l34, l40, l42, l50, l58, l99, l100, l700, l999, l4095, l9999, l10000, x_neg1, nI_add, x_pred, x_m1, x_J1, pk_sub, nJ_pos, Nat.add_sub_cancel, nI_leI, nI_ltI, nI_eq, q_leJ, q_Jle, q_ltJ, q_Jlt, q_eqJ, q_Jeq, q_JJ, q_JJle, q_JJlt, Option.bind_some, if_pos, if_neg, ↓reduceIte, M_a hM, M_n hM, M_wn hM, M_t hM, M_l hM, M_o hM, M_s hM, M_g hM, M_tt hM, M_tl hM, M_to hM, M_ts hM, M_st hM, M_sl hM, M_so hM, M_ss hM, zi5_0, zi5_1, zi5_2, zi5_3, zi5_4, zr5_5, zr5_6, zt6, zg5, zg8, hA0, hA1, hA2, hA3, hA4, CV_t cv, CV_l cv, CV_o cv, CV_s cv]
    exact ⟨τ, ⟨fr, mv⟩, rfl⟩
  · refine Mv_c cv.2.2.1 (fun k hk => ?_)
    unfold hu
    split
    · next h =>
      have h5 := (cv.2.2.2.2.1.2.1 (k - 17) (by omega)).2.2.1
      rw [show 17 + (k - 17) = k by omega] at h5
      show X k = min 99 (X k + 0)
      omega
    · rfl
end MC
