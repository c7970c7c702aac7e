/-! L3: the class's marches: more methods -/
theorem tn_le (A : Nat → Nat) (P : List (Nat × Nat)) (X : Nat → Nat) (c w n : Nat) : tn A P X c w n ≤ n := by
  have h := it_le (f := fun r v => v + (if na A P X r w = c then 1 else 0)) (a := 0) (c := 1) (fun i v => by split <;> omega) n
  unfold tn
  omega
def hs (A : Nat → Nat) (P : List (Nat × Nat)) (X : Nat → Nat) (man : Nat) : Nat → Nat := it (fun i v => v + tn A P (rt A i X) (man + 1) (mq A (X 0 + i)) (A 2)) (X (17 + man))
theorem hs_S (A : Nat → Nat) (P : List (Nat × Nat)) (X : Nat → Nat) (man i : Nat) : hs A P X man (i + 1) = hs A P X man i + tn A P (rt A i X) (man + 1) (mq A (X 0 + i)) (A 2) := rfl
theorem hs_le (A : Nat → Nat) (P : List (Nat × Nat)) (X : Nat → Nat) (man n : Nat) : hs A P X man n ≤ X (17 + man) + A 2 * n := it_le (fun i v => by have := tn_le A P (rt A i X) (man + 1) (mq A (X 0 + i)) (A 2); omega) n
def ha (A X : Nat → Nat) : Nat → Nat := it (fun i v => v + X (17 + i)) 0
def mh (X : Nat → Nat) : Nat → Nat × Nat := it (fun i s => if X (17 + i) + 1 ≤ s.2 then s else (i + 1, X (17 + i) + 1)) (0, 0)
theorem mh_S (X : Nat → Nat) (i : Nat) : mh X (i + 1) = if X (17 + i) + 1 ≤ (mh X i).2 then mh X i else (i + 1, X (17 + i) + 1) := rfl
theorem mh_le {X : Nat → Nat} {n : Nat} (h : ∀ i, i < n → X (17 + i) ≤ 99) : (mh X n).1 ≤ n ∧ (mh X n).2 ≤ 100 := by
  induction n with
  | zero => exact ⟨Nat.le_refl _, Nat.zero_le _⟩
  | succ n ih =>
    have h1 := ih (fun i hi => h i (by omega))
    have h2 := h n (by omega)
    rw [mh_S]
    split
    · omega
    · exact ⟨Nat.le_refl _, by show X (17 + n) + 1 ≤ 100; omega⟩
/-- the row of a man, and 1; 0 the camp -/
def ro (A X : Nat → Nat) (man : Nat) : Nat := fi (fun r => bt (X (25 + r)) man) (A 2) 0
def cam (A X : Nat → Nat) : Nat → Nat := it (fun r v => an v (X (25 + r))) (2 ^ A 1 - 1)
def lt1 (X : Nat → Nat) (r : Nat) : Nat → Nat := it (fun i v => v + (if bt (X (25 + r)) i = 0 then 0 else X (9 + i))) 0
def lf (X : Nat → Nat) (bits : Nat) : Nat → Nat := it (fun i v => min v (pc (X (1 + i) ^^^ bits) 12)) 13
def tt (X : Nat → Nat) (set : Nat) : Nat → Nat := it (fun i v => v ||| (if bt set i = 0 then 0 else X (1 + i))) 0
def mb (X : Nat → Nat) (beat : Nat) : Nat → Nat := it (fun i v => v + bt (X (1 + i)) beat) 0
def fa (X : Nat → Nat) (a b : Nat) : Nat := pc (X (1 + a) ^^^ X (1 + b)) 12
def ta (X : Nat → Nat) (M set beats : Nat) : Prop := ∀ a b, a < b → b < M → bt set a = 1 → bt set b = 1 → beats ≤ fa X a b
def re1 (X : Nat → Nat) (set beats a : Nat) (v : Nat) : Nat → Nat := it (fun b v => if bt set a = 0 then v else if beats < fa X a b then v else v ||| 2 ^ b) v
def re (X : Nat → Nat) (set beats M : Nat) : Nat → Nat := it (fun a v => re1 X set beats a v M) set
def cs1 (A : Nat → Nat) (P : List (Nat × Nat)) (X : Nat → Nat) (w p v : Nat) : Nat → Nat := it (fun j v => v + (if he A P X (p + 1 + j) w = he A P X p w then 1 else 0)) v
def cs0 (A : Nat → Nat) (P : List (Nat × Nat)) (X : Nat → Nat) (w : Nat) : Nat → Nat := it (fun p v => cs1 A P X w p v (A 2 - (p + 1))) 0
def isN (a m : Nat) : Prop := sh[m]? = some (.inr (3, [a, 0, m + 3, m + 5, m + 7, m + 9])) ∧ isC (m + 1) 8 ∧ isC (m + 3) 8 ∧ isC (m + 5) 8 ∧ isC (m + 7) 8
section ME
variable {σ : Nat → Nat → Int32} {w u : Int64} {m i : Nat} {A X : Nat → Nat} {P : List (Nat × Nat)} {v : Int32}
theorem honourOfAll_f (cv : CV σ m A P X) : f_X3_honourOfAll m (mk σ w u) = some (nI (ha A X (A 1)), mk σ w u) := by
  have hM := CV_M cv; have hT := CV_b cv; have cv2 := cv; obtain ⟨hm, ⟨⟨hA0, hA1, hA2, hA3, hA4⟩, hA7, hrl, hrn, hrc⟩, ⟨hN, hX⟩, ⟨hB1, hB2, hM8, hR8, hS12, hnm, hmd⟩, ⟨hN2, hW, hD⟩, hP⟩ := cv2
  unfold f_X3_honourOfAll l_X3_honourOfAll_4
  rw [M_g hM]
  refine lp_for (fun i => (m, nI (ha A X i), nI i, mk σ w u)) (A 1) _ ?_ ?_ (A 1) 0 _ (by omega) (by omega)
  · intro i hi k0
    dsimp only
    simp (disch := omega) only [f_X3_honourOfAll_32, f_X3_honourOfAll_4, f_X3_honourOfAll, l0, l1, l2, l3, l4, l5, l6, l7, l8, l9, l10, l11, l12, l13, l14, l15, l16, l17, l18, l19, l20, l21, l22, l23, l24, l25, l33, l34, l40, l42, l50, l58, l99, l100, l700, l999, l4095, l9999, l10000, x_neg1, nI_add, x_pred, x_m1, x_J1, pk_sub, nJ_pos, Nat.add_sub_cancel, nI_leI, nI_ltI, nI_eq, q_leJ, q_Jle, q_ltJ, q_Jlt, q_eqJ, q_Jeq, q_JJ, q_JJle, q_JJlt, Option.bind_some, if_pos, if_neg, ↓reduceIte, M_a hM, M_n hM, M_wn hM, M_t hM, M_l hM, M_o hM, M_s hM, M_g hM, M_tt hM, M_tl hM, M_to hM, M_ts hM, M_st hM, M_sl hM, M_so hM, M_ss hM, zi5_0, zi5_1, zi5_2, zi5_3, zi5_4, zr5_5, zr5_6, zt6, zg5, zg8, hA0, hA1, hA2, hA3, hA4, CV_t cv, CV_l cv, CV_o cv, CV_s cv]
    rfl
  · intro k0
    dsimp only
    simp (disch := omega) only [f_X3_honourOfAll_32, f_X3_honourOfAll_4, f_X3_honourOfAll, l0, l1, l2, l3, l4, l5, l6, l7, l8, l9, l10, l11, l12, l13, l14, l15, l16, l17, l18, l19, l20, l21, l22, l23, l24, l25, l33, l34, l40, l42, l50, l58, l99, l100, l700, l999, l4095, l9999, l10000, x_neg1, nI_add, x_pred, x_m1, x_J1, pk_sub, nJ_pos, Nat.add_sub_cancel, nI_leI, nI_ltI, nI_eq, q_leJ, q_Jle, q_ltJ, q_Jlt, q_eqJ, q_Jeq, q_JJ, q_JJle, q_JJlt, Option.bind_some, if_pos, if_neg, ↓reduceIte, M_a hM, M_n hM, M_wn hM, M_t hM, M_l hM, M_o hM, M_s hM, M_g hM, M_tt hM, M_tl hM, M_to hM, M_ts hM, M_st hM, M_sl hM, M_so hM, M_ss hM, zi5_0, zi5_1, zi5_2, zi5_3, zi5_4, zr5_5, zr5_6, zt6, zg5, zg8, hA0, hA1, hA2, hA3, hA4, CV_t cv, CV_l cv, CV_o cv, CV_s cv]
theorem mostHonoured_f (cv : CV σ m A P X) : f_X3_mostHonoured m (mk σ w u) = some (nJ (mh X (A 1)).1, mk σ w u) := by
  have hM := CV_M cv; have hT := CV_b cv; have cv2 := cv; obtain ⟨hm, ⟨⟨hA0, hA1, hA2, hA3, hA4⟩, hA7, hrl, hrn, hrc⟩, ⟨hN, hX⟩, ⟨hB1, hB2, hM8, hR8, hS12, hnm, hmd⟩, ⟨hN2, hW, hD⟩, hP⟩ := cv2
  unfold f_X3_mostHonoured l_X3_mostHonoured_6
  rw [M_g hM]
  refine lp_for (fun i => (m, nJ (mh X i).1, nJ (mh X i).2, nI i, mk σ w u)) (A 1) _ ?_ ?_ (A 1) 0 _ (by omega) (by omega)
  · intro i hi k0
    have h1 := hT i (by omega)
    have h2 := mh_le (X := X) (n := i) (fun j hj => (hT j (by omega)).2.2.1)
    dsimp only
    by_cases h3 : X (17 + i) + 1 ≤ (mh X i).2
    · rw [mh_S, if_pos h3]
      simp (disch := omega) only [f_X3_mostHonoured_46, f_X3_mostHonoured_40, f_X3_mostHonoured_6, f_X3_mostHonoured, l0, l1, l2, l3, l4, l5, l6, l7, l8, l9, l10, l11, l12, l13, l14, l15, l16, l17, l18, l19, l20, l21, l22, l23, l24, l25, l33, l34, l40, l42, l50, l58, l99, l100, l700, l999, l4095, l9999, l10000, x_neg1, nI_add, x_pred, x_m1, x_J1, pk_sub, nJ_pos, Nat.add_sub_cancel, nI_leI, nI_ltI, nI_eq, q_leJ, q_Jle, q_ltJ, q_Jlt, q_eqJ, q_Jeq, q_JJ, q_JJle, q_JJlt, Option.bind_some, if_pos, if_neg, ↓reduceIte, M_a hM, M_n hM, M_wn hM, M_t hM, M_l hM, M_o hM, M_s hM, M_g hM, M_tt hM, M_tl hM, M_to hM, M_ts hM, M_st hM, M_sl hM, M_so hM, M_ss hM, zi5_0, zi5_1, zi5_2, zi5_3, zi5_4, zr5_5, zr5_6, zt6, zg5, zg8, hA0, hA1, hA2, hA3, hA4, CV_t cv, CV_l cv, CV_o cv, CV_s cv]
    · rw [mh_S, if_neg h3]
      simp (disch := omega) only [f_X3_mostHonoured_46, f_X3_mostHonoured_40, f_X3_mostHonoured_6, f_X3_mostHonoured, l0, l1, l2, l3, l4, l5, l6, l7, l8, l9, l10, l11, l12, l13, l14, l15, l16, l17, l18, l19, l20, l21, l22, l23, l24, l25, l33, l34, l40, l42, l50, l58, l99, l100, l700, l999, l4095, l9999, l10000, x_neg1, nI_add, x_pred, x_m1, x_J1, pk_sub, nJ_pos, Nat.add_sub_cancel, nI_leI, nI_ltI, nI_eq, q_leJ, q_Jle, q_ltJ, q_Jlt, q_eqJ, q_Jeq, q_JJ, q_JJle, q_JJlt, Option.bind_some, if_pos, if_neg, ↓reduceIte, M_a hM, M_n hM, M_wn hM, M_t hM, M_l hM, M_o hM, M_s hM, M_g hM, M_tt hM, M_tl hM, M_to hM, M_ts hM, M_st hM, M_sl hM, M_so hM, M_ss hM, zi5_0, zi5_1, zi5_2, zi5_3, zi5_4, zr5_5, zr5_6, zt6, zg5, zg8, hA0, hA1, hA2, hA3, hA4, CV_t cv, CV_l cv, CV_o cv, CV_s cv, nJ_S]
  · intro k0
    dsimp only
    simp (disch := omega) only [f_X3_mostHonoured_46, f_X3_mostHonoured_40, f_X3_mostHonoured_6, f_X3_mostHonoured, l0, l1, l2, l3, l4, l5, l6, l7, l8, l9, l10, l11, l12, l13, l14, l15, l16, l17, l18, l19, l20, l21, l22, l23, l24, l25, l33, l34, l40, l42, l50, l58, l99, l100, l700, l999, l4095, l9999, l10000, x_neg1, nI_add, x_pred, x_m1, x_J1, pk_sub, nJ_pos, Nat.add_sub_cancel, nI_leI, nI_ltI, nI_eq, q_leJ, q_Jle, q_ltJ, q_Jlt, q_eqJ, q_Jeq, q_JJ, q_JJle, q_JJlt, Option.bind_some, if_pos, if_neg, ↓reduceIte, M_a hM, M_n hM, M_wn hM, M_t hM, M_l hM, M_o hM, M_s hM, M_g hM, M_tt hM, M_tl hM, M_to hM, M_ts hM, M_st hM, M_sl hM, M_so hM, M_ss hM, zi5_0, zi5_1, zi5_2, zi5_3, zi5_4, zr5_5, zr5_6, zt6, zg5, zg8, hA0, hA1, hA2, hA3, hA4, CV_t cv, CV_l cv, CV_o cv, CV_s cv]
theorem rowOf_f (cv : CV σ m A P X) {man : Nat} (hman : man < 32) : f_X3_rowOf m (nI man) (mk σ w u) = some (nJ (ro A X man), mk σ w u) := by
  have hM := CV_M cv; have hT := CV_b cv; have cv2 := cv; obtain ⟨hm, ⟨⟨hA0, hA1, hA2, hA3, hA4⟩, hA7, hrl, hrn, hrc⟩, ⟨hN, hX⟩, ⟨hB1, hB2, hM8, hR8, hS12, hnm, hmd⟩, ⟨hN2, hW, hD⟩, hP⟩ := cv2
  unfold f_X3_rowOf l_X3_rowOf_2
  rw [M_g hM]
  have h := lp_fi (f := fun k (s : Nat × Int32 × Int32 × hp_H) => f_X3_rowOf_2  (fun a0 a1 a2 a3 => k (a0, a1, a2, a3)) s.1 s.2.1 s.2.2.1 s.2.2.2) (fun i => (m, nI man, nI i, mk σ w u)) (A 2) (fun r => bt (X (25 + r)) man) (fun i => some (nI i, mk σ w u)) (some (nJ 0, mk σ w u)) ?_ ?_ ?_ (A 2) 0 100000 (by omega) (by omega)
  · unfold ro
    split at h
    · next e => rw [e]; exact h
    · next e => rw [nJ_pos (by omega)]; exact h
  · intro i hi h0 k0
    have hb := hT i (by omega)
    have h2 := bt_lt (X (25 + i)) man
    dsimp only at h0 ⊢
    simp (disch := omega) only [f_X3_rowOf_36, f_X3_rowOf_28, f_X3_rowOf_2, f_X3_rowOf, l0, l1, l2, l3, l4, l5, l6, l7, l8, l9, l10, l11, l12, l13, l14, l15, l16, l17, l18, l19, l20, l21, l22, l23, l24, l25, l33, l34, l40, l42, l50, l58, l99, l100, l700, l999, l4095, l9999, l10000, x_neg1, nI_add, x_pred, x_m1, x_J1, pk_sub, nJ_pos, Nat.add_sub_cancel, nI_leI, nI_ltI, nI_eq, q_leJ, q_Jle, q_ltJ, q_Jlt, q_eqJ, q_Jeq, q_JJ, q_JJle, q_JJlt, Option.bind_some, if_pos, if_neg, ↓reduceIte, M_a hM, M_n hM, M_wn hM, M_t hM, M_l hM, M_o hM, M_s hM, M_g hM, M_tt hM, M_tl hM, M_to hM, M_ts hM, M_st hM, M_sl hM, M_so hM, M_ss hM, zi5_0, zi5_1, zi5_2, zi5_3, zi5_4, zr5_5, zr5_6, zt6, zg5, zg8, hA0, hA1, hA2, hA3, hA4, CV_t cv, CV_l cv, CV_o cv, CV_s cv, holds_f]
  · intro i hi h0 k0
    have hb := hT i (by omega)
    have h2 := bt_lt (X (25 + i)) man
    dsimp only at h0 ⊢
    simp (disch := omega) only [f_X3_rowOf_36, f_X3_rowOf_28, f_X3_rowOf_2, f_X3_rowOf, l0, l1, l2, l3, l4, l5, l6, l7, l8, l9, l10, l11, l12, l13, l14, l15, l16, l17, l18, l19, l20, l21, l22, l23, l24, l25, l33, l34, l40, l42, l50, l58, l99, l100, l700, l999, l4095, l9999, l10000, x_neg1, nI_add, x_pred, x_m1, x_J1, pk_sub, nJ_pos, Nat.add_sub_cancel, nI_leI, nI_ltI, nI_eq, q_leJ, q_Jle, q_ltJ, q_Jlt, q_eqJ, q_Jeq, q_JJ, q_JJle, q_JJlt, Option.bind_some, if_pos, if_neg, ↓reduceIte, M_a hM, M_n hM, M_wn hM, M_t hM, M_l hM, M_o hM, M_s hM, M_g hM, M_tt hM, M_tl hM, M_to hM, M_ts hM, M_st hM, M_sl hM, M_so hM, M_ss hM, zi5_0, zi5_1, zi5_2, zi5_3, zi5_4, zr5_5, zr5_6, zt6, zg5, zg8, hA0, hA1, hA2, hA3, hA4, CV_t cv, CV_l cv, CV_o cv, CV_s cv, holds_f]
  · intro k0
    dsimp only
    simp (disch := omega) only [f_X3_rowOf_36, f_X3_rowOf_28, f_X3_rowOf_2, f_X3_rowOf, l0, l1, l2, l3, l4, l5, l6, l7, l8, l9, l10, l11, l12, l13, l14, l15, l16, l17, l18, l19, l20, l21, l22, l23, l24, l25, l33, l34, l40, l42, l50, l58, l99, l100, l700, l999, l4095, l9999, l10000, x_neg1, nI_add, x_pred, x_m1, x_J1, pk_sub, nJ_pos, Nat.add_sub_cancel, nI_leI, nI_ltI, nI_eq, q_leJ, q_Jle, q_ltJ, q_Jlt, q_eqJ, q_Jeq, q_JJ, q_JJle, q_JJlt, Option.bind_some, if_pos, if_neg, ↓reduceIte, M_a hM, M_n hM, M_wn hM, M_t hM, M_l hM, M_o hM, M_s hM, M_g hM, M_tt hM, M_tl hM, M_to hM, M_ts hM, M_st hM, M_sl hM, M_so hM, M_ss hM, zi5_0, zi5_1, zi5_2, zi5_3, zi5_4, zr5_5, zr5_6, zt6, zg5, zg8, hA0, hA1, hA2, hA3, hA4, CV_t cv, CV_l cv, CV_o cv, CV_s cv]
theorem menInCamp_f (cv : CV σ m A P X) : f_X3_menInCamp m (mk σ w u) = some (nI (cam A X (A 2)), mk σ w u) := by
  have hM := CV_M cv; have hT := CV_b cv; have cv2 := cv; obtain ⟨hm, ⟨⟨hA0, hA1, hA2, hA3, hA4⟩, hA7, hrl, hrn, hrc⟩, ⟨hN, hX⟩, ⟨hB1, hB2, hM8, hR8, hS12, hnm, hmd⟩, ⟨hN2, hW, hD⟩, hP⟩ := cv2
  have hp := Nat.two_pow_pos (A 1)
  unfold f_X3_menInCamp
  simp (disch := omega) only [f_X1_allMen, l0, l1, l2, l3, l4, l5, l6, l7, l8, l9, l10, l11, l12, l13, l14, l15, l16, l17, l18, l19, l20, l21, l22, l23, l24, l25, l33, l34, l40, l42, l50, l58, l99, l100, l700, l999, l4095, l9999, l10000, x_neg1, nI_add, x_pred, x_m1, x_J1, pk_sub, nJ_pos, Nat.add_sub_cancel, nI_leI, nI_ltI, nI_eq, q_leJ, q_Jle, q_ltJ, q_Jlt, q_eqJ, q_Jeq, q_JJ, q_JJle, q_JJlt, Option.bind_some, if_pos, if_neg, ↓reduceIte, M_a hM, M_n hM, M_wn hM, M_t hM, M_l hM, M_o hM, M_s hM, M_g hM, M_tt hM, M_tl hM, M_to hM, M_ts hM, M_st hM, M_sl hM, M_so hM, M_ss hM, zi5_0, zi5_1, zi5_2, zi5_3, zi5_4, zr5_5, zr5_6, zt6, zg5, zg8, hA0, hA1, hA2, hA3, hA4, CV_t cv, CV_l cv, CV_o cv, CV_s cv, x_one]
  unfold l_X3_menInCamp_10
  refine lp_for (fun i => (m, nI (cam A X i), nI i, mk σ w u)) (A 2) _ ?_ ?_ (A 2) 0 _ (by omega) (by omega)
  · intro i hi k0
    dsimp only
    simp (disch := omega) only [f_X3_menInCamp_40, f_X3_menInCamp_10, f_X3_menInCamp, l0, l1, l2, l3, l4, l5, l6, l7, l8, l9, l10, l11, l12, l13, l14, l15, l16, l17, l18, l19, l20, l21, l22, l23, l24, l25, l33, l34, l40, l42, l50, l58, l99, l100, l700, l999, l4095, l9999, l10000, x_neg1, nI_add, x_pred, x_m1, x_J1, pk_sub, nJ_pos, Nat.add_sub_cancel, nI_leI, nI_ltI, nI_eq, q_leJ, q_Jle, q_ltJ, q_Jlt, q_eqJ, q_Jeq, q_JJ, q_JJle, q_JJlt, Option.bind_some, if_pos, if_neg, ↓reduceIte, M_a hM, M_n hM, M_wn hM, M_t hM, M_l hM, M_o hM, M_s hM, M_g hM, M_tt hM, M_tl hM, M_to hM, M_ts hM, M_st hM, M_sl hM, M_so hM, M_ss hM, zi5_0, zi5_1, zi5_2, zi5_3, zi5_4, zr5_5, zr5_6, zt6, zg5, zg8, hA0, hA1, hA2, hA3, hA4, CV_t cv, CV_l cv, CV_o cv, CV_s cv, x_andn]
    rfl
  · intro k0
    dsimp only
    simp (disch := omega) only [f_X3_menInCamp_40, f_X3_menInCamp_10, f_X3_menInCamp, l0, l1, l2, l3, l4, l5, l6, l7, l8, l9, l10, l11, l12, l13, l14, l15, l16, l17, l18, l19, l20, l21, l22, l23, l24, l25, l33, l34, l40, l42, l50, l58, l99, l100, l700, l999, l4095, l9999, l10000, x_neg1, nI_add, x_pred, x_m1, x_J1, pk_sub, nJ_pos, Nat.add_sub_cancel, nI_leI, nI_ltI, nI_eq, q_leJ, q_Jle, q_ltJ, q_Jlt, q_eqJ, q_Jeq, q_JJ, q_JJle, q_JJlt, Option.bind_some, if_pos, if_neg, ↓reduceIte, M_a hM, M_n hM, M_wn hM, M_t hM, M_l hM, M_o hM, M_s hM, M_g hM, M_tt hM, M_tl hM, M_to hM, M_ts hM, M_st hM, M_sl hM, M_so hM, M_ss hM, zi5_0, zi5_1, zi5_2, zi5_3, zi5_4, zr5_5, zr5_6, zt6, zg5, zg8, hA0, hA1, hA2, hA3, hA4, CV_t cv, CV_l cv, CV_o cv, CV_s cv]
theorem isFullFor_f (cv : CV σ m A P X) {man r : Nat} (hman : man < 31) (hr : r < 8) : f_X3_isFullFor m (nI man) (nI r) (mk σ w u) = some (nI (if pc (an (X (25 + r)) (2 ^ man)) 12 < 4 then 0 else 1), mk σ w u) := by
  have hM := CV_M cv; have hT := CV_b cv; have cv2 := cv; obtain ⟨hm, ⟨⟨hA0, hA1, hA2, hA3, hA4⟩, hA7, hrl, hrn, hrc⟩, ⟨hN, hX⟩, ⟨hB1, hB2, hM8, hR8, hS12, hnm, hmd⟩, ⟨hN2, hW, hD⟩, hP⟩ := cv2
  have hb := hT r (by omega)
  have hl : an (X (25 + r)) (2 ^ man) < 4096 := Nat.xor_lt_two_pow (n := 12) (by omega) (Nat.lt_of_le_of_lt Nat.and_le_left (by omega))
  have hp := pc_le (an (X (25 + r)) (2 ^ man)) 12
  by_cases h : pc (an (X (25 + r)) (2 ^ man)) 12 < 4
  · rw [if_pos h]
    simp (disch := omega) only [f_X3_isFullFor_26, f_X3_isFullFor, l0, l1, l2, l3, l4, l5, l6, l7, l8, l9, l10, l11, l12, l13, l14, l15, l16, l17, l18, l19, l20, l21, l22, l23, l24, l25, l33, l34, l40, l42, l50, l58, l99, l100, l700, l999, l4095, l9999, l10000, x_neg1, nI_add, x_pred, x_m1, x_J1, pk_sub, nJ_pos, Nat.add_sub_cancel, nI_leI, nI_ltI, nI_eq, q_leJ, q_Jle, q_ltJ, q_Jlt, q_eqJ, q_Jeq, q_JJ, q_JJle, q_JJlt, Option.bind_some, if_pos, if_neg, ↓reduceIte, M_a hM, M_n hM, M_wn hM, M_t hM, M_l hM, M_o hM, M_s hM, M_g hM, M_tt hM, M_tl hM, M_to hM, M_ts hM, M_st hM, M_sl hM, M_so hM, M_ss hM, zi5_0, zi5_1, zi5_2, zi5_3, zi5_4, zr5_5, zr5_6, zt6, zg5, zg8, hA0, hA1, hA2, hA3, hA4, CV_t cv, CV_l cv, CV_o cv, CV_s cv, x_one, x_andn, bitCount_f, bc_nI]
    rfl
  · rw [if_neg h]
    simp (disch := omega) only [f_X3_isFullFor_26, f_X3_isFullFor, l0, l1, l2, l3, l4, l5, l6, l7, l8, l9, l10, l11, l12, l13, l14, l15, l16, l17, l18, l19, l20, l21, l22, l23, l24, l25, l33, l34, l40, l42, l50, l58, l99, l100, l700, l999, l4095, l9999, l10000, x_neg1, nI_add, x_pred, x_m1, x_J1, pk_sub, nJ_pos, Nat.add_sub_cancel, nI_leI, nI_ltI, nI_eq, q_leJ, q_Jle, q_ltJ, q_Jlt, q_eqJ, q_Jeq, q_JJ, q_JJle, q_JJlt, Option.bind_some, if_pos, if_neg, ↓reduceIte, M_a hM, M_n hM, M_wn hM, M_t hM, M_l hM, M_o hM, M_s hM, M_g hM, M_tt hM, M_tl hM, M_to hM, M_ts hM, M_st hM, M_sl hM, M_so hM, M_ss hM, zi5_0, zi5_1, zi5_2, zi5_3, zi5_4, zr5_5, zr5_6, zt6, zg5, zg8, hA0, hA1, hA2, hA3, hA4, CV_t cv, CV_l cv, CV_o cv, CV_s cv, x_one, x_andn, bitCount_f, bc_nI]
    rfl
theorem isFullFor_N (cv : CV σ m A P X) {man : Nat} (hman : man < 31) : f_X3_isFullFor m (nI man) (nJ 0) (mk σ w u) = some (nI 0, mk σ w u) := by
  have hM := CV_M cv; have hT := CV_b cv; have cv2 := cv; obtain ⟨hm, ⟨⟨hA0, hA1, hA2, hA3, hA4⟩, hA7, hrl, hrn, hrc⟩, ⟨hN, hX⟩, ⟨hB1, hB2, hM8, hR8, hS12, hnm, hmd⟩, ⟨hN2, hW, hD⟩, hP⟩ := cv2
  unfold f_X3_isFullFor
  rw [M_g hM, M_s hM, Option.bind_some, M_tsN hM (by decide), Option.bind_some]
  dsimp only
  rw [bitCount_f, Option.bind_some]
  dsimp only
  have e : (0 : Int32) &&& ((1 <<< (nI man &&& 31)) ^^^ (-1)) = 0 := by
    have h := x_andn 0 (2 ^ man)
    rw [← x_one (by omega : man < 31)] at h
    have h2 : an 0 (2 ^ man) = 0 := by unfold an; simp
    rw [h2] at h
    exact h
  rw [e, if_pos (by decide)]
  rfl
theorem loudTogether_f (cv : CV σ m A P X) {r : Nat} (hr : r < 8) : f_X3_loudTogether m (nI r) (mk σ w u) = some (nI (lt1 X r (A 1)), mk σ w u) := by
  have hM := CV_M cv; have hT := CV_b cv; have cv2 := cv; obtain ⟨hm, ⟨⟨hA0, hA1, hA2, hA3, hA4⟩, hA7, hrl, hrn, hrc⟩, ⟨hN, hX⟩, ⟨hB1, hB2, hM8, hR8, hS12, hnm, hmd⟩, ⟨hN2, hW, hD⟩, hP⟩ := cv2
  have hb := hT r hr
  unfold f_X3_loudTogether l_X3_loudTogether_4
  rw [M_g hM]
  refine lp_for (fun i => (m, nI r, nI (lt1 X r i), nI i, mk σ w u)) (A 1) _ ?_ ?_ (A 1) 0 _ (by omega) (by omega)
  · intro i hi k0
    have h2 := bt_lt (X (25 + r)) i
    have e1 : lt1 X r (i + 1) = lt1 X r i + (if bt (X (25 + r)) i = 0 then 0 else X (9 + i)) := rfl
    rw [e1]
    dsimp only
    by_cases h : bt (X (25 + r)) i = 0
    · simp (disch := omega) only [f_X3_loudTogether_51, f_X3_loudTogether_43, f_X3_loudTogether_4, f_X3_loudTogether, l0, l1, l2, l3, l4, l5, l6, l7, l8, l9, l10, l11, l12, l13, l14, l15, l16, l17, l18, l19, l20, l21, l22, l23, l24, l25, l33, l34, l40, l42, l50, l58, l99, l100, l700, l999, l4095, l9999, l10000, x_neg1, nI_add, x_pred, x_m1, x_J1, pk_sub, nJ_pos, Nat.add_sub_cancel, nI_leI, nI_ltI, nI_eq, q_leJ, q_Jle, q_ltJ, q_Jlt, q_eqJ, q_Jeq, q_JJ, q_JJle, q_JJlt, Option.bind_some, if_pos, if_neg, ↓reduceIte, M_a hM, M_n hM, M_wn hM, M_t hM, M_l hM, M_o hM, M_s hM, M_g hM, M_tt hM, M_tl hM, M_to hM, M_ts hM, M_st hM, M_sl hM, M_so hM, M_ss hM, zi5_0, zi5_1, zi5_2, zi5_3, zi5_4, zr5_5, zr5_6, zt6, zg5, zg8, hA0, hA1, hA2, hA3, hA4, CV_t cv, CV_l cv, CV_o cv, CV_s cv, holds_f, Nat.add_zero]
    · simp (disch := omega) only [f_X3_loudTogether_51, f_X3_loudTogether_43, f_X3_loudTogether_4, f_X3_loudTogether, l0, l1, l2, l3, l4, l5, l6, l7, l8, l9, l10, l11, l12, l13, l14, l15, l16, l17, l18, l19, l20, l21, l22, l23, l24, l25, l33, l34, l40, l42, l50, l58, l99, l100, l700, l999, l4095, l9999, l10000, x_neg1, nI_add, x_pred, x_m1, x_J1, pk_sub, nJ_pos, Nat.add_sub_cancel, nI_leI, nI_ltI, nI_eq, q_leJ, q_Jle, q_ltJ, q_Jlt, q_eqJ, q_Jeq, q_JJ, q_JJle, q_JJlt, Option.bind_some, if_pos, if_neg, ↓reduceIte, M_a hM, M_n hM, M_wn hM, M_t hM, M_l hM, M_o hM, M_s hM, M_g hM, M_tt hM, M_tl hM, M_to hM, M_ts hM, M_st hM, M_sl hM, M_so hM, M_ss hM, zi5_0, zi5_1, zi5_2, zi5_3, zi5_4, zr5_5, zr5_6, zt6, zg5, zg8, hA0, hA1, hA2, hA3, hA4, CV_t cv, CV_l cv, CV_o cv, CV_s cv, holds_f]
  · intro k0
    dsimp only
    simp (disch := omega) only [f_X3_loudTogether_51, f_X3_loudTogether_43, f_X3_loudTogether_4, f_X3_loudTogether, l0, l1, l2, l3, l4, l5, l6, l7, l8, l9, l10, l11, l12, l13, l14, l15, l16, l17, l18, l19, l20, l21, l22, l23, l24, l25, l33, l34, l40, l42, l50, l58, l99, l100, l700, l999, l4095, l9999, l10000, x_neg1, nI_add, x_pred, x_m1, x_J1, pk_sub, nJ_pos, Nat.add_sub_cancel, nI_leI, nI_ltI, nI_eq, q_leJ, q_Jle, q_ltJ, q_Jlt, q_eqJ, q_Jeq, q_JJ, q_JJle, q_JJlt, Option.bind_some, if_pos, if_neg, ↓reduceIte, M_a hM, M_n hM, M_wn hM, M_t hM, M_l hM, M_o hM, M_s hM, M_g hM, M_tt hM, M_tl hM, M_to hM, M_ts hM, M_st hM, M_sl hM, M_so hM, M_ss hM, zi5_0, zi5_1, zi5_2, zi5_3, zi5_4, zr5_5, zr5_6, zt6, zg5, zg8, hA0, hA1, hA2, hA3, hA4, CV_t cv, CV_l cv, CV_o cv, CV_s cv]
theorem farFrom_f (cv : CV σ m A P X) {man bits : Nat} (hman : man < 8) (hbits : bits < 4096) : f_X3_farFrom m (nI man) (nI bits) (mk σ w u) = some (nI (pc (X (1 + man) ^^^ bits) 12), mk σ w u) := by
  have hM := CV_M cv; have hT := CV_b cv; have cv2 := cv; obtain ⟨hm, ⟨⟨hA0, hA1, hA2, hA3, hA4⟩, hA7, hrl, hrn, hrc⟩, ⟨hN, hX⟩, ⟨hB1, hB2, hM8, hR8, hS12, hnm, hmd⟩, ⟨hN2, hW, hD⟩, hP⟩ := cv2
  have hl := xr12 (hT man hman).1 hbits
  simp (disch := omega) only [f_X3_farFrom, l0, l1, l2, l3, l4, l5, l6, l7, l8, l9, l10, l11, l12, l13, l14, l15, l16, l17, l18, l19, l20, l21, l22, l23, l24, l25, l33, l34, l40, l42, l50, l58, l99, l100, l700, l999, l4095, l9999, l10000, x_neg1, nI_add, x_pred, x_m1, x_J1, pk_sub, nJ_pos, Nat.add_sub_cancel, nI_leI, nI_ltI, nI_eq, q_leJ, q_Jle, q_ltJ, q_Jlt, q_eqJ, q_Jeq, q_JJ, q_JJle, q_JJlt, Option.bind_some, if_pos, if_neg, ↓reduceIte, M_a hM, M_n hM, M_wn hM, M_t hM, M_l hM, M_o hM, M_s hM, M_g hM, M_tt hM, M_tl hM, M_to hM, M_ts hM, M_st hM, M_sl hM, M_so hM, M_ss hM, zi5_0, zi5_1, zi5_2, zi5_3, zi5_4, zr5_5, zr5_6, zt6, zg5, zg8, hA0, hA1, hA2, hA3, hA4, CV_t cv, CV_l cv, CV_o cv, CV_s cv, x_xor, bitCount_f, bc_nI]
theorem lf_le (X : Nat → Nat) (bits : Nat) : ∀ n, lf X bits n ≤ 13 := by
  intro n
  induction n with
  | zero => exact Nat.le_refl _
  | succ n ih => show min (lf X bits n) _ ≤ 13; omega
theorem leastFar_f (cv : CV σ m A P X) {bits : Nat} (hbits : bits < 4096) : f_X3_leastFar m (nI bits) (mk σ w u) = some (nI (lf X bits (A 1)), mk σ w u) := by
  have hM := CV_M cv; have hT := CV_b cv; have cv2 := cv; obtain ⟨hm, ⟨⟨hA0, hA1, hA2, hA3, hA4⟩, hA7, hrl, hrn, hrc⟩, ⟨hN, hX⟩, ⟨hB1, hB2, hM8, hR8, hS12, hnm, hmd⟩, ⟨hN2, hW, hD⟩, hP⟩ := cv2
  unfold f_X3_leastFar l_X3_leastFar_5
  rw [M_g hM]
  refine lp_for (fun i => (m, nI bits, nI (lf X bits i), nI i, mk σ w u)) (A 1) _ ?_ ?_ (A 1) 0 _ (by omega) (by omega)
  · intro i hi k0
    have h1 := lf_le X bits i
    have h2 := pc_le (X (1 + i) ^^^ bits) 12
    dsimp only
    simp (disch := omega) only [f_X3_leastFar_33, f_X3_leastFar_5, f_X3_leastFar, l0, l1, l2, l3, l4, l5, l6, l7, l8, l9, l10, l11, l12, l13, l14, l15, l16, l17, l18, l19, l20, l21, l22, l23, l24, l25, l33, l34, l40, l42, l50, l58, l99, l100, l700, l999, l4095, l9999, l10000, x_neg1, nI_add, x_pred, x_m1, x_J1, pk_sub, nJ_pos, Nat.add_sub_cancel, nI_leI, nI_ltI, nI_eq, q_leJ, q_Jle, q_ltJ, q_Jlt, q_eqJ, q_Jeq, q_JJ, q_JJle, q_JJlt, Option.bind_some, if_pos, if_neg, ↓reduceIte, M_a hM, M_n hM, M_wn hM, M_t hM, M_l hM, M_o hM, M_s hM, M_g hM, M_tt hM, M_tl hM, M_to hM, M_ts hM, M_st hM, M_sl hM, M_so hM, M_ss hM, zi5_0, zi5_1, zi5_2, zi5_3, zi5_4, zr5_5, zr5_6, zt6, zg5, zg8, hA0, hA1, hA2, hA3, hA4, CV_t cv, CV_l cv, CV_o cv, CV_s cv, farFrom_f cv, hp_min_nI]
    rfl
  · intro k0
    dsimp only
    simp (disch := omega) only [f_X3_leastFar_33, f_X3_leastFar_5, f_X3_leastFar, l0, l1, l2, l3, l4, l5, l6, l7, l8, l9, l10, l11, l12, l13, l14, l15, l16, l17, l18, l19, l20, l21, l22, l23, l24, l25, l33, l34, l40, l42, l50, l58, l99, l100, l700, l999, l4095, l9999, l10000, x_neg1, nI_add, x_pred, x_m1, x_J1, pk_sub, nJ_pos, Nat.add_sub_cancel, nI_leI, nI_ltI, nI_eq, q_leJ, q_Jle, q_ltJ, q_Jlt, q_eqJ, q_Jeq, q_JJ, q_JJle, q_JJlt, Option.bind_some, if_pos, if_neg, ↓reduceIte, M_a hM, M_n hM, M_wn hM, M_t hM, M_l hM, M_o hM, M_s hM, M_g hM, M_tt hM, M_tl hM, M_to hM, M_ts hM, M_st hM, M_sl hM, M_so hM, M_ss hM, zi5_0, zi5_1, zi5_2, zi5_3, zi5_4, zr5_5, zr5_6, zt6, zg5, zg8, hA0, hA1, hA2, hA3, hA4, CV_t cv, CV_l cv, CV_o cv, CV_s cv]
theorem treadsTogether_f (cv : CV σ m A P X) {set : Nat} (hs : set < 2 ^ 31) : f_X3_treadsTogether m (nI set) (mk σ w u) = some (nI (tt X set (A 1)), mk σ w u) := by
  have hM := CV_M cv; have hT := CV_b cv; have cv2 := cv; obtain ⟨hm, ⟨⟨hA0, hA1, hA2, hA3, hA4⟩, hA7, hrl, hrn, hrc⟩, ⟨hN, hX⟩, ⟨hB1, hB2, hM8, hR8, hS12, hnm, hmd⟩, ⟨hN2, hW, hD⟩, hP⟩ := cv2
  unfold f_X3_treadsTogether l_X3_treadsTogether_4
  rw [M_g hM]
  refine lp_for (fun i => (m, nI set, nI (tt X set i), nI i, mk σ w u)) (A 1) _ ?_ ?_ (A 1) 0 _ (by omega) (by omega)
  · intro i hi k0
    have h2 := bt_lt set i
    have e1 : tt X set (i + 1) = tt X set i ||| (if bt set i = 0 then 0 else X (1 + i)) := rfl
    rw [e1]
    dsimp only
    by_cases h : bt set i = 0
    · simp (disch := omega) only [f_X3_treadsTogether_44, f_X3_treadsTogether_36, f_X3_treadsTogether_4, f_X3_treadsTogether, l0, l1, l2, l3, l4, l5, l6, l7, l8, l9, l10, l11, l12, l13, l14, l15, l16, l17, l18, l19, l20, l21, l22, l23, l24, l25, l33, l34, l40, l42, l50, l58, l99, l100, l700, l999, l4095, l9999, l10000, x_neg1, nI_add, x_pred, x_m1, x_J1, pk_sub, nJ_pos, Nat.add_sub_cancel, nI_leI, nI_ltI, nI_eq, q_leJ, q_Jle, q_ltJ, q_Jlt, q_eqJ, q_Jeq, q_JJ, q_JJle, q_JJlt, Option.bind_some, if_pos, if_neg, ↓reduceIte, M_a hM, M_n hM, M_wn hM, M_t hM, M_l hM, M_o hM, M_s hM, M_g hM, M_tt hM, M_tl hM, M_to hM, M_ts hM, M_st hM, M_sl hM, M_so hM, M_ss hM, zi5_0, zi5_1, zi5_2, zi5_3, zi5_4, zr5_5, zr5_6, zt6, zg5, zg8, hA0, hA1, hA2, hA3, hA4, CV_t cv, CV_l cv, CV_o cv, CV_s cv, holds_f, x_or]
    · simp (disch := omega) only [f_X3_treadsTogether_44, f_X3_treadsTogether_36, f_X3_treadsTogether_4, f_X3_treadsTogether, l0, l1, l2, l3, l4, l5, l6, l7, l8, l9, l10, l11, l12, l13, l14, l15, l16, l17, l18, l19, l20, l21, l22, l23, l24, l25, l33, l34, l40, l42, l50, l58, l99, l100, l700, l999, l4095, l9999, l10000, x_neg1, nI_add, x_pred, x_m1, x_J1, pk_sub, nJ_pos, Nat.add_sub_cancel, nI_leI, nI_ltI, nI_eq, q_leJ, q_Jle, q_ltJ, q_Jlt, q_eqJ, q_Jeq, q_JJ, q_JJle, q_JJlt, Option.bind_some, if_pos, if_neg, ↓reduceIte, M_a hM, M_n hM, M_wn hM, M_t hM, M_l hM, M_o hM, M_s hM, M_g hM, M_tt hM, M_tl hM, M_to hM, M_ts hM, M_st hM, M_sl hM, M_so hM, M_ss hM, zi5_0, zi5_1, zi5_2, zi5_3, zi5_4, zr5_5, zr5_6, zt6, zg5, zg8, hA0, hA1, hA2, hA3, hA4, CV_t cv, CV_l cv, CV_o cv, CV_s cv, holds_f, x_or]
  · intro k0
    dsimp only
    simp (disch := omega) only [f_X3_treadsTogether_44, f_X3_treadsTogether_36, f_X3_treadsTogether_4, f_X3_treadsTogether, l0, l1, l2, l3, l4, l5, l6, l7, l8, l9, l10, l11, l12, l13, l14, l15, l16, l17, l18, l19, l20, l21, l22, l23, l24, l25, l33, l34, l40, l42, l50, l58, l99, l100, l700, l999, l4095, l9999, l10000, x_neg1, nI_add, x_pred, x_m1, x_J1, pk_sub, nJ_pos, Nat.add_sub_cancel, nI_leI, nI_ltI, nI_eq, q_leJ, q_Jle, q_ltJ, q_Jlt, q_eqJ, q_Jeq, q_JJ, q_JJle, q_JJlt, Option.bind_some, if_pos, if_neg, ↓reduceIte, M_a hM, M_n hM, M_wn hM, M_t hM, M_l hM, M_o hM, M_s hM, M_g hM, M_tt hM, M_tl hM, M_to hM, M_ts hM, M_st hM, M_sl hM, M_so hM, M_ss hM, zi5_0, zi5_1, zi5_2, zi5_3, zi5_4, zr5_5, zr5_6, zt6, zg5, zg8, hA0, hA1, hA2, hA3, hA4, CV_t cv, CV_l cv, CV_o cv, CV_s cv]
theorem menWithBeat_f (cv : CV σ m A P X) {beat : Nat} (hb : beat < 32) : f_X3_menWithBeat m (nI beat) (mk σ w u) = some (nI (mb X beat (A 1)), mk σ w u) := by
  have hM := CV_M cv; have hT := CV_b cv; have cv2 := cv; obtain ⟨hm, ⟨⟨hA0, hA1, hA2, hA3, hA4⟩, hA7, hrl, hrn, hrc⟩, ⟨hN, hX⟩, ⟨hB1, hB2, hM8, hR8, hS12, hnm, hmd⟩, ⟨hN2, hW, hD⟩, hP⟩ := cv2
  unfold f_X3_menWithBeat l_X3_menWithBeat_4
  rw [M_g hM]
  refine lp_for (fun i => (m, nI beat, nI (mb X beat i), nI i, mk σ w u)) (A 1) _ ?_ ?_ (A 1) 0 _ (by omega) (by omega)
  · intro i hi k0
    have hb := hT i (by omega)
    have h2 := bt_lt (X (1 + i)) beat
    have e1 : mb X beat (i + 1) = mb X beat i + bt (X (1 + i)) beat := rfl
    rw [e1]
    dsimp only
    by_cases h : bt (X (1 + i)) beat = 0
    · rw [h]
      simp (disch := omega) only [f_X3_menWithBeat_44, f_X3_menWithBeat_36, f_X3_menWithBeat_4, f_X3_menWithBeat, l0, l1, l2, l3, l4, l5, l6, l7, l8, l9, l10, l11, l12, l13, l14, l15, l16, l17, l18, l19, l20, l21, l22, l23, l24, l25, l33, l34, l40, l42, l50, l58, l99, l100, l700, l999, l4095, l9999, l10000, x_neg1, nI_add, x_pred, x_m1, x_J1, pk_sub, nJ_pos, Nat.add_sub_cancel, nI_leI, nI_ltI, nI_eq, q_leJ, q_Jle, q_ltJ, q_Jlt, q_eqJ, q_Jeq, q_JJ, q_JJle, q_JJlt, Option.bind_some, if_pos, if_neg, ↓reduceIte, M_a hM, M_n hM, M_wn hM, M_t hM, M_l hM, M_o hM, M_s hM, M_g hM, M_tt hM, M_tl hM, M_to hM, M_ts hM, M_st hM, M_sl hM, M_so hM, M_ss hM, zi5_0, zi5_1, zi5_2, zi5_3, zi5_4, zr5_5, zr5_6, zt6, zg5, zg8, hA0, hA1, hA2, hA3, hA4, CV_t cv, CV_l cv, CV_o cv, CV_s cv, holds_f, h, Nat.add_zero]
    · rw [show bt (X (1 + i)) beat = 1 by omega]
      simp (disch := omega) only [f_X3_menWithBeat_44, f_X3_menWithBeat_36, f_X3_menWithBeat_4, f_X3_menWithBeat, l0, l1, l2, l3, l4, l5, l6, l7, l8, l9, l10, l11, l12, l13, l14, l15, l16, l17, l18, l19, l20, l21, l22, l23, l24, l25, l33, l34, l40, l42, l50, l58, l99, l100, l700, l999, l4095, l9999, l10000, x_neg1, nI_add, x_pred, x_m1, x_J1, pk_sub, nJ_pos, Nat.add_sub_cancel, nI_leI, nI_ltI, nI_eq, q_leJ, q_Jle, q_ltJ, q_Jlt, q_eqJ, q_Jeq, q_JJ, q_JJle, q_JJlt, Option.bind_some, if_pos, if_neg, ↓reduceIte, M_a hM, M_n hM, M_wn hM, M_t hM, M_l hM, M_o hM, M_s hM, M_g hM, M_tt hM, M_tl hM, M_to hM, M_ts hM, M_st hM, M_sl hM, M_so hM, M_ss hM, zi5_0, zi5_1, zi5_2, zi5_3, zi5_4, zr5_5, zr5_6, zt6, zg5, zg8, hA0, hA1, hA2, hA3, hA4, CV_t cv, CV_l cv, CV_o cv, CV_s cv, holds_f]
  · intro k0
    dsimp only
    simp (disch := omega) only [f_X3_menWithBeat_44, f_X3_menWithBeat_36, f_X3_menWithBeat_4, f_X3_menWithBeat, l0, l1, l2, l3, l4, l5, l6, l7, l8, l9, l10, l11, l12, l13, l14, l15, l16, l17, l18, l19, l20, l21, l22, l23, l24, l25, l33, l34, l40, l42, l50, l58, l99, l100, l700, l999, l4095, l9999, l10000, x_neg1, nI_add, x_pred, x_m1, x_J1, pk_sub, nJ_pos, Nat.add_sub_cancel, nI_leI, nI_ltI, nI_eq, q_leJ, q_Jle, q_ltJ, q_Jlt, q_eqJ, q_Jeq, q_JJ, q_JJle, q_JJlt, Option.bind_some, if_pos, if_neg, ↓reduceIte, M_a hM, M_n hM, M_wn hM, M_t hM, M_l hM, M_o hM, M_s hM, M_g hM, M_tt hM, M_tl hM, M_to hM, M_ts hM, M_st hM, M_sl hM, M_so hM, M_ss hM, zi5_0, zi5_1, zi5_2, zi5_3, zi5_4, zr5_5, zr5_6, zt6, zg5, zg8, hA0, hA1, hA2, hA3, hA4, CV_t cv, CV_l cv, CV_o cv, CV_s cv]
theorem isToldApart_f (cv : CV σ m A P X) {set beats : Nat} (hs : set < 2 ^ 31) (hb : beats < 2 ^ 31) : ∃ r, ((r = 1 ∧ ta X (A 1) set beats) ∨ (r = 0 ∧ ¬ ta X (A 1) set beats)) ∧ f_X3_isToldApart m (nI set) (nI beats) (mk σ w u) = some (nI r, mk σ w u) := by
  have hM := CV_M cv; have hT := CV_b cv; have cv2 := cv; obtain ⟨hm, ⟨⟨hA0, hA1, hA2, hA3, hA4⟩, hA7, hrl, hrn, hrc⟩, ⟨hN, hX⟩, ⟨hB1, hB2, hM8, hR8, hS12, hnm, hmd⟩, ⟨hN2, hW, hD⟩, hP⟩ := cv2
  unfold f_X3_isToldApart l_X3_isToldApart_2
  rw [M_g hM]
  refine lp_S (fun x => ∃ r, ((r = 1 ∧ ta X (A 1) set beats) ∨ (r = 0 ∧ ¬ ta X (A 1) set beats)) ∧ x = some (nI r, mk σ w u)) (fun i τ => (m, nI set, nI beats, nI i, mk τ w u)) (fun i τ => τ = σ ∧ ∀ a b, a < i → a < b → b < A 1 → bt set a = 1 → bt set b = 1 → beats ≤ fa X a b) (A 1) ?_ ?_ (A 1) 0 _ σ (by omega) (by omega) ⟨rfl, fun a b h => by omega⟩
  · intro i hi k τ ⟨e, hI⟩ hk
    subst e
    dsimp only at hk ⊢
    simp (disch := omega) only [f_X3_isToldApart_2, l0, l1, l2, l3, l4, l5, l6, l7, l8, l9, l10, l11, l12, l13, l14, l15, l16, l17, l18, l19, l20, l21, l22, l23, l24, l25, l33, l34, l40, l42, l50, l58, l99, l100, l700, l999, l4095, l9999, l10000, x_neg1, nI_add, x_pred, x_m1, x_J1, pk_sub, nJ_pos, Nat.add_sub_cancel, nI_leI, nI_ltI, nI_eq, q_leJ, q_Jle, q_ltJ, q_Jlt, q_eqJ, q_Jeq, q_JJ, q_JJle, q_JJlt, Option.bind_some, if_pos, if_neg, ↓reduceIte, M_a hM, M_n hM, M_wn hM, M_t hM, M_l hM, M_o hM, M_s hM, M_g hM, M_tt hM, M_tl hM, M_to hM, M_ts hM, M_st hM, M_sl hM, M_so hM, M_ss hM, zi5_0, zi5_1, zi5_2, zi5_3, zi5_4, zr5_5, zr5_6, zt6, zg5, zg8, hA0, hA1, hA2, hA3, hA4, CV_t cv, CV_l cv, CV_o cv, CV_s cv]
    unfold l_X3_isToldApart_18
    refine lp_S (fun x => ∃ r, ((r = 1 ∧ ta X (A 1) set beats) ∨ (r = 0 ∧ ¬ ta X (A 1) set beats)) ∧ x = some (nI r, mk τ w u)) (fun j τ => (m, nI set, nI beats, nI i, nI (i + 1 + j), mk τ w u)) (fun j τ' => τ' = τ ∧ ∀ b, i < b → b < i + 1 + j → bt set i = 1 → bt set b = 1 → beats ≤ fa X i b) (A 1 - (i + 1)) ?_ ?_ (A 1 - (i + 1)) 0 _ τ (by omega) (by omega) ⟨rfl, fun b h1 h2 => by omega⟩
    · intro j hj k2 τ' ⟨e, hJ⟩ hk2
      subst e
      have h2 := bt_lt set i
      have h3 := bt_lt set (i + 1 + j)
      have h4 := (hT i (by omega)).1
      have h5 := (hT (i + 1 + j) (by omega)).1
      have h6 := pc_le (X (1 + i) ^^^ X (1 + (i + 1 + j))) 12
      dsimp only at hk2 ⊢
      by_cases c1 : bt set i = 0
      · have h := hk2 τ' ⟨rfl, fun b _ _ h => by omega⟩
        simp (disch := omega) only [f_X3_isToldApart_18, f_X3_isToldApart_67, l0, l1, l2, l3, l4, l5, l6, l7, l8, l9, l10, l11, l12, l13, l14, l15, l16, l17, l18, l19, l20, l21, l22, l23, l24, l25, l33, l34, l40, l42, l50, l58, l99, l100, l700, l999, l4095, l9999, l10000, x_neg1, nI_add, x_pred, x_m1, x_J1, pk_sub, nJ_pos, Nat.add_sub_cancel, nI_leI, nI_ltI, nI_eq, q_leJ, q_Jle, q_ltJ, q_Jlt, q_eqJ, q_Jeq, q_JJ, q_JJle, q_JJlt, Option.bind_some, if_pos, if_neg, ↓reduceIte, M_a hM, M_n hM, M_wn hM, M_t hM, M_l hM, M_o hM, M_s hM, M_g hM, M_tt hM, M_tl hM, M_to hM, M_ts hM, M_st hM, M_sl hM, M_so hM, M_ss hM, zi5_0, zi5_1, zi5_2, zi5_3, zi5_4, zr5_5, zr5_6, zt6, zg5, zg8, hA0, hA1, hA2, hA3, hA4, CV_t cv, CV_l cv, CV_o cv, CV_s cv, holds_f]
        exact h
      · by_cases c2 : bt set (i + 1 + j) = 0
        · have h := hk2 τ' ⟨rfl, fun b h7 h8 h9 h10 => by
            by_cases hb : b = i + 1 + j
            · subst hb; omega
            · exact hJ b h7 (by omega) h9 h10⟩
          simp (disch := omega) only [f_X3_isToldApart_18, f_X3_isToldApart_67, l0, l1, l2, l3, l4, l5, l6, l7, l8, l9, l10, l11, l12, l13, l14, l15, l16, l17, l18, l19, l20, l21, l22, l23, l24, l25, l33, l34, l40, l42, l50, l58, l99, l100, l700, l999, l4095, l9999, l10000, x_neg1, nI_add, x_pred, x_m1, x_J1, pk_sub, nJ_pos, Nat.add_sub_cancel, nI_leI, nI_ltI, nI_eq, q_leJ, q_Jle, q_ltJ, q_Jlt, q_eqJ, q_Jeq, q_JJ, q_JJle, q_JJlt, Option.bind_some, if_pos, if_neg, ↓reduceIte, M_a hM, M_n hM, M_wn hM, M_t hM, M_l hM, M_o hM, M_s hM, M_g hM, M_tt hM, M_tl hM, M_to hM, M_ts hM, M_st hM, M_sl hM, M_so hM, M_ss hM, zi5_0, zi5_1, zi5_2, zi5_3, zi5_4, zr5_5, zr5_6, zt6, zg5, zg8, hA0, hA1, hA2, hA3, hA4, CV_t cv, CV_l cv, CV_o cv, CV_s cv, holds_f]
          exact h
        · by_cases c3 : beats ≤ pc (X (1 + i) ^^^ X (1 + (i + 1 + j))) 12
          · have h := hk2 τ' ⟨rfl, fun b h7 h8 h9 h10 => by
              by_cases hb : b = i + 1 + j
              · subst hb; exact c3
              · exact hJ b h7 (by omega) h9 h10⟩
            simp (disch := omega) only [f_X3_isToldApart_18, f_X3_isToldApart_67, l0, l1, l2, l3, l4, l5, l6, l7, l8, l9, l10, l11, l12, l13, l14, l15, l16, l17, l18, l19, l20, l21, l22, l23, l24, l25, l33, l34, l40, l42, l50, l58, l99, l100, l700, l999, l4095, l9999, l10000, x_neg1, nI_add, x_pred, x_m1, x_J1, pk_sub, nJ_pos, Nat.add_sub_cancel, nI_leI, nI_ltI, nI_eq, q_leJ, q_Jle, q_ltJ, q_Jlt, q_eqJ, q_Jeq, q_JJ, q_JJle, q_JJlt, Option.bind_some, if_pos, if_neg, ↓reduceIte, M_a hM, M_n hM, M_wn hM, M_t hM, M_l hM, M_o hM, M_s hM, M_g hM, M_tt hM, M_tl hM, M_to hM, M_ts hM, M_st hM, M_sl hM, M_so hM, M_ss hM, zi5_0, zi5_1, zi5_2, zi5_3, zi5_4, zr5_5, zr5_6, zt6, zg5, zg8, hA0, hA1, hA2, hA3, hA4, CV_t cv, CV_l cv, CV_o cv, CV_s cv, holds_f, farFrom_f cv]
            exact h
          · refine ⟨0, Or.inr ⟨rfl, fun ht => c3 (ht i (i + 1 + j) (by omega) (by omega) (by omega) (by omega))⟩, ?_⟩
            simp (disch := omega) only [f_X3_isToldApart_18, f_X3_isToldApart_65, l0, l1, l2, l3, l4, l5, l6, l7, l8, l9, l10, l11, l12, l13, l14, l15, l16, l17, l18, l19, l20, l21, l22, l23, l24, l25, l33, l34, l40, l42, l50, l58, l99, l100, l700, l999, l4095, l9999, l10000, x_neg1, nI_add, x_pred, x_m1, x_J1, pk_sub, nJ_pos, Nat.add_sub_cancel, nI_leI, nI_ltI, nI_eq, q_leJ, q_Jle, q_ltJ, q_Jlt, q_eqJ, q_Jeq, q_JJ, q_JJle, q_JJlt, Option.bind_some, if_pos, if_neg, ↓reduceIte, M_a hM, M_n hM, M_wn hM, M_t hM, M_l hM, M_o hM, M_s hM, M_g hM, M_tt hM, M_tl hM, M_to hM, M_ts hM, M_st hM, M_sl hM, M_so hM, M_ss hM, zi5_0, zi5_1, zi5_2, zi5_3, zi5_4, zr5_5, zr5_6, zt6, zg5, zg8, hA0, hA1, hA2, hA3, hA4, CV_t cv, CV_l cv, CV_o cv, CV_s cv, holds_f, farFrom_f cv]
            rfl
    · intro k2 τ' ⟨e, hJ⟩
      subst e
      dsimp only
      have h := hk τ' ⟨rfl, fun a b h1 h2 h3 h4 h5 => by
        by_cases ha : a = i
        · subst ha; exact hJ b h2 (by omega) h4 h5
        · exact hI a b (by omega) h2 h3 h4 h5⟩
      simp (disch := omega) only [f_X3_isToldApart_18, f_X3_isToldApart_73, l0, l1, l2, l3, l4, l5, l6, l7, l8, l9, l10, l11, l12, l13, l14, l15, l16, l17, l18, l19, l20, l21, l22, l23, l24, l25, l33, l34, l40, l42, l50, l58, l99, l100, l700, l999, l4095, l9999, l10000, x_neg1, nI_add, x_pred, x_m1, x_J1, pk_sub, nJ_pos, Nat.add_sub_cancel, nI_leI, nI_ltI, nI_eq, q_leJ, q_Jle, q_ltJ, q_Jlt, q_eqJ, q_Jeq, q_JJ, q_JJle, q_JJlt, Option.bind_some, if_pos, if_neg, ↓reduceIte, M_a hM, M_n hM, M_wn hM, M_t hM, M_l hM, M_o hM, M_s hM, M_g hM, M_tt hM, M_tl hM, M_to hM, M_ts hM, M_st hM, M_sl hM, M_so hM, M_ss hM, zi5_0, zi5_1, zi5_2, zi5_3, zi5_4, zr5_5, zr5_6, zt6, zg5, zg8, hA0, hA1, hA2, hA3, hA4, CV_t cv, CV_l cv, CV_o cv, CV_s cv]
      exact h
  · intro k τ ⟨e, hI⟩
    subst e
    dsimp only
    refine ⟨1, Or.inl ⟨rfl, fun a b h1 h2 => hI a b (by omega) h1 h2⟩, ?_⟩
    simp (disch := omega) only [f_X3_isToldApart_2, f_X3_isToldApart_79, l0, l1, l2, l3, l4, l5, l6, l7, l8, l9, l10, l11, l12, l13, l14, l15, l16, l17, l18, l19, l20, l21, l22, l23, l24, l25, l33, l34, l40, l42, l50, l58, l99, l100, l700, l999, l4095, l9999, l10000, x_neg1, nI_add, x_pred, x_m1, x_J1, pk_sub, nJ_pos, Nat.add_sub_cancel, nI_leI, nI_ltI, nI_eq, q_leJ, q_Jle, q_ltJ, q_Jlt, q_eqJ, q_Jeq, q_JJ, q_JJle, q_JJlt, Option.bind_some, if_pos, if_neg, ↓reduceIte, M_a hM, M_n hM, M_wn hM, M_t hM, M_l hM, M_o hM, M_s hM, M_g hM, M_tt hM, M_tl hM, M_to hM, M_ts hM, M_st hM, M_sl hM, M_so hM, M_ss hM, zi5_0, zi5_1, zi5_2, zi5_3, zi5_4, zr5_5, zr5_6, zt6, zg5, zg8, hA0, hA1, hA2, hA3, hA4, CV_t cv, CV_l cv, CV_o cv, CV_s cv]
    rfl
theorem reachedFrom_f (cv : CV σ m A P X) {set beats : Nat} (hs : set < 2 ^ 31) (hb : beats < 2 ^ 31) : f_X3_reachedFrom m (nI set) (nI beats) (mk σ w u) = some (nI (re X set beats (A 1) (A 1)), mk σ w u) := by
  have hM := CV_M cv; have hT := CV_b cv; have cv2 := cv; obtain ⟨hm, ⟨⟨hA0, hA1, hA2, hA3, hA4⟩, hA7, hrl, hrn, hrc⟩, ⟨hN, hX⟩, ⟨hB1, hB2, hM8, hR8, hS12, hnm, hmd⟩, ⟨hN2, hW, hD⟩, hP⟩ := cv2
  unfold f_X3_reachedFrom l_X3_reachedFrom_5
  rw [M_g hM]
  refine lp_for (fun i => (m, nI set, nI beats, nI (re X set beats (A 1) i), nI i, mk σ w u)) (A 1) _ ?_ ?_ (A 1) 0 _ (by omega) (by omega)
  · intro i hi k0
    dsimp only
    simp (disch := omega) only [f_X3_reachedFrom_5, l0, l1, l2, l3, l4, l5, l6, l7, l8, l9, l10, l11, l12, l13, l14, l15, l16, l17, l18, l19, l20, l21, l22, l23, l24, l25, l33, l34, l40, l42, l50, l58, l99, l100, l700, l999, l4095, l9999, l10000, x_neg1, nI_add, x_pred, x_m1, x_J1, pk_sub, nJ_pos, Nat.add_sub_cancel, nI_leI, nI_ltI, nI_eq, q_leJ, q_Jle, q_ltJ, q_Jlt, q_eqJ, q_Jeq, q_JJ, q_JJle, q_JJlt, Option.bind_some, if_pos, if_neg, ↓reduceIte, M_a hM, M_n hM, M_wn hM, M_t hM, M_l hM, M_o hM, M_s hM, M_g hM, M_tt hM, M_tl hM, M_to hM, M_ts hM, M_st hM, M_sl hM, M_so hM, M_ss hM, zi5_0, zi5_1, zi5_2, zi5_3, zi5_4, zr5_5, zr5_6, zt6, zg5, zg8, hA0, hA1, hA2, hA3, hA4, CV_t cv, CV_l cv, CV_o cv, CV_s cv]
    unfold l_X3_reachedFrom_20
    refine (lp_for (fun j => (m, nI set, nI beats, nI (re1 X set beats i (re X set beats (A 1) i) j), nI i, nI j, mk σ w u)) (A 1) _ ?_ ?_ (A 1) 0 _ (by omega) (by omega)).trans rfl
    · intro j hj k2
      have h2 := bt_lt set i
      have h4 := (hT i (by omega)).1
      have h5 := (hT j (by omega)).1
      have h6 := pc_le (X (1 + i) ^^^ X (1 + j)) 12
      have e1 : re1 X set beats i (re X set beats (A 1) i) (j + 1) = if bt set i = 0 then re1 X set beats i (re X set beats (A 1) i) j else if beats < pc (X (1 + i) ^^^ X (1 + j)) 12 then re1 X set beats i (re X set beats (A 1) i) j else re1 X set beats i (re X set beats (A 1) i) j ||| 2 ^ j := rfl
      rw [e1]
      dsimp only
      by_cases c1 : bt set i = 0
      · simp (disch := omega) only [f_X3_reachedFrom_20, f_X3_reachedFrom_67, l0, l1, l2, l3, l4, l5, l6, l7, l8, l9, l10, l11, l12, l13, l14, l15, l16, l17, l18, l19, l20, l21, l22, l23, l24, l25, l33, l34, l40, l42, l50, l58, l99, l100, l700, l999, l4095, l9999, l10000, x_neg1, nI_add, x_pred, x_m1, x_J1, pk_sub, nJ_pos, Nat.add_sub_cancel, nI_leI, nI_ltI, nI_eq, q_leJ, q_Jle, q_ltJ, q_Jlt, q_eqJ, q_Jeq, q_JJ, q_JJle, q_JJlt, Option.bind_some, if_pos, if_neg, ↓reduceIte, M_a hM, M_n hM, M_wn hM, M_t hM, M_l hM, M_o hM, M_s hM, M_g hM, M_tt hM, M_tl hM, M_to hM, M_ts hM, M_st hM, M_sl hM, M_so hM, M_ss hM, zi5_0, zi5_1, zi5_2, zi5_3, zi5_4, zr5_5, zr5_6, zt6, zg5, zg8, hA0, hA1, hA2, hA3, hA4, CV_t cv, CV_l cv, CV_o cv, CV_s cv, holds_f]
      · by_cases c2 : beats < pc (X (1 + i) ^^^ X (1 + j)) 12
        · simp (disch := omega) only [f_X3_reachedFrom_20, f_X3_reachedFrom_67, l0, l1, l2, l3, l4, l5, l6, l7, l8, l9, l10, l11, l12, l13, l14, l15, l16, l17, l18, l19, l20, l21, l22, l23, l24, l25, l33, l34, l40, l42, l50, l58, l99, l100, l700, l999, l4095, l9999, l10000, x_neg1, nI_add, x_pred, x_m1, x_J1, pk_sub, nJ_pos, Nat.add_sub_cancel, nI_leI, nI_ltI, nI_eq, q_leJ, q_Jle, q_ltJ, q_Jlt, q_eqJ, q_Jeq, q_JJ, q_JJle, q_JJlt, Option.bind_some, if_pos, if_neg, ↓reduceIte, M_a hM, M_n hM, M_wn hM, M_t hM, M_l hM, M_o hM, M_s hM, M_g hM, M_tt hM, M_tl hM, M_to hM, M_ts hM, M_st hM, M_sl hM, M_so hM, M_ss hM, zi5_0, zi5_1, zi5_2, zi5_3, zi5_4, zr5_5, zr5_6, zt6, zg5, zg8, hA0, hA1, hA2, hA3, hA4, CV_t cv, CV_l cv, CV_o cv, CV_s cv, holds_f, farFrom_f cv]
        · simp (disch := omega) only [f_X3_reachedFrom_20, f_X3_reachedFrom_67, l0, l1, l2, l3, l4, l5, l6, l7, l8, l9, l10, l11, l12, l13, l14, l15, l16, l17, l18, l19, l20, l21, l22, l23, l24, l25, l33, l34, l40, l42, l50, l58, l99, l100, l700, l999, l4095, l9999, l10000, x_neg1, nI_add, x_pred, x_m1, x_J1, pk_sub, nJ_pos, Nat.add_sub_cancel, nI_leI, nI_ltI, nI_eq, q_leJ, q_Jle, q_ltJ, q_Jlt, q_eqJ, q_Jeq, q_JJ, q_JJle, q_JJlt, Option.bind_some, if_pos, if_neg, ↓reduceIte, M_a hM, M_n hM, M_wn hM, M_t hM, M_l hM, M_o hM, M_s hM, M_g hM, M_tt hM, M_tl hM, M_to hM, M_ts hM, M_st hM, M_sl hM, M_so hM, M_ss hM, zi5_0, zi5_1, zi5_2, zi5_3, zi5_4, zr5_5, zr5_6, zt6, zg5, zg8, hA0, hA1, hA2, hA3, hA4, CV_t cv, CV_l cv, CV_o cv, CV_s cv, holds_f, farFrom_f cv, x_one, x_or]
    · intro k2
      dsimp only
      simp (disch := omega) only [f_X3_reachedFrom_20, f_X3_reachedFrom_73, l0, l1, l2, l3, l4, l5, l6, l7, l8, l9, l10, l11, l12, l13, l14, l15, l16, l17, l18, l19, l20, l21, l22, l23, l24, l25, l33, l34, l40, l42, l50, l58, l99, l100, l700, l999, l4095, l9999, l10000, x_neg1, nI_add, x_pred, x_m1, x_J1, pk_sub, nJ_pos, Nat.add_sub_cancel, nI_leI, nI_ltI, nI_eq, q_leJ, q_Jle, q_ltJ, q_Jlt, q_eqJ, q_Jeq, q_JJ, q_JJle, q_JJlt, Option.bind_some, if_pos, if_neg, ↓reduceIte, M_a hM, M_n hM, M_wn hM, M_t hM, M_l hM, M_o hM, M_s hM, M_g hM, M_tt hM, M_tl hM, M_to hM, M_ts hM, M_st hM, M_sl hM, M_so hM, M_ss hM, zi5_0, zi5_1, zi5_2, zi5_3, zi5_4, zr5_5, zr5_6, zt6, zg5, zg8, hA0, hA1, hA2, hA3, hA4, CV_t cv, CV_l cv, CV_o cv, CV_s cv]
      rfl
  · intro k0
    dsimp only
    simp (disch := omega) only [f_X3_reachedFrom_5, f_X3_reachedFrom_79, l0, l1, l2, l3, l4, l5, l6, l7, l8, l9, l10, l11, l12, l13, l14, l15, l16, l17, l18, l19, l20, l21, l22, l23, l24, l25, l33, l34, l40, l42, l50, l58, l99, l100, l700, l999, l4095, l9999, l10000, x_neg1, nI_add, x_pred, x_m1, x_J1, pk_sub, nJ_pos, Nat.add_sub_cancel, nI_leI, nI_ltI, nI_eq, q_leJ, q_Jle, q_ltJ, q_Jlt, q_eqJ, q_Jeq, q_JJ, q_JJle, q_JJlt, Option.bind_some, if_pos, if_neg, ↓reduceIte, M_a hM, M_n hM, M_wn hM, M_t hM, M_l hM, M_o hM, M_s hM, M_g hM, M_tt hM, M_tl hM, M_to hM, M_ts hM, M_st hM, M_sl hM, M_so hM, M_ss hM, zi5_0, zi5_1, zi5_2, zi5_3, zi5_4, zr5_5, zr5_6, zt6, zg5, zg8, hA0, hA1, hA2, hA3, hA4, CV_t cv, CV_l cv, CV_o cv, CV_s cv]
theorem honourAfter_f (cv : CV σ m A P X) {man n : Nat} (hman : man < 8) (hn : n ≤ 40) (hn2 : X 0 < 1900) : RQ (Fr Wc σ) w u (nI (min 99 (hs A P X man n))) (f_X3_honourAfter m (nI man) (nI n) (mk σ w u)) := by
  have cv0 := cv
  have hM := CV_M cv; have hT := CV_b cv; have cv2 := cv; obtain ⟨hm, ⟨⟨hA0, hA1, hA2, hA3, hA4⟩, hA7, hrl, hrn, hrc⟩, ⟨hN, hX⟩, ⟨hB1, hB2, hM8, hR8, hS12, hnm, hmd⟩, ⟨hN2, hW, hD⟩, hP⟩ := cv2
  unfold f_X3_honourAfter
  simp (disch := omega) only [l0, l1, l2, l3, l4, l5, l6, l7, l8, l9, l10, l11, l12, l13, l14, l15, l16, l17, l18, l19, l20, l21, l22, l23, l24, l25, l33, l34, l40, l42, l50, l58, l99, l100, l700, l999, l4095, l9999, l10000, x_neg1, nI_add, x_pred, x_m1, x_J1, pk_sub, nJ_pos, Nat.add_sub_cancel, nI_leI, nI_ltI, nI_eq, q_leJ, q_Jle, q_ltJ, q_Jlt, q_eqJ, q_Jeq, q_JJ, q_JJle, q_JJlt, Option.bind_some, if_pos, if_neg, ↓reduceIte, M_a hM, M_n hM, M_wn hM, M_t hM, M_l hM, M_o hM, M_s hM, M_g hM, M_tt hM, M_tl hM, M_to hM, M_ts hM, M_st hM, M_sl hM, M_so hM, M_ss hM, zi5_0, zi5_1, zi5_2, zi5_3, zi5_4, zr5_5, zr5_6, zt6, zg5, zg8, hA0, hA1, hA2, hA3, hA4, CV_t cv, CV_l cv, CV_o cv, CV_s cv]
  unfold l_X3_honourAfter_12
  refine lp_S (RQ (Fr Wc σ) w u (nI (min 99 (hs A P X man n)))) (fun i τ => (m, nI man, nI n, nI (hs A P X man i), nI i, mk τ w u)) (fun _ τ => Fr Wc σ τ) n ?_ ?_ n 0 _ σ (by omega) (by omega) (Fr_r _ _)
  · intro i hi k τ fr hk
    have cv := CV_fr cv0 fr
    obtain ⟨τ2, g1, g2⟩ := timesNamed_f (w := w) (u := u) cv (c := man + 1) (n := i) (mud := mq A (X 0 + i)) (by omega) (by omega) (Nat.lt_trans (mq_lt cv.2.2.2.1 _) (by omega))
    have h := hk τ2 (Fr_t fr g1)
    rw [nJ_S] at g2
    dsimp only at h ⊢
    rw [hs_S] at h
    simp (disch := omega) only [f_X3_honourAfter_12, l0, l1, l2, l3, l4, l5, l6, l7, l8, l9, l10, l11, l12, l13, l14, l15, l16, l17, l18, l19, l20, l21, l22, l23, l24, l25, l33, l34, l40, l42, l50, l58, l99, l100, l700, l999, l4095, l9999, l10000, x_neg1, nI_add, x_pred, x_m1, x_J1, pk_sub, nJ_pos, Nat.add_sub_cancel, nI_leI, nI_ltI, nI_eq, q_leJ, q_Jle, q_ltJ, q_Jlt, q_eqJ, q_Jeq, q_JJ, q_JJle, q_JJlt, Option.bind_some, if_pos, if_neg, ↓reduceIte, mudIn_f cv, g2]
    exact h
  · intro k τ fr
    have h1 := hs_le A P X man n
    have h2 := (hT man hman).2.2.1
    have h3 : A 2 * n ≤ 8 * 40 := Nat.mul_le_mul hR8 hn
    dsimp only
    refine ⟨τ, fr, ?_⟩
    simp (disch := omega) only [f_X3_honourAfter_12, f_X3_honourAfter_40, l0, l1, l2, l3, l4, l5, l6, l7, l8, l9, l10, l11, l12, l13, l14, l15, l16, l17, l18, l19, l20, l21, l22, l23, l24, l25, l33, l34, l40, l42, l50, l58, l99, l100, l700, l999, l4095, l9999, l10000, x_neg1, nI_add, x_pred, x_m1, x_J1, pk_sub, nJ_pos, Nat.add_sub_cancel, nI_leI, nI_ltI, nI_eq, q_leJ, q_Jle, q_ltJ, q_Jlt, q_eqJ, q_Jeq, q_JJ, q_JJle, q_JJlt, Option.bind_some, if_pos, if_neg, ↓reduceIte, hp_min_nI]
theorem couplesInStep_f (cv : CV σ m A P X) : RQ (Fr Wc σ) w u (nI (cs0 A P X (mq A (X 0)) (A 2))) (f_X3_couplesInStep m (mk σ w u)) := by
  have hM := CV_M cv
  have hR8 := cv.2.2.2.1.2.2.2.1
  have hN2 := cv.2.2.2.2.1.1
  have hH : ∀ (τ : Nat → Nat → Int32), CV τ m A P X → ∀ p, p < 8 → ∃ τ2, Fr Wc τ τ2 ∧ f_X3_heardAt m (nI p) (nI 0) (mk τ w u) = some (nI (he A P X p (mq A (X 0))), mk τ2 w u) := by
    intro τ c p hp
    obtain ⟨τ2, g1, g2⟩ := heardAt_f (w := w) (u := u) c (p := p) (n := 0) (by omega) (by omega)
    rw [rt_0, Nat.add_zero] at g2
    exact ⟨τ2, g1, g2⟩
  have hL : ∀ p, he A P X p (mq A (X 0)) < 4096 := fun p => he_lt A P X p _ cv.2.2.2.1.2.1
  unfold f_X3_couplesInStep l_X3_couplesInStep_4
  rw [M_g hM]
  refine lp_S (RQ (Fr Wc σ) w u (nI (cs0 A P X (mq A (X 0)) (A 2)))) (fun i τ => (m, nI (cs0 A P X (mq A (X 0)) i), nI i, mk τ w u)) (fun _ τ => Fr Wc σ τ) (A 2) ?_ ?_ (A 2) 0 _ σ (by omega) (by omega) (Fr_r _ _)
  · intro i hi k τ fr hk
    have cv0 := cv
    have cv := CV_fr cv fr
    obtain ⟨τ2, g1, g2⟩ := hH τ cv i (by omega)
    have fr2 := Fr_t fr g1
    have hM := CV_M cv; have hT := CV_b cv; have cv2 := cv; obtain ⟨hm, ⟨⟨hA0, hA1, hA2, hA3, hA4⟩, hA7, hrl, hrn, hrc⟩, ⟨hN, hX⟩, ⟨hB1, hB2, hM8, hR8, hS12, hnm, hmd⟩, ⟨hN2, hW, hD⟩, hP⟩ := cv2
    dsimp only at hk ⊢
    simp (disch := omega) only [f_X3_couplesInStep_4, l0, l1, l2, l3, l4, l5, l6, l7, l8, l9, l10, l11, l12, l13, l14, l15, l16, l17, l18, l19, l20, l21, l22, l23, l24, l25, l33, l34, l40, l42, l50, l58, l99, l100, l700, l999, l4095, l9999, l10000, x_neg1, nI_add, x_pred, x_m1, x_J1, pk_sub, nJ_pos, Nat.add_sub_cancel, nI_leI, nI_ltI, nI_eq, q_leJ, q_Jle, q_ltJ, q_Jlt, q_eqJ, q_Jeq, q_JJ, q_JJle, q_JJlt, Option.bind_some, if_pos, if_neg, ↓reduceIte, M_a hM, M_n hM, M_wn hM, M_t hM, M_l hM, M_o hM, M_s hM, M_g hM, M_tt hM, M_tl hM, M_to hM, M_ts hM, M_st hM, M_sl hM, M_so hM, M_ss hM, zi5_0, zi5_1, zi5_2, zi5_3, zi5_4, zr5_5, zr5_6, zt6, zg5, zg8, hA0, hA1, hA2, hA3, hA4, CV_t cv, CV_l cv, CV_o cv, CV_s cv, g2]
    unfold l_X3_couplesInStep_27
    refine lp_S (RQ (Fr Wc σ) w u (nI (cs0 A P X (mq A (X 0)) (A 2)))) (fun j τ => (m, nI (cs1 A P X (mq A (X 0)) i (cs0 A P X (mq A (X 0)) i) j), nI i, nI (he A P X i (mq A (X 0))), nI (i + 1 + j), mk τ w u)) (fun _ τ => Fr Wc σ τ) (A 2 - (i + 1)) ?_ ?_ (A 2 - (i + 1)) 0 _ τ2 (by omega) (by omega) fr2
    · intro j hj k2 τ3 fr3 hk2
      have cv := CV_fr cv0 fr3
      obtain ⟨τ4, g3, g4⟩ := hH τ3 cv (i + 1 + j) (by omega)
      have hM := CV_M cv; have hT := CV_b cv; have cv2 := cv; obtain ⟨hm, ⟨⟨hA0, hA1, hA2, hA3, hA4⟩, hA7, hrl, hrn, hrc⟩, ⟨hN, hX⟩, ⟨hB1, hB2, hM8, hR8, hS12, hnm, hmd⟩, ⟨hN2, hW, hD⟩, hP⟩ := cv2
      have h1 := hL i
      have h2 := hL (i + 1 + j)
      have h := hk2 τ4 (Fr_t fr3 g3)
      have e1 : cs1 A P X (mq A (X 0)) i (cs0 A P X (mq A (X 0)) i) (j + 1) = cs1 A P X (mq A (X 0)) i (cs0 A P X (mq A (X 0)) i) j + (if he A P X (i + 1 + j) (mq A (X 0)) = he A P X i (mq A (X 0)) then 1 else 0) := rfl
      dsimp only at h ⊢
      rw [e1] at h
      by_cases c : he A P X (i + 1 + j) (mq A (X 0)) = he A P X i (mq A (X 0))
      · rw [if_pos c] at h
        simp (disch := omega) only [f_X3_couplesInStep_27, f_X3_couplesInStep_56, l0, l1, l2, l3, l4, l5, l6, l7, l8, l9, l10, l11, l12, l13, l14, l15, l16, l17, l18, l19, l20, l21, l22, l23, l24, l25, l33, l34, l40, l42, l50, l58, l99, l100, l700, l999, l4095, l9999, l10000, x_neg1, nI_add, x_pred, x_m1, x_J1, pk_sub, nJ_pos, Nat.add_sub_cancel, nI_leI, nI_ltI, nI_eq, q_leJ, q_Jle, q_ltJ, q_Jlt, q_eqJ, q_Jeq, q_JJ, q_JJle, q_JJlt, Option.bind_some, if_pos, if_neg, ↓reduceIte, M_a hM, M_n hM, M_wn hM, M_t hM, M_l hM, M_o hM, M_s hM, M_g hM, M_tt hM, M_tl hM, M_to hM, M_ts hM, M_st hM, M_sl hM, M_so hM, M_ss hM, zi5_0, zi5_1, zi5_2, zi5_3, zi5_4, zr5_5, zr5_6, zt6, zg5, zg8, hA0, hA1, hA2, hA3, hA4, CV_t cv, CV_l cv, CV_o cv, CV_s cv, g4]
        exact h
      · rw [if_neg c] at h
        simp (disch := omega) only [f_X3_couplesInStep_27, f_X3_couplesInStep_56, l0, l1, l2, l3, l4, l5, l6, l7, l8, l9, l10, l11, l12, l13, l14, l15, l16, l17, l18, l19, l20, l21, l22, l23, l24, l25, l33, l34, l40, l42, l50, l58, l99, l100, l700, l999, l4095, l9999, l10000, x_neg1, nI_add, x_pred, x_m1, x_J1, pk_sub, nJ_pos, Nat.add_sub_cancel, nI_leI, nI_ltI, nI_eq, q_leJ, q_Jle, q_ltJ, q_Jlt, q_eqJ, q_Jeq, q_JJ, q_JJle, q_JJlt, Option.bind_some, if_pos, if_neg, ↓reduceIte, M_a hM, M_n hM, M_wn hM, M_t hM, M_l hM, M_o hM, M_s hM, M_g hM, M_tt hM, M_tl hM, M_to hM, M_ts hM, M_st hM, M_sl hM, M_so hM, M_ss hM, zi5_0, zi5_1, zi5_2, zi5_3, zi5_4, zr5_5, zr5_6, zt6, zg5, zg8, hA0, hA1, hA2, hA3, hA4, CV_t cv, CV_l cv, CV_o cv, CV_s cv, g4]
        exact h
    · intro k2 τ3 fr3
      have cv := CV_fr cv0 fr3
      have hM := CV_M cv; have hT := CV_b cv; have cv2 := cv; obtain ⟨hm, ⟨⟨hA0, hA1, hA2, hA3, hA4⟩, hA7, hrl, hrn, hrc⟩, ⟨hN, hX⟩, ⟨hB1, hB2, hM8, hR8, hS12, hnm, hmd⟩, ⟨hN2, hW, hD⟩, hP⟩ := cv2
      have h := hk τ3 fr3
      dsimp only at h ⊢
      simp (disch := omega) only [f_X3_couplesInStep_27, f_X3_couplesInStep_64, l0, l1, l2, l3, l4, l5, l6, l7, l8, l9, l10, l11, l12, l13, l14, l15, l16, l17, l18, l19, l20, l21, l22, l23, l24, l25, l33, l34, l40, l42, l50, l58, l99, l100, l700, l999, l4095, l9999, l10000, x_neg1, nI_add, x_pred, x_m1, x_J1, pk_sub, nJ_pos, Nat.add_sub_cancel, nI_leI, nI_ltI, nI_eq, q_leJ, q_Jle, q_ltJ, q_Jlt, q_eqJ, q_Jeq, q_JJ, q_JJle, q_JJlt, Option.bind_some, if_pos, if_neg, ↓reduceIte, M_a hM, M_n hM, M_wn hM, M_t hM, M_l hM, M_o hM, M_s hM, M_g hM, M_tt hM, M_tl hM, M_to hM, M_ts hM, M_st hM, M_sl hM, M_so hM, M_ss hM, zi5_0, zi5_1, zi5_2, zi5_3, zi5_4, zr5_5, zr5_6, zt6, zg5, zg8, hA0, hA1, hA2, hA3, hA4, CV_t cv, CV_l cv, CV_o cv, CV_s cv]
      exact h
  · intro k τ fr
    have cv := CV_fr cv fr
    have hM := CV_M cv; have hT := CV_b cv; have cv2 := cv; obtain ⟨hm, ⟨⟨hA0, hA1, hA2, hA3, hA4⟩, hA7, hrl, hrn, hrc⟩, ⟨hN, hX⟩, ⟨hB1, hB2, hM8, hR8, hS12, hnm, hmd⟩, ⟨hN2, hW, hD⟩, hP⟩ := cv2
    dsimp only
    simp (disch := omega) only [f_X3_couplesInStep_4, f_X3_couplesInStep_70, l0, l1, l2, l3, l4, l5, l6, l7, l8, l9, l10, l11, l12, l13, l14, l15, l16, l17, l18, l19, l20, l21, l22, l23, l24, l25, l33, l34, l40, l42, l50, l58, l99, l100, l700, l999, l4095, l9999, l10000, x_neg1, nI_add, x_pred, x_m1, x_J1, pk_sub, nJ_pos, Nat.add_sub_cancel, nI_leI, nI_ltI, nI_eq, q_leJ, q_Jle, q_ltJ, q_Jlt, q_eqJ, q_Jeq, q_JJ, q_JJle, q_JJlt, Option.bind_some, if_pos, if_neg, ↓reduceIte, M_a hM, M_n hM, M_wn hM, M_t hM, M_l hM, M_o hM, M_s hM, M_g hM, M_tt hM, M_tl hM, M_to hM, M_ts hM, M_st hM, M_sl hM, M_so hM, M_ss hM, zi5_0, zi5_1, zi5_2, zi5_3, zi5_4, zr5_5, zr5_6, zt6, zg5, zg8, hA0, hA1, hA2, hA3, hA4, CV_t cv, CV_l cv, CV_o cv, CV_s cv]
    exact ⟨τ, fr, rfl⟩
end ME
