/-! L3: observers of treads and sets: class and reference -/
section OD
variable {σ : Nat → Nat → Int32} {w u : Int64} {A X Z : Nat → Nat} {P : List (Nat × Nat)} {b om : Nat}
theorem allMen_f (cv : CV σ 34 A P X) : f_X1_allMen 5 (mk σ w u) = some (nI (2 ^ A 1 - 1), mk σ w u) := by
  have hp := Nat.two_pow_pos (A 1)
  have hM := CV_M cv; have hT := CV_b cv; have cv2 := cv; obtain ⟨hm, ⟨⟨hA0, hA1, hA2, hA3, hA4⟩, hA7, hrl, hrn, hrc⟩, ⟨hN, hX⟩, ⟨hB1, hB2, hM8, hR8, hS12, hnm, hmd⟩, ⟨hN2, hW, hD⟩, hP⟩ := cv2
  simp (disch := omega) only [f_X1_allMen, l0, l1, l2, l3, l4, l5, l6, l7, l8, l9, l10, l11, l12, l13, l14, l15, l16, l17, l18, l19, l20, l21, l22, l23, l24, l25, l33, l34, l40, l42, l50, l58, l99, l100, l700, l999, l4095, l9999, l10000, x_neg1, nI_add, x_pred, x_m1, x_J1, pk_sub, nJ_pos, Nat.add_sub_cancel, nI_leI, nI_ltI, nI_eq, q_leJ, q_Jle, q_ltJ, q_Jlt, q_eqJ, q_Jeq, q_JJ, q_JJle, q_JJlt, Option.bind_some, if_pos, if_neg, ↓reduceIte, zg5, zi5_1, hA1, x_one]
theorem allBeats_f (cv : CV σ 34 A P X) : f_X1_allBeats 5 (mk σ w u) = some (nI (2 ^ A 0 - 1), mk σ w u) := by
  have hp := Nat.two_pow_pos (A 0)
  have hM := CV_M cv; have hT := CV_b cv; have cv2 := cv; obtain ⟨hm, ⟨⟨hA0, hA1, hA2, hA3, hA4⟩, hA7, hrl, hrn, hrc⟩, ⟨hN, hX⟩, ⟨hB1, hB2, hM8, hR8, hS12, hnm, hmd⟩, ⟨hN2, hW, hD⟩, hP⟩ := cv2
  simp (disch := omega) only [f_X1_allBeats, l0, l1, l2, l3, l4, l5, l6, l7, l8, l9, l10, l11, l12, l13, l14, l15, l16, l17, l18, l19, l20, l21, l22, l23, l24, l25, l33, l34, l40, l42, l50, l58, l99, l100, l700, l999, l4095, l9999, l10000, x_neg1, nI_add, x_pred, x_m1, x_J1, pk_sub, nJ_pos, Nat.add_sub_cancel, nI_leI, nI_ltI, nI_eq, q_leJ, q_Jle, q_ltJ, q_Jlt, q_eqJ, q_Jeq, q_JJ, q_JJle, q_JJlt, Option.bind_some, if_pos, if_neg, ↓reduceIte, zg5, zi5_0, hA0, x_one]
theorem cl_far (cv : CV σ 34 A P X) {m o : Nat} (hma : m < A 1) (ho : o < A 1) : RQ (Fr Ws σ) w u (nI (fa X m o)) (f_X10_far 0 (nI m) (nI o) (mk σ w u)) := by
  have hM := CV_M cv; have hT := CV_b cv; have cv2 := cv; obtain ⟨hm, ⟨⟨hA0, hA1, hA2, hA3, hA4⟩, hA7, hrl, hrn, hrc⟩, ⟨hN, hX⟩, ⟨hB1, hB2, hM8, hR8, hS12, hnm, hmd⟩, ⟨hN2, hW, hD⟩, hP⟩ := cv2
  have h1 := hT o (by omega)
  unfold f_X10_far
  rw [zg0]
  rw [needMan_f cv hma, Option.bind_some]
  rw [needMan_f cv ho, Option.bind_some]
  rw [zr0_8, Option.bind_some, Option.bind_some, M_t hM, Option.bind_some, M_tt hM (by omega), Option.bind_some]
  dsimp only
  rw [CV_t cv o (by omega), farFrom_f cv (by omega) h1.1, Option.bind_some]
  dsimp only
  exact RQ_i (Fr_r _ _)
theorem re_far (rv : RV σ 0 A P X 0) {m o : Nat} (hma : m < A 1) (ho : o < A 1) : RQ (fun τ => Fr Wq (s2 σ 118 0 0) τ) w u (nI (fa X m o)) (f_X11_far 118 (nI m) (nI o) (mk σ w u)) := by
  have t0 : (s2 σ 118 0 0) 118 0 = nI 0 := by rw [s2_at rfl rfl]; rfl
  have rv0 : RV (s2 σ 118 0 0) 0 A P X 0 := RV_F rv (Fr_s (W := fun q k => q = 118 ∧ k = 0) ⟨rfl, rfl⟩) (fun q k e => by omega)
  have tm := rv0.2.1.1.2.1; have tr := rv0.2.1.1.2.2.1; have tb := rv0.2.1.1.1; have hB1 := rv.2.2.2.2.1.1; have hB2 := rv.2.2.2.2.1.2.1; have hM8 := rv.2.2.2.2.1.2.2.1; have hR8 := rv.2.2.2.2.1.2.2.2.1; have hS12 := rv.2.2.2.2.1.2.2.2.2.1; have hT := RV_b rv
  unfold f_X11_far
  rw [zg118, zw118_0, Option.bind_some]
  rw [show f_X11_isMan 118 (nI m) (mk (s2 σ 118 0 0) w u) = some (nI 1, mk (s2 σ 118 0 0) w u) from isMan_1 tm (by omega) hma t0, Option.bind_some]
  dsimp only
  rw [if_neg (show ¬ nI 1 = 0 by decide)]
  rw [show f_X11_isMan 118 (nI o) (mk (s2 σ 118 0 0) w u) = some (nI 1, mk (s2 σ 118 0 0) w u) from isMan_1 tm (by omega) ho t0, Option.bind_some]
  dsimp only
  rw [if_neg (show ¬ nI 1 = 0 by decide)]
  rw [farOf_R rv0 (by omega) (by omega), Option.bind_some]
  unfold f_X11_far_31
  dsimp only
  exact RQ_i (Fr_r _ _)
theorem cl_nearest (cv : CV σ 34 A P X) : RQ (Fr Ws σ) w u (nJ (ne1 X (A 1) (A 1)).2) (f_X10_nearest 0 (mk σ w u)) := by
  have cv0 := cv
  have hM := CV_M cv; have hT := CV_b cv; have cv2 := cv; obtain ⟨hm, ⟨⟨hA0, hA1, hA2, hA3, hA4⟩, hA7, hrl, hrn, hrc⟩, ⟨hN, hX⟩, ⟨hB1, hB2, hM8, hR8, hS12, hnm, hmd⟩, ⟨hN2, hW, hD⟩, hP⟩ := cv2
  unfold f_X10_nearest
  rw [zg0]
  unfold l_X10_nearest_7
  refine lp_S (RQ (Fr Ws σ) w u (nJ (ne1 X (A 1) (A 1)).2)) (fun i τ => (0, nI (ne1 X (A 1) i).1, nJ (ne1 X (A 1) i).2, nI i, mk τ w u)) (fun i τ => τ = σ) (A 1) ?_ ?_ (A 1) 0 _ σ (by omega) (by omega) rfl
  · intro i hi k τ e hk
    subst e
    have hK := ne1_K (X := X) (M := A 1) (n := i) hM8 (by omega)
    dsimp only at hk ⊢
    unfold f_X10_nearest_7
    rw [zr0_4, Option.bind_some, zi5_1, Option.bind_some, hA1, if_neg (nI_ge hi (by omega)), nI_1]
    unfold l_X10_nearest_23
    refine lp_S (RQ (Fr Ws τ) w u (nJ (ne1 X (A 1) (A 1)).2)) (fun j τ => (0, nI (ne2 X i (ne1 X (A 1) i) j).1, nJ (ne2 X i (ne1 X (A 1) i) j).2, nI i, nI (i + 1 + j), mk τ w u)) (fun j τ' => τ' = τ) (A 1 - (i + 1)) ?_ ?_ (A 1 - (i + 1)) 0 _ τ (by omega) (by omega) rfl
    · intro j hj k2 τ' e hk2
      subst e
      have hK2 := ne2_K (X := X) (i := i) (n := j) hK (by omega) (by omega)
      have hK3 := hK2.2.1
      have hK4 := hK2.2.2
      have h1 := hT i (by omega)
      have h2 := hT (i + 1 + j) (by omega)
      have h3 := fa_le X i (i + 1 + j)
      have h := hk2 τ' rfl
      dsimp only at h ⊢
      rw [ne2_S] at h
      by_cases c : (ne2 X i (ne1 X (A 1) i) j).1 ≤ fa X i (i + 1 + j)
      · rw [if_pos c] at h
        simp (disch := omega) only [f_X10_nearest_23, f_X10_nearest_74, l0, l1, l2, l3, l4, l5, l6, l7, l8, l9, l10, l11, l12, l13, l14, l15, l16, l17, l18, l19, l20, l21, l22, l23, l24, l25, l33, l34, l40, l42, l50, l58, l99, l100, l700, l999, l4095, l9999, l10000, x_neg1, nI_add, x_pred, x_m1, x_J1, pk_sub, nJ_pos, Nat.add_sub_cancel, nI_leI, nI_ltI, nI_eq, q_leJ, q_Jle, q_ltJ, q_Jlt, q_eqJ, q_Jeq, q_JJ, q_JJle, q_JJlt, Option.bind_some, if_pos, if_neg, ↓reduceIte, zr0_4, zr0_8, zi5_1, hA1, M_t hM, M_tt hM, CV_t cv, farFrom_f cv, show pc (X (1 + i) ^^^ X (1 + (i + 1 + j))) 12 = fa X i (i + 1 + j) from rfl]
        exact h
      · rw [if_neg c, nJ_S] at h
        simp (disch := omega) only [f_X10_nearest_23, f_X10_nearest_74, l0, l1, l2, l3, l4, l5, l6, l7, l8, l9, l10, l11, l12, l13, l14, l15, l16, l17, l18, l19, l20, l21, l22, l23, l24, l25, l33, l34, l40, l42, l50, l58, l99, l100, l700, l999, l4095, l9999, l10000, x_neg1, nI_add, x_pred, x_m1, x_J1, pk_sub, nJ_pos, Nat.add_sub_cancel, nI_leI, nI_ltI, nI_eq, q_leJ, q_Jle, q_ltJ, q_Jlt, q_eqJ, q_Jeq, q_JJ, q_JJle, q_JJlt, Option.bind_some, if_pos, if_neg, ↓reduceIte, pk_mul, zr0_4, zr0_8, zi5_1, hA1, M_t hM, M_tt hM, CV_t cv, farFrom_f cv, show pc (X (1 + i) ^^^ X (1 + (i + 1 + j))) 12 = fa X i (i + 1 + j) from rfl]
        exact h
    · intro k2 τ' e
      subst e
      have h := hk τ' rfl
      dsimp only at h ⊢
      simp (disch := omega) only [f_X10_nearest_23, f_X10_nearest_80, l0, l1, l2, l3, l4, l5, l6, l7, l8, l9, l10, l11, l12, l13, l14, l15, l16, l17, l18, l19, l20, l21, l22, l23, l24, l25, l33, l34, l40, l42, l50, l58, l99, l100, l700, l999, l4095, l9999, l10000, x_neg1, nI_add, x_pred, x_m1, x_J1, pk_sub, nJ_pos, Nat.add_sub_cancel, nI_leI, nI_ltI, nI_eq, q_leJ, q_Jle, q_ltJ, q_Jlt, q_eqJ, q_Jeq, q_JJ, q_JJle, q_JJlt, Option.bind_some, if_pos, if_neg, ↓reduceIte, zr0_4, zi5_1, hA1]
      exact h
  · intro k τ e
    subst e
    dsimp only
    unfold f_X10_nearest_7
    rw [zr0_4, Option.bind_some, zi5_1, Option.bind_some, hA1, if_pos (nI_le (Nat.le_refl _) (by omega))]
    exact RQ_i (Fr_r _ _)
theorem re_nearest (rv : RV σ 0 A P X 0) : RQ (fun τ => Fr Wq (s2 σ 118 0 0) τ) w u (nJ (ne1 X (A 1) (A 1)).2) (f_X11_nearest 118 (mk σ w u)) := by
  have t0 : (s2 σ 118 0 0) 118 0 = nI 0 := by rw [s2_at rfl rfl]; rfl
  have rv0 : RV (s2 σ 118 0 0) 0 A P X 0 := RV_F rv (Fr_s (W := fun q k => q = 118 ∧ k = 0) ⟨rfl, rfl⟩) (fun q k e => by omega)
  have tm := rv0.2.1.1.2.1; have tr := rv0.2.1.1.2.2.1; have tb := rv0.2.1.1.1; have hB1 := rv.2.2.2.2.1.1; have hB2 := rv.2.2.2.2.1.2.1; have hM8 := rv.2.2.2.2.1.2.2.1; have hR8 := rv.2.2.2.2.1.2.2.2.1; have hS12 := rv.2.2.2.2.1.2.2.2.2.1; have hT := RV_b rv
  unfold f_X11_nearest
  rw [zg118, zw118_0, Option.bind_some]
  unfold l_X11_nearest_13
  refine lp_S (RQ (fun τ => Fr Wq (s2 σ 118 0 0) τ) w u (nJ (ne1 X (A 1) (A 1)).2)) (fun i τ => (118, nJ (ne1 X (A 1) i).2, nI (ne3 (ne1 X (A 1) i)), nI i, mk τ w u)) (fun i τ => τ = s2 σ 118 0 0) (A 1) ?_ ?_ (A 1) 0 _ _ (by omega) (by omega) rfl
  · intro i hi k τ e hk
    rw [← e] at rv0 tm
    have hK := ne1_K (X := X) (M := A 1) (n := i) hM8 (by omega)
    dsimp only at hk ⊢
    unfold f_X11_nearest_13
    rw [zi118_2, Option.bind_some, tm, if_neg (nI_ge hi (by omega)), nI_1]
    unfold l_X11_nearest_26
    refine lp_S (RQ (fun τ => Fr Wq (s2 σ 118 0 0) τ) w u (nJ (ne1 X (A 1) (A 1)).2)) (fun j τ => (118, nJ (ne2 X i (ne1 X (A 1) i) j).2, nI (ne3 (ne2 X i (ne1 X (A 1) i) j)), nI i, nI (i + 1 + j), mk τ w u)) (fun j τ' => τ' = τ) (A 1 - (i + 1)) ?_ ?_ (A 1 - (i + 1)) 0 _ τ (by omega) (by omega) rfl
    · intro j hj k2 τ' e2 hk2
      subst e2
      have hK2 := ne2_K (X := X) (i := i) (n := j) hK (by omega) (by omega)
      have h3 := fa_le X i (i + 1 + j)
      have h4 : ne3 (ne2 X i (ne1 X (A 1) i) j) < 100000 := by
        have := hK2.2.1
        unfold ne3
        split <;> omega
      have h := hk2 τ' rfl
      dsimp only at h ⊢
      rw [ne2_S] at h
      by_cases c : (ne2 X i (ne1 X (A 1) i) j).1 ≤ fa X i (i + 1 + j)
      · rw [if_pos c] at h
        have c2 : ne3 (ne2 X i (ne1 X (A 1) i) j) ≤ fa X i (i + 1 + j) := by
          have := hK2.1
          unfold ne3
          split
          · next e => have := this e; omega
          · exact c
        simp (disch := omega) only [f_X11_nearest_26, f_X11_nearest_65, l0, l1, l2, l3, l4, l5, l6, l7, l8, l9, l10, l11, l12, l13, l14, l15, l16, l17, l18, l19, l20, l21, l22, l23, l24, l25, l33, l34, l40, l42, l50, l58, l99, l100, l700, l999, l4095, l9999, l10000, x_neg1, nI_add, x_pred, x_m1, x_J1, pk_sub, nJ_pos, Nat.add_sub_cancel, nI_leI, nI_ltI, nI_eq, q_leJ, q_Jle, q_ltJ, q_Jlt, q_eqJ, q_Jeq, q_JJ, q_JJle, q_JJlt, Option.bind_some, if_pos, if_neg, ↓reduceIte, zi118_2, tm, farOf_R rv0]
        exact h
      · rw [if_neg c, nJ_S] at h
        have c2 : ¬ ne3 (ne2 X i (ne1 X (A 1) i) j) ≤ fa X i (i + 1 + j) := by
          unfold ne3
          split
          · omega
          · exact c
        have e3 : ne3 (fa X i (i + 1 + j), 10 * i + (i + 1 + j) + 1) = fa X i (i + 1 + j) := by
          unfold ne3
          rw [if_neg (by dsimp only; omega)]
        rw [e3] at h
        simp (disch := omega) only [f_X11_nearest_26, f_X11_nearest_65, l0, l1, l2, l3, l4, l5, l6, l7, l8, l9, l10, l11, l12, l13, l14, l15, l16, l17, l18, l19, l20, l21, l22, l23, l24, l25, l33, l34, l40, l42, l50, l58, l99, l100, l700, l999, l4095, l9999, l10000, x_neg1, nI_add, x_pred, x_m1, x_J1, pk_sub, nJ_pos, Nat.add_sub_cancel, nI_leI, nI_ltI, nI_eq, q_leJ, q_Jle, q_ltJ, q_Jlt, q_eqJ, q_Jeq, q_JJ, q_JJle, q_JJlt, Option.bind_some, if_pos, if_neg, ↓reduceIte, pk_mul, zi118_2, tm, farOf_R rv0]
        exact h
    · intro k2 τ' e2
      subst e2
      have h := hk τ' e
      dsimp only at h ⊢
      simp (disch := omega) only [f_X11_nearest_26, f_X11_nearest_71, l0, l1, l2, l3, l4, l5, l6, l7, l8, l9, l10, l11, l12, l13, l14, l15, l16, l17, l18, l19, l20, l21, l22, l23, l24, l25, l33, l34, l40, l42, l50, l58, l99, l100, l700, l999, l4095, l9999, l10000, x_neg1, nI_add, x_pred, x_m1, x_J1, pk_sub, nJ_pos, Nat.add_sub_cancel, nI_leI, nI_ltI, nI_eq, q_leJ, q_Jle, q_ltJ, q_Jlt, q_eqJ, q_Jeq, q_JJ, q_JJle, q_JJlt, Option.bind_some, if_pos, if_neg, ↓reduceIte, zi118_2, tm]
      exact h
  · intro k τ e
    rw [← e] at tm
    dsimp only
    unfold f_X11_nearest_13
    rw [zi118_2, Option.bind_some, tm, if_pos (nI_le (Nat.le_refl _) (by omega)), e]
    exact RQ_i (Fr_r _ _)
theorem cl_apart (cv : CV σ 34 A P X) {n : Nat} (hn1 : 1 ≤ n) (hn : n ≤ 12) : RQ (Fr Ws σ) w u (nI (ap X (A 1) n (2 ^ A 1))) (f_X10_apart 0 (nI n) (mk σ w u)) := by
  have hp := Nat.two_pow_pos (A 1)
  have hM := CV_M cv; have hT := CV_b cv; have cv2 := cv; obtain ⟨hm, ⟨⟨hA0, hA1, hA2, hA3, hA4⟩, hA7, hrl, hrn, hrc⟩, ⟨hN, hX⟩, ⟨hB1, hB2, hM8, hR8, hS12, hnm, hmd⟩, ⟨hN2, hW, hD⟩, hP⟩ := cv2
  have h2 : 2 ^ A 1 ≤ 2 ^ 8 := Nat.pow_le_pow_right (by decide) hM8
  unfold f_X10_apart
  rw [zg0]
  rw [show f_X10_needWithin (nI n) 1 12 (mk σ w u) = some (mk σ w u) from needWithin_f (a := 1) (b := 12) (by omega) (by omega) (by decide), Option.bind_some]
  unfold l_X10_apart_11
  refine lp_S (RQ (Fr Ws σ) w u (nI (ap X (A 1) n (2 ^ A 1)))) (fun i τ => (0, nI n, nI (ap X (A 1) n (1 + i)), nI (1 + i), mk τ w u)) (fun i τ => τ = σ) (2 ^ A 1 - 1) ?_ ?_ (2 ^ A 1 - 1) 0 _ σ (by omega) (by omega) rfl
  · intro i hi k τ e hk
    subst e
    have h3 := ap_le X (A 1) n (1 + i)
    have h4 := pc_le (1 + i) 12
    have h5 := pc_le (ap X (A 1) n (1 + i)) 12
    have h := hk τ rfl
    dsimp only at h ⊢
    rw [show 1 + (i + 1) = 1 + i + 1 by omega, ap_S] at h
    by_cases c : pc (1 + i) 12 ≤ pc (ap X (A 1) n (1 + i)) 12
    · rw [if_pos c] at h
      simp (disch := omega) only [f_X10_apart_11, f_X10_apart_47, l0, l1, l2, l3, l4, l5, l6, l7, l8, l9, l10, l11, l12, l13, l14, l15, l16, l17, l18, l19, l20, l21, l22, l23, l24, l25, l33, l34, l40, l42, l50, l58, l99, l100, l700, l999, l4095, l9999, l10000, x_neg1, nI_add, x_pred, x_m1, x_J1, pk_sub, nJ_pos, Nat.add_sub_cancel, nI_leI, nI_ltI, nI_eq, q_leJ, q_Jle, q_ltJ, q_Jlt, q_eqJ, q_Jeq, q_JJ, q_JJle, q_JJlt, Option.bind_some, if_pos, if_neg, ↓reduceIte, zr0_4, allMen_f cv, bitCount_f, bc_nI]
      exact h
    · rw [if_neg c] at h
      obtain ⟨r, hr, e5⟩ := isToldApart_f (w := w) (u := u) cv (set := 1 + i) (beats := n) (by omega) (by omega)
      rcases hr with ⟨hr1, ht⟩ | ⟨hr1, ht⟩
      · rw [tz_1 ht, if_neg (by decide)] at h
        subst hr1
        simp (disch := omega) only [f_X10_apart_11, f_X10_apart_47, l0, l1, l2, l3, l4, l5, l6, l7, l8, l9, l10, l11, l12, l13, l14, l15, l16, l17, l18, l19, l20, l21, l22, l23, l24, l25, l33, l34, l40, l42, l50, l58, l99, l100, l700, l999, l4095, l9999, l10000, x_neg1, nI_add, x_pred, x_m1, x_J1, pk_sub, nJ_pos, Nat.add_sub_cancel, nI_leI, nI_ltI, nI_eq, q_leJ, q_Jle, q_ltJ, q_Jlt, q_eqJ, q_Jeq, q_JJ, q_JJle, q_JJlt, Option.bind_some, if_pos, if_neg, ↓reduceIte, zr0_4, zr0_8, allMen_f cv, bitCount_f, bc_nI, e5]
        exact h
      · rw [tz_0 ht, if_pos rfl] at h
        subst hr1
        simp (disch := omega) only [f_X10_apart_11, f_X10_apart_47, l0, l1, l2, l3, l4, l5, l6, l7, l8, l9, l10, l11, l12, l13, l14, l15, l16, l17, l18, l19, l20, l21, l22, l23, l24, l25, l33, l34, l40, l42, l50, l58, l99, l100, l700, l999, l4095, l9999, l10000, x_neg1, nI_add, x_pred, x_m1, x_J1, pk_sub, nJ_pos, Nat.add_sub_cancel, nI_leI, nI_ltI, nI_eq, q_leJ, q_Jle, q_ltJ, q_Jlt, q_eqJ, q_Jeq, q_JJ, q_JJle, q_JJlt, Option.bind_some, if_pos, if_neg, ↓reduceIte, zr0_4, zr0_8, allMen_f cv, bitCount_f, bc_nI, e5]
        exact h
  · intro k τ e
    subst e
    dsimp only
    rw [show 1 + (2 ^ A 1 - 1) = 2 ^ A 1 by omega]
    simp (disch := omega) only [f_X10_apart_11, f_X10_apart_53, l0, l1, l2, l3, l4, l5, l6, l7, l8, l9, l10, l11, l12, l13, l14, l15, l16, l17, l18, l19, l20, l21, l22, l23, l24, l25, l33, l34, l40, l42, l50, l58, l99, l100, l700, l999, l4095, l9999, l10000, x_neg1, nI_add, x_pred, x_m1, x_J1, pk_sub, nJ_pos, Nat.add_sub_cancel, nI_leI, nI_ltI, nI_eq, q_leJ, q_Jle, q_ltJ, q_Jlt, q_eqJ, q_Jeq, q_JJ, q_JJle, q_JJlt, Option.bind_some, if_pos, if_neg, ↓reduceIte, zr0_4, allMen_f cv]
    exact RQ_i (Fr_r _ _)
end OD
section OE
variable {σ : Nat → Nat → Int32} {w u : Int64} {A X Z : Nat → Nat} {P : List (Nat × Nat)} {b om : Nat}
theorem re_apart (rv : RV σ 0 A P X 0) {n : Nat} (hn1 : 1 ≤ n) (hn : n ≤ 12) : RQ (fun τ => Fr Wq (s2 σ 118 0 0) τ) w u (nI (ap X (A 1) n (2 ^ A 1))) (f_X11_apart 118 (nI n) (mk σ w u)) := by
  have t0 : (s2 σ 118 0 0) 118 0 = nI 0 := by rw [s2_at rfl rfl]; rfl
  have rv0 : RV (s2 σ 118 0 0) 0 A P X 0 := RV_F rv (Fr_s (W := fun q k => q = 118 ∧ k = 0) ⟨rfl, rfl⟩) (fun q k e => by omega)
  have tm := rv0.2.1.1.2.1; have tr := rv0.2.1.1.2.2.1; have tb := rv0.2.1.1.1; have hB1 := rv.2.2.2.2.1.1; have hB2 := rv.2.2.2.2.1.2.1; have hM8 := rv.2.2.2.2.1.2.2.1; have hR8 := rv.2.2.2.2.1.2.2.2.1; have hS12 := rv.2.2.2.2.1.2.2.2.2.1; have hT := RV_b rv
  have hp := Nat.two_pow_pos (A 1)
  have h2 : 2 ^ A 1 ≤ 2 ^ 8 := Nat.pow_le_pow_right (by decide) hM8
  unfold f_X11_apart
  rw [zg118, zw118_0, Option.bind_some, show f_X11_within (nI n) 1 12 (mk (s2 σ 118 0 0) w u) = some (nI 1, mk (s2 σ 118 0 0) w u) from within_1 (a := 1) (b := 12) hn1 hn (by decide) _, Option.bind_some]
  dsimp only
  rw [right_1 t0, Option.bind_some]
  dsimp only
  rw [if_neg (show ¬ nI 1 = 0 by decide)]
  have e5 : (1 : Int32) <<< (nI (A 1) &&& 31) = nI (2 ^ A 1) := x_one (by omega)
  unfold l_X11_apart_26
  refine lp_S (RQ (fun τ => Fr Wq (s2 σ 118 0 0) τ) w u (nI (ap X (A 1) n (2 ^ A 1)))) (fun i τ => (118, nI n, nI (ap X (A 1) n i), nI i, mk τ w u)) (fun i τ => τ = s2 σ 118 0 0) (2 ^ A 1) ?_ ?_ (2 ^ A 1) 0 _ _ (by omega) (by omega) rfl
  · intro i hi k τ e hk
    rw [← e] at rv0 tm
    have h3 := ap_le X (A 1) n i
    have h4 := pc_le i 12
    have h5 := pc_le (ap X (A 1) n i) 12
    have h := hk τ e
    dsimp only at h ⊢
    rw [ap_S] at h
    unfold f_X11_apart_26
    rw [zi118_2, Option.bind_some, tm, e5, if_neg (nI_ge hi (by omega)), bits_f (by omega), Option.bind_some]
    dsimp only
    rw [bits_f (by omega), Option.bind_some]
    dsimp only
    by_cases c : pc i 12 ≤ pc (ap X (A 1) n i) 12
    · rw [if_pos c] at h
      rw [if_neg (nI_nlt c (by omega))]
      unfold f_X11_apart_141
      rw [nI_1]
      exact h
    · rw [if_neg c] at h
      rw [if_pos (nI_lt (by omega) (by omega))]
      unfold l_X11_apart_56
      have key : ∀ r, ((r = 1 ∧ ta X (A 1) i n) ∨ (r = 0 ∧ ¬ ta X (A 1) i n)) → RQ (fun τ => Fr Wq (s2 σ 118 0 0) τ) w u (nI (ap X (A 1) n (2 ^ A 1))) (f_X11_apart_130 (fun a0 a1 a2 a3 a4 => k (a0, a1, a2, a3, a4)) 118 (nI n) (nI (ap X (A 1) n i)) (nI i) (nI r) (mk τ w u)) := fun r hr => by
        unfold f_X11_apart_130 f_X11_apart_140 f_X11_apart_141
        rw [nI_1]
        rcases hr with ⟨hr1, ht⟩ | ⟨hr1, ht⟩
        · rw [tz_1 ht, if_neg (by decide)] at h
          rw [hr1, if_neg (by decide)]
          exact h
        · rw [tz_0 ht, if_pos rfl] at h
          rw [hr1, if_pos (by decide)]
          exact h
      refine lp_G (RQ (fun τ => Fr Wq (s2 σ 118 0 0) τ) w u (nI (ap X (A 1) n (2 ^ A 1)))) (fun m s => ∃ r, s = (118, nI n, nI (ap X (A 1) n i), nI i, nI r, nI m, mk τ w u) ∧ ((r = 1 ∧ ∀ a b, a < b → b < m → bt i a = 1 → bt i b = 1 → n ≤ fa X a b) ∨ (r = 0 ∧ ¬ ta X (A 1) i n))) (A 1) ?_ ?_ (A 1) 0 100000 (118, nI n, nI (ap X (A 1) n i), nI i, 1, 0, mk τ w u) (by omega) (by omega) ⟨1, rfl, Or.inl ⟨rfl, fun a b _ hb => by omega⟩⟩
      · intro m hm K s ⟨r, e6, hr⟩ hK
        subst e6
        dsimp only
        unfold f_X11_apart_56
        rw [zi118_2, Option.bind_some, tm, if_neg (nI_ge hm (by omega))]
        rcases hr with ⟨hr1, ht⟩ | ⟨hr1, ht⟩
        · subst hr1
          rw [if_neg (show ¬ nI 1 = 0 by decide)]
          unfold l_X11_apart_73
          refine lp_G (RQ (fun τ => Fr Wq (s2 σ 118 0 0) τ) w u (nI (ap X (A 1) n (2 ^ A 1)))) (fun o s => ∃ r, s = (118, nI n, nI (ap X (A 1) n i), nI i, nI r, nI m, nI o, mk τ w u) ∧ ((r = 1 ∧ ∀ a b, a < b → (b < m ∨ (b = m ∧ a < o)) → bt i a = 1 → bt i b = 1 → n ≤ fa X a b) ∨ (r = 0 ∧ ¬ ta X (A 1) i n))) m ?_ ?_ m 0 100000 (118, nI n, nI (ap X (A 1) n i), nI i, nI 1, nI m, 0, mk τ w u) (by omega) (by omega) ⟨1, rfl, Or.inl ⟨rfl, fun a b h1 h2 => ht a b h1 (by omega)⟩⟩
          · intro o ho K2 s ⟨r, e6, hr⟩ hK2
            subst e6
            dsimp only
            unfold f_X11_apart_73
            rw [if_neg (nI_ge ho (by omega))]
            rcases hr with ⟨hr1, ht⟩ | ⟨hr1, ht⟩
            · subst hr1
              have b1 := bt_lt i m
              have b2 := bt_lt i o
              have b3 : bt i m * bt i o < 2 := by
                rcases (show bt i m = 0 ∨ bt i m = 1 by omega) with e | e <;> rw [e] <;> omega
              have hf := fa_le X m o
              rw [if_neg (show ¬ nI 1 = 0 by decide), show (1 : Int32) = nI 1 from rfl, bit2 (by omega) (by omega) (by omega)]
              by_cases c2 : bt i m * bt i o = 0
              · rw [c2, if_pos (show nI 0 = 0 by decide)]
                unfold f_X11_apart_111 f_X11_apart_116
                rw [nI_1]
                refine hK2 _ ⟨1, rfl, Or.inl ⟨rfl, fun a b h1 h2 h3 h4 => ?_⟩⟩
                by_cases e : b = m ∧ a = o
                · rw [e.1] at h4; rw [e.2] at h3; rw [h3, h4] at c2; omega
                · exact ht a b h1 (by omega) h3 h4
              · rw [if_neg (nI_ne0 (by omega) (by omega)), farOf_R rv0 (by omega) (by omega), Option.bind_some]
                dsimp only
                have b4 : bt i m = 1 := by
                  rcases (show bt i m = 0 ∨ bt i m = 1 by omega) with e | e
                  · rw [e] at c2; omega
                  · exact e
                have b5 : bt i o = 1 := by
                  rcases (show bt i o = 0 ∨ bt i o = 1 by omega) with e | e
                  · rw [e, Nat.mul_zero] at c2; omega
                  · exact e
                by_cases c3 : fa X m o < n
                · rw [if_pos (nI_lt c3 (by omega))]
                  unfold f_X11_apart_115 f_X11_apart_116
                  rw [nI_1]
                  exact hK2 _ ⟨0, rfl, Or.inr ⟨rfl, fun h => by have := h o m ho hm b5 b4; rw [fa_s] at this; omega⟩⟩
                · rw [if_neg (nI_nlt (by omega) (by omega))]
                  unfold f_X11_apart_111 f_X11_apart_116
                  rw [nI_1]
                  refine hK2 _ ⟨1, rfl, Or.inl ⟨rfl, fun a b h1 h2 h3 h4 => ?_⟩⟩
                  by_cases e : b = m ∧ a = o
                  · rw [e.1, e.2, fa_s]; omega
                  · exact ht a b h1 (by omega) h3 h4
            · subst hr1
              rw [if_pos (show nI 0 = 0 by decide)]
              unfold f_X11_apart_115 f_X11_apart_116
              rw [nI_1]
              exact hK2 _ ⟨0, rfl, Or.inr ⟨rfl, ht⟩⟩
          · intro K2 s ⟨r, e6, hr⟩
            subst e6
            dsimp only
            unfold f_X11_apart_73
            rw [if_pos (nI_le (Nat.le_refl _) (by omega))]
            unfold f_X11_apart_124
            rw [nI_1]
            refine hK _ ⟨r, rfl, ?_⟩
            rcases hr with ⟨hr1, ht⟩ | hr
            · exact Or.inl ⟨hr1, fun a b h1 h2 => ht a b h1 (by omega)⟩
            · exact Or.inr hr
        · subst hr1
          rw [if_pos (show nI 0 = 0 by decide)]
          exact key 0 (Or.inr ⟨rfl, ht⟩)
      · intro K s ⟨r, e6, hr⟩
        subst e6
        dsimp only
        unfold f_X11_apart_56
        rw [zi118_2, Option.bind_some, tm, if_pos (nI_le (Nat.le_refl _) (by omega))]
        exact key r hr
  · intro k τ e
    rw [← e] at tm
    dsimp only
    unfold f_X11_apart_26
    rw [zi118_2, Option.bind_some, tm, e5, if_pos (nI_le (Nat.le_refl _) (by omega)), e]
    exact RQ_i (Fr_r _ _)
theorem cl_tread (cv : CV σ 34 A P X) {q : Nat} (hq : q ≤ 1) : RQ (Fr Ws σ) w u (if A 1 = 0 then nJ 0 else if q = 0 then nJ (trd X (A 1) (2 ^ A 0)).2 else nI (trd X (A 1) (2 ^ A 0)).1) (f_X10_tread 0 (nI q) (mk σ w u)) := by
  have hp := Nat.two_pow_pos (A 0)
  have hM := CV_M cv; have hT := CV_b cv; have cv2 := cv; obtain ⟨hm, ⟨⟨hA0, hA1, hA2, hA3, hA4⟩, hA7, hrl, hrn, hrc⟩, ⟨hN, hX⟩, ⟨hB1, hB2, hM8, hR8, hS12, hnm, hmd⟩, ⟨hN2, hW, hD⟩, hP⟩ := cv2
  have h2 : 2 ^ A 0 ≤ 2 ^ 12 := Nat.pow_le_pow_right (by decide) hB2
  unfold f_X10_tread
  rw [zg0]
  rw [show f_X10_needWhat (nI q) 1 (mk σ w u) = some (mk σ w u) from needWhat_f (b := 1) hq (by decide), Option.bind_some]
  rw [zr0_4, Option.bind_some, zi5_1, Option.bind_some, hA1]
  by_cases h0 : A 1 = 0
  · rw [if_pos h0, h0, if_pos (show nI 0 = 0 by decide)]
    exact RQ_i (Fr_r _ _)
  · rw [if_neg h0, if_neg (nI_ne0 (by omega) (by omega)), zr0_8, Option.bind_some, show (0 : Int32) = nI 0 from rfl, leastFar_f cv (by omega), Option.bind_some]
    dsimp only
    unfold l_X10_tread_31
    have e1 : trd X (A 1) (1 + 0) = (0, lf X 0 (A 1) + 1) := by
      show trd X (A 1) (0 + 1) = _
      rw [trd_S]
      exact if_neg (by show ¬ lf X 0 (A 1) + 1 ≤ 0; omega)
    have e2 : nI (lf X 0 (A 1)) = nJ (trd X (A 1) (1 + 0)).2 := by rw [e1]; exact (nJ_S _).symm
    have e3 : nI 0 = nI (trd X (A 1) (1 + 0)).1 := by rw [e1]
    obtain ⟨V, hV⟩ : ∃ V, V = (if q = 0 then nJ (trd X (A 1) (2 ^ A 0)).2 else nI (trd X (A 1) (2 ^ A 0)).1) := ⟨_, rfl⟩
    rw [← hV, e2, e3]
    refine lp_S (RQ (Fr Ws σ) w u V) (fun i τ => (0, nI q, nI (trd X (A 1) (1 + i)).1, nJ (trd X (A 1) (1 + i)).2, nI (1 + i), mk τ w u)) (fun i τ => τ = σ) (2 ^ A 0 - 1) ?_ ?_ (2 ^ A 0 - 1) 0 _ σ (by omega) (by omega) rfl
    · intro i hi k τ e hk
      subst e
      have h3 := trd_le X (A 1) (1 + i)
      have h4 := lf_le X (1 + i) (A 1)
      have h := hk τ rfl
      dsimp only at h ⊢
      rw [show 1 + (i + 1) = 1 + i + 1 by omega, trd_S] at h
      unfold f_X10_tread_31
      rw [zr0_4, Option.bind_some, allBeats_f cv, Option.bind_some]
      dsimp only
      rw [if_neg (nI_nlt (by omega) (by omega)), zr0_8, Option.bind_some, leastFar_f cv (by omega), Option.bind_some]
      dsimp only
      unfold f_X10_tread_66
      rw [nI_1]
      by_cases c : lf X (1 + i) (A 1) + 1 ≤ (trd X (A 1) (1 + i)).2
      · rw [if_pos c] at h
        rw [if_pos ((q_leJ (by omega) (by omega)).mpr c)]
        exact h
      · rw [if_neg c, nJ_S] at h
        rw [if_neg (fun e => c ((q_leJ (by omega) (by omega)).mp e))]
        exact h
    · intro k τ e
      subst e
      dsimp only
      rw [show 1 + (2 ^ A 0 - 1) = 2 ^ A 0 by omega]
      unfold f_X10_tread_31
      rw [zr0_4, Option.bind_some, allBeats_f cv, Option.bind_some]
      dsimp only
      rw [if_pos (nI_lt (by omega) (by omega))]
      unfold f_X10_tread_72 f_X10_tread_81
      by_cases c : q = 0
      · rw [if_pos c] at hV
        rw [c, if_pos (by decide), hV]
        exact RQ_i (Fr_r _ _)
      · rw [if_neg c] at hV
        rw [if_neg (nI_ne0 (by omega) (by omega)), hV]
        exact RQ_i (Fr_r _ _)
theorem re_tread (rv : RV σ 0 A P X 0) {q : Nat} (hq : q ≤ 1) : RQ (fun τ => Fr Wq (s2 σ 118 0 0) τ) w u (if A 1 = 0 then nJ 0 else if q = 0 then nJ (trd X (A 1) (2 ^ A 0)).2 else nI (trd X (A 1) (2 ^ A 0)).1) (f_X11_tread 118 (nI q) (mk σ w u)) := by
  have t0 : (s2 σ 118 0 0) 118 0 = nI 0 := by rw [s2_at rfl rfl]; rfl
  have rv0 : RV (s2 σ 118 0 0) 0 A P X 0 := RV_F rv (Fr_s (W := fun q k => q = 118 ∧ k = 0) ⟨rfl, rfl⟩) (fun q k e => by omega)
  have tm := rv0.2.1.1.2.1; have tr := rv0.2.1.1.2.2.1; have tb := rv0.2.1.1.1; have hB1 := rv.2.2.2.2.1.1; have hB2 := rv.2.2.2.2.1.2.1; have hM8 := rv.2.2.2.2.1.2.2.1; have hR8 := rv.2.2.2.2.1.2.2.2.1; have hS12 := rv.2.2.2.2.1.2.2.2.2.1; have hT := RV_b rv
  have hp := Nat.two_pow_pos (A 0)
  have h2 : 2 ^ A 0 ≤ 2 ^ 12 := Nat.pow_le_pow_right (by decide) hB2
  unfold f_X11_tread
  rw [zg118, zw118_0, Option.bind_some]
  rw [show f_X11_isWhat 118 (nI q) 1 (mk (s2 σ 118 0 0) w u) = some (nI 1, mk (s2 σ 118 0 0) w u) from isWhat_1 (b := 1) hq (by decide) t0, Option.bind_some]
  dsimp only
  rw [if_neg (show ¬ nI 1 = 0 by decide)]
  rw [zi118_2, Option.bind_some, tm]
  by_cases h0 : A 1 = 0
  · rw [if_pos h0, h0, if_pos (show nI 0 = 0 by decide)]
    exact RQ_i (Fr_r _ _)
  · rw [if_neg h0, if_neg (nI_ne0 (by omega) (by omega))]
    have e5 : (1 : Int32) <<< (nI (A 0) &&& 31) = nI (2 ^ A 0) := x_one (by omega)
    obtain ⟨V, hV⟩ : ∃ V, V = (if q = 0 then nJ (trd X (A 1) (2 ^ A 0)).2 else nI (trd X (A 1) (2 ^ A 0)).1) := ⟨_, rfl⟩
    rw [← hV]
    unfold l_X11_tread_32
    refine lp_S (RQ (fun τ => Fr Wq (s2 σ 118 0 0) τ) w u V) (fun i τ => (118, nI q, nI (trd X (A 1) i).1, nJ (trd X (A 1) i).2, nI i, mk τ w u)) (fun i τ => τ = s2 σ 118 0 0) (2 ^ A 0) ?_ ?_ (2 ^ A 0) 0 _ _ (by omega) (by omega) rfl
    · intro i hi k τ e hk
      rw [← e] at rv0 tm tb
      have h3 := trd_le X (A 1) i
      have h4 := lf_le X i (A 1)
      have h := hk τ e
      dsimp only at h ⊢
      rw [trd_S] at h
      unfold f_X11_tread_32
      rw [zi118_1, Option.bind_some, tb, e5, if_neg (nI_ge hi (by omega))]
      unfold l_X11_tread_51
      refine lp_S (RQ (fun τ => Fr Wq (s2 σ 118 0 0) τ) w u V) (fun j τ => (118, nI q, nI (trd X (A 1) i).1, nJ (trd X (A 1) i).2, nI i, nI (lf9 X i j), nI j, mk τ w u)) (fun j τ' => τ' = τ) (A 1) ?_ ?_ (A 1) 0 _ τ (by omega) (by omega) rfl
      · intro j hj k2 τ' e2 hk2
        subst e2
        have h6 := hT j (by omega)
        have h7 := xr12 (a := i) (b := X (1 + j)) (by omega) h6.1
        have h8 := pc_le (i ^^^ X (1 + j)) 12
        have h9 : lf9 X i j ≤ 99999 := by
          have := lf_le X i j
          unfold lf9
          split <;> omega
        have h10 := hk2 τ' rfl
        have e6 := RV_0t rv0 j (by omega)
        dsimp only at h10 ⊢
        rw [lf9_S, Nat.xor_comm] at h10
        unfold f_X11_tread_51
        rw [zi118_2, Option.bind_some, tm, if_neg (nI_ge hj (by omega)), zr118_36, Option.bind_some, show (1 : Int32) + nI j = nI (1 + j) from nI_add 1 j, za128 (by omega), Option.bind_some, e6, x_xor, bits_f (by omega), Option.bind_some]
        dsimp only
        rw [lesser_f (by omega) (by omega), Option.bind_some]
        dsimp only
        rw [nI_1]
        exact h10
      · intro k2 τ' e2
        subst e2
        have e7 : lf9 X i (A 1) = lf X i (A 1) := by unfold lf9; rw [if_neg h0]
        dsimp only
        unfold f_X11_tread_51
        rw [zi118_2, Option.bind_some, tm, if_pos (nI_le (Nat.le_refl _) (by omega)), e7]
        unfold f_X11_tread_88 f_X11_tread_103
        rw [nI_1]
        by_cases c : lf X i (A 1) + 1 ≤ (trd X (A 1) i).2
        · rw [if_pos c] at h
          rw [if_neg (fun e => by rw [q_Jlt (by omega) (by omega)] at e; omega)]
          exact h
        · rw [if_neg c, nJ_S] at h
          rw [if_pos (by rw [q_Jlt (by omega) (by omega)]; omega)]
          exact h
    · intro k τ e
      rw [← e] at tb
      dsimp only
      unfold f_X11_tread_32
      rw [zi118_1, Option.bind_some, tb, e5, if_pos (nI_le (Nat.le_refl _) (by omega)), e]
      unfold f_X11_tread_109 f_X11_tread_118
      by_cases c : q = 0
      · rw [if_pos c] at hV
        rw [c, if_pos (by decide), hV]
        exact RQ_i (Fr_r _ _)
      · rw [if_neg c] at hV
        rw [if_neg (nI_ne0 (by omega) (by omega)), hV]
        exact RQ_i (Fr_r _ _)
end OE
