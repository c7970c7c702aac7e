/-! L3: observers of treads and sets: more -/
section OF
variable {σ : Nat → Nat → Int32} {w u : Int64} {A X Z : Nat → Nat} {P : List (Nat × Nat)} {b om : Nat}
theorem areBeats_1 (rv : RV σ 0 A P X om) (h0 : σ 118 0 = nI 0) {v : Nat} (hv : v < 2 ^ A 0) : f_X11_areBeats 118 (nI v) (mk σ w u) = some (nI 1, mk σ w u) := by
  have hB2 := rv.2.2.2.2.1.2.1
  have tb : σ 118 1 = nI (A 0) := rv.2.1.1.1
  have h2 : 2 ^ A 0 ≤ 2 ^ 12 := Nat.pow_le_pow_right (by decide) hB2
  have e5 : (1 : Int32) <<< (nI (A 0) &&& 31) = nI (2 ^ A 0) := x_one (by omega)
  unfold f_X11_areBeats f_X11_areBeats_20
  rw [zg118, if_neg (nI_pos (by omega)), zi118_1, Option.bind_some, tb, e5, if_neg (nI_ge hv (by omega)), show (1 : Int32) = nI 1 from rfl, right_1 h0, Option.bind_some]
  dsimp only
  rw [if_pos (by decide)]
theorem areBeats_0 (rv : RV σ 0 A P X om) (h0 : σ 118 0 = nI 0) {x : Int32} (hv : x < nI 0 ∨ (¬ x < nI 0 ∧ ¬ x ≤ nI (2 ^ A 0 - 1) ∧ nI (2 ^ A 0 - 1) < x)) : f_X11_areBeats 118 x (mk σ w u) = some (nI 0, mk (s2 σ 118 0 (nI 1)) w u) := by
  have hB2 := rv.2.2.2.2.1.2.1
  have tb : σ 118 1 = nI (A 0) := rv.2.1.1.1
  have hp := Nat.two_pow_pos (A 0)
  have h2 : 2 ^ A 0 ≤ 2 ^ 12 := Nat.pow_le_pow_right (by decide) hB2
  have e5 : (1 : Int32) <<< (nI (A 0) &&& 31) = nI (2 ^ A 0) := x_one (by omega)
  have e : f_X11_areBeats_19 118 (mk σ w u) = some (nI 0, mk (s2 σ 118 0 (nI 1)) w u) := by
    unfold f_X11_areBeats_19 f_X11_areBeats_20
    rw [show (0 : Int32) = nI 0 from rfl, show (1 : Int32) = nI 1 from rfl, right_0 (Or.inl rfl) h0, Option.bind_some]
    dsimp only
    rw [if_pos (by decide)]
  unfold f_X11_areBeats
  rw [zg118]
  rcases hv with h | ⟨h1, h3, -⟩
  · rw [if_pos (show x < 0 from h), e]
  · obtain ⟨j, hj, rfl⟩ := nI_of (x := x) h1
    rw [nI_leI hj (by omega)] at h3
    rw [if_neg (show ¬ nI j < 0 from h1), zi118_1, Option.bind_some, tb, e5, if_pos (nI_le (by omega) hj), e]
theorem cl_nextTo (cv : CV σ 34 A P X) {v : Nat} (hv : v ≤ 2 ^ A 0 - 1) : RQ (Fr Ws σ) w u (nJ (nmb A X v (A 1)).1) (f_X10_nextTo 0 (nI v) (mk σ w u)) := by
  have hB2 := cv.2.2.2.1.2.1
  have hp := Nat.two_pow_pos (A 0)
  have h2 : 2 ^ A 0 ≤ 2 ^ 12 := Nat.pow_le_pow_right (by decide) hB2
  unfold f_X10_nextTo
  rw [zg0, zr0_4, Option.bind_some, allBeats_f cv, Option.bind_some]
  dsimp only
  rw [show f_X10_needWithin (nI v) 0 (nI (2 ^ A 0 - 1)) (mk σ w u) = some (mk σ w u) from needWithin_f (a := 0) (Nat.zero_le _) hv (by omega), Option.bind_some, zr0_8, Option.bind_some, namedBy_f cv (by omega), Option.bind_some]
  dsimp only
  exact RQ_i (Fr_r _ _)
theorem re_nextTo (rv : RV σ 0 A P X 0) {v : Nat} (hv : v ≤ 2 ^ A 0 - 1) : RQ (fun τ => Fr Wq (s2 σ 118 0 0) τ) w u (nJ (nmb A X v (A 1)).1) (f_X11_nextTo 118 (nI v) (mk σ w u)) := by
  have t0 : (s2 σ 118 0 0) 118 0 = nI 0 := by rw [s2_at rfl rfl]; rfl
  have rv0 : RV (s2 σ 118 0 0) 0 A P X 0 := RV_F rv (Fr_s (W := fun q k => q = 118 ∧ k = 0) ⟨rfl, rfl⟩) (fun q k e => by omega)
  have tm := rv0.2.1.1.2.1; have tr := rv0.2.1.1.2.2.1; have tb := rv0.2.1.1.1; have hB1 := rv.2.2.2.2.1.1; have hB2 := rv.2.2.2.2.1.2.1; have hM8 := rv.2.2.2.2.1.2.2.1; have hR8 := rv.2.2.2.2.1.2.2.2.1; have hS12 := rv.2.2.2.2.1.2.2.2.2.1; have hT := RV_b rv
  have hp := Nat.two_pow_pos (A 0)
  have h2 : 2 ^ A 0 ≤ 2 ^ 12 := Nat.pow_le_pow_right (by decide) hB2
  unfold f_X11_nextTo
  rw [zg118, zw118_0, Option.bind_some, areBeats_1 rv0 t0 (by omega), Option.bind_some]
  dsimp only
  rw [if_neg (show ¬ nI 1 = 0 by decide), show (0 : Int32) = nI 0 from rfl]
  have e := nearestTo_f (w := w) (u := u) rv0 (h := v) (by omega)
  rw [show (s2 σ 118 0 (nI 0)) = s2 σ 118 0 0 from rfl, e, Option.bind_some]
  unfold f_X11_nextTo_23
  dsimp only
  exact RQ_i (Fr_r _ _)
theorem cl_alike (cv : CV σ 34 A P X) {v : Nat} (hv : v ≤ 2 ^ A 0 - 1) : RQ (Fr Ws σ) w u (nI (alk X v (lf X v (A 1)) (A 1))) (f_X10_alike 0 (nI v) (mk σ w u)) := by
  have hM := CV_M cv; have hT := CV_b cv; have cv2 := cv; obtain ⟨hm, ⟨⟨hA0, hA1, hA2, hA3, hA4⟩, hA7, hrl, hrn, hrc⟩, ⟨hN, hX⟩, ⟨hB1, hB2, hM8, hR8, hS12, hnm, hmd⟩, ⟨hN2, hW, hD⟩, hP⟩ := cv2
  have hp := Nat.two_pow_pos (A 0)
  have h2 : 2 ^ A 0 ≤ 2 ^ 12 := Nat.pow_le_pow_right (by decide) hB2
  have h3 := lf_le X v (A 1)
  unfold f_X10_alike
  rw [zg0, zr0_4, Option.bind_some, allBeats_f cv, Option.bind_some]
  dsimp only
  rw [show f_X10_needWithin (nI v) 0 (nI (2 ^ A 0 - 1)) (mk σ w u) = some (mk σ w u) from needWithin_f (a := 0) (Nat.zero_le _) hv (by omega), Option.bind_some, zr0_8, Option.bind_some, leastFar_f cv (by omega), Option.bind_some]
  dsimp only
  unfold l_X10_alike_26
  refine lp_S (RQ (Fr Ws σ) w u (nI (alk X v (lf X v (A 1)) (A 1)))) (fun i τ => (0, nI v, nI (lf X v (A 1)), nI (alk X v (lf X v (A 1)) i), nI i, mk τ w u)) (fun i τ => τ = σ) (A 1) ?_ ?_ (A 1) 0 _ σ (by omega) (by omega) rfl
  · intro i hi k τ e hk
    subst e
    have h4 := pc_le (X (1 + i) ^^^ v) 12
    have h := hk τ rfl
    dsimp only at h ⊢
    rw [alk_S] at h
    by_cases c : pc (X (1 + i) ^^^ v) 12 = lf X v (A 1)
    · rw [if_pos c] at h
      simp (disch := omega) only [f_X10_alike_26, f_X10_alike_59, l0, l1, l2, l3, l4, l5, l6, l7, l8, l9, l10, l11, l12, l13, l14, l15, l16, l17, l18, l19, l20, l21, l22, l23, l24, l25, l33, l34, l40, l42, l50, l58, l99, l100, l700, l999, l4095, l9999, l10000, x_neg1, nI_add, x_pred, x_m1, x_J1, pk_sub, nJ_pos, Nat.add_sub_cancel, nI_leI, nI_ltI, nI_eq, q_leJ, q_Jle, q_ltJ, q_Jlt, q_eqJ, q_Jeq, q_JJ, q_JJle, q_JJlt, Option.bind_some, if_pos, if_neg, ↓reduceIte, zr0_4, zr0_8, zi5_1, hA1, farFrom_f cv, x_one, x_or]
      exact h
    · rw [if_neg c] at h
      simp (disch := omega) only [f_X10_alike_26, f_X10_alike_59, l0, l1, l2, l3, l4, l5, l6, l7, l8, l9, l10, l11, l12, l13, l14, l15, l16, l17, l18, l19, l20, l21, l22, l23, l24, l25, l33, l34, l40, l42, l50, l58, l99, l100, l700, l999, l4095, l9999, l10000, x_neg1, nI_add, x_pred, x_m1, x_J1, pk_sub, nJ_pos, Nat.add_sub_cancel, nI_leI, nI_ltI, nI_eq, q_leJ, q_Jle, q_ltJ, q_Jlt, q_eqJ, q_Jeq, q_JJ, q_JJle, q_JJlt, Option.bind_some, if_pos, if_neg, ↓reduceIte, zr0_4, zr0_8, zi5_1, hA1, farFrom_f cv]
      exact h
  · intro k τ e
    subst e
    dsimp only
    simp (disch := omega) only [f_X10_alike_26, f_X10_alike_65, l0, l1, l2, l3, l4, l5, l6, l7, l8, l9, l10, l11, l12, l13, l14, l15, l16, l17, l18, l19, l20, l21, l22, l23, l24, l25, l33, l34, l40, l42, l50, l58, l99, l100, l700, l999, l4095, l9999, l10000, x_neg1, nI_add, x_pred, x_m1, x_J1, pk_sub, nJ_pos, Nat.add_sub_cancel, nI_leI, nI_ltI, nI_eq, q_leJ, q_Jle, q_ltJ, q_Jlt, q_eqJ, q_Jeq, q_JJ, q_JJle, q_JJlt, Option.bind_some, if_pos, if_neg, ↓reduceIte, zr0_4, zi5_1, hA1]
    exact RQ_i (Fr_r _ _)
theorem re_alike (rv : RV σ 0 A P X 0) {v : Nat} (hv : v ≤ 2 ^ A 0 - 1) : RQ (fun τ => Fr Wq (s2 σ 118 0 0) τ) w u (nI (alk X v (lf X v (A 1)) (A 1))) (f_X11_alike 118 (nI v) (mk σ w u)) := by
  have t0 : (s2 σ 118 0 0) 118 0 = nI 0 := by rw [s2_at rfl rfl]; rfl
  have rv0 : RV (s2 σ 118 0 0) 0 A P X 0 := RV_F rv (Fr_s (W := fun q k => q = 118 ∧ k = 0) ⟨rfl, rfl⟩) (fun q k e => by omega)
  have tm := rv0.2.1.1.2.1; have tr := rv0.2.1.1.2.2.1; have tb := rv0.2.1.1.1; have hB1 := rv.2.2.2.2.1.1; have hB2 := rv.2.2.2.2.1.2.1; have hM8 := rv.2.2.2.2.1.2.2.1; have hR8 := rv.2.2.2.2.1.2.2.2.1; have hS12 := rv.2.2.2.2.1.2.2.2.2.1; have hT := RV_b rv
  have hp := Nat.two_pow_pos (A 0)
  have h2 : 2 ^ A 0 ≤ 2 ^ 12 := Nat.pow_le_pow_right (by decide) hB2
  unfold f_X11_alike
  rw [zg118, zw118_0, Option.bind_some, areBeats_1 rv0 t0 (by omega), Option.bind_some]
  dsimp only
  rw [if_neg (show ¬ nI 1 = 0 by decide)]
  unfold l_X11_alike_24
  refine lp_S (RQ (fun τ => Fr Wq (s2 σ 118 0 0) τ) w u (nI (alk X v (lf X v (A 1)) (A 1)))) (fun i τ => (118, nI v, nI (lf9 X v i), nI (alk X v (lf X v i) i), nI i, mk τ w u)) (fun i τ => τ = s2 σ 118 0 0) (A 1) ?_ ?_ (A 1) 0 _ _ (by omega) (by omega) rfl
  · intro i hi k τ e hk
    rw [← e] at rv0 tm
    have h6 := hT i (by omega)
    have h7 := xr12 (a := X (1 + i)) (b := v) h6.1 (by omega)
    have h8 := pc_le (X (1 + i) ^^^ v) 12
    have h9 : lf9 X v i ≤ 99999 := by
      have := lf_le X v i
      unfold lf9
      split <;> omega
    have e6 := RV_0t rv0 i (by omega)
    have h := hk τ e
    dsimp only at h ⊢
    rw [alk_S, lf9_S] at h
    have hlf : pc (X (1 + i) ^^^ v) 12 < lf9 X v i → lf X v (i + 1) = pc (X (1 + i) ^^^ v) 12 := fun c => by
      rw [lf_S]
      unfold lf9 at c
      split at c
      · next e => rw [e]; show min 13 _ = _; rw [e] at h8; omega
      · omega
    have hlf2 : ¬ pc (X (1 + i) ^^^ v) 12 < lf9 X v i → lf X v (i + 1) = lf X v i ∧ lf9 X v i = lf X v i := fun c => by
      rw [lf_S]
      unfold lf9 at c ⊢
      split at c
      · omega
      · next e => rw [if_neg e]; omega
    unfold f_X11_alike_24
    rw [zi118_2, Option.bind_some, tm, if_neg (nI_ge hi (by omega)), zr118_36, Option.bind_some, show (1 : Int32) + nI i = nI (1 + i) from nI_add 1 i, za128 (by omega), Option.bind_some, e6, x_xor, bits_f (by omega), Option.bind_some]
    dsimp only
    by_cases c : pc (X (1 + i) ^^^ v) 12 < lf9 X v i
    · have e7 := hlf c
      rw [e7, if_pos rfl, alk_0 (X := X) (v := v) (l := pc (X (1 + i) ^^^ v) 12) (n := i) (fun k hk => by
        have h1 := lf_min X v i k hk
        unfold lf9 at c
        split at c
        · omega
        · omega), Nat.min_eq_right (by omega), Nat.zero_or] at h
      rw [if_neg (nI_ge c (by omega))]
      unfold f_X11_alike_57
      rw [lesser_f (by omega) (by omega), Option.bind_some]
      dsimp only
      rw [Nat.min_eq_right (by omega), if_pos rfl]
      unfold f_X11_alike_79
      rw [show (1 : Int32) <<< (nI i &&& 31) = nI (2 ^ i) from x_one (by omega), show (0 : Int32) = nI 0 from rfl, x_or, Nat.zero_or, nI_1]
      exact h
    · obtain ⟨e7, e8⟩ := hlf2 c
      rw [e7, Nat.min_eq_left (by omega)] at h
      rw [if_pos (nI_le (by omega) (by omega))]
      unfold f_X11_alike_57
      rw [lesser_f (by omega) (by omega), Option.bind_some]
      dsimp only
      rw [Nat.min_eq_left (by omega)]
      unfold f_X11_alike_79
      rw [nI_1]
      by_cases c2 : pc (X (1 + i) ^^^ v) 12 = lf X v i
      · rw [if_pos c2] at h
        rw [if_pos (by rw [e8, c2]), show (1 : Int32) <<< (nI i &&& 31) = nI (2 ^ i) from x_one (by omega), x_or]
        exact h
      · rw [if_neg c2] at h
        rw [if_neg (fun e => c2 (by rw [nI_eq (by omega) (by omega)] at e; omega)), show (0 : Int32) = nI 0 from rfl, x_or, Nat.or_zero]
        exact h
  · intro k τ e
    rw [← e] at tm
    dsimp only
    unfold f_X11_alike_24
    rw [zi118_2, Option.bind_some, tm, if_pos (nI_le (Nat.le_refl _) (by omega)), e]
    exact RQ_i (Fr_r _ _)
theorem an_0 (a : Nat) : an a 0 = a := by unfold an; simp
theorem cl_lost (cv : CV σ 34 A P X) (hx : X 0 ≤ 999) {m : Nat} (hma : m < A 1) : RQ (Fr Ws σ) w u (nI (an (X (1 + m)) (if ro A X m = 0 then 0 else he A P X (ro A X m - 1) (mq A (X 0))))) (f_X10_lost 0 (nI m) (mk σ w u)) := by
  have hro := ro_le A X m
  have hM := CV_M cv; have hT := CV_b cv; have cv2 := cv; obtain ⟨hm, ⟨⟨hA0, hA1, hA2, hA3, hA4⟩, hA7, hrl, hrn, hrc⟩, ⟨hN, hX⟩, ⟨hB1, hB2, hM8, hR8, hS12, hnm, hmd⟩, ⟨hN2, hW, hD⟩, hP⟩ := cv2
  unfold f_X10_lost
  rw [zg0]
  rw [needMan_f cv hma, Option.bind_some]
  rw [zr0_8, Option.bind_some, rowOf_f cv (by omega), Option.bind_some]
  dsimp only
  by_cases h : ro A X m = 0
  · rw [if_pos h, h, if_pos (show nJ 0 = -1 from rfl)]
    unfold f_X10_lost_32
    rw [zr0_8, Option.bind_some, M_t hM, Option.bind_some, M_tt hM (by omega), Option.bind_some]
    dsimp only
    rw [CV_t cv m (by omega), show (0 : Int32) = nI 0 from rfl, show ((-1) : Int32) = nJ 0 from rfl, x_andn]
    exact RQ_i (Fr_r _ _)
  · rw [if_neg h, nJ_pos (by omega), if_neg (show ¬ nI (ro A X m - 1) = -1 from fun e => by have e2 : nI (ro A X m - 1) = nJ 0 := e; rw [q_eqJ (by omega) (by omega)] at e2; omega), zr0_8, Option.bind_some]
    obtain ⟨τ2, g1, g2⟩ := heardAt_f (w := w) (u := u) cv (p := ro A X m - 1) (n := 0) (by omega) (by omega)
    rw [rt_0, Nat.add_zero] at g2
    rw [show (0 : Int32) = nI 0 from rfl, g2, Option.bind_some]
    dsimp only
    unfold f_X10_lost_32
    have cv2 := CV_fr cv g1
    rw [zr0_8, Option.bind_some, M_t hM, Option.bind_some, M_tt hM (by omega), Option.bind_some]
    dsimp only
    rw [CV_t cv2 m (by omega), show ((-1) : Int32) = nJ 0 from rfl, x_andn]
    exact RQ_i (Wc_s g1)
theorem re_lost (rv : RV σ 0 A P X 0) (hx : X 0 ≤ 999) {m : Nat} (hma : m < A 1) : RQ (fun τ => Fr Wq (s2 σ 118 0 0) τ) w u (nI (an (X (1 + m)) (if ro A X m = 0 then 0 else he A P X (ro A X m - 1) (mq A (X 0))))) (f_X11_lost 118 (nI m) (mk σ w u)) := by
  have hro := ro_le A X m
  have t0 : (s2 σ 118 0 0) 118 0 = nI 0 := by rw [s2_at rfl rfl]; rfl
  have rv0 : RV (s2 σ 118 0 0) 0 A P X 0 := RV_F rv (Fr_s (W := fun q k => q = 118 ∧ k = 0) ⟨rfl, rfl⟩) (fun q k e => by omega)
  have tm := rv0.2.1.1.2.1; have tr := rv0.2.1.1.2.2.1; have tb := rv0.2.1.1.1; have hB1 := rv.2.2.2.2.1.1; have hB2 := rv.2.2.2.2.1.2.1; have hM8 := rv.2.2.2.2.1.2.2.1; have hR8 := rv.2.2.2.2.1.2.2.2.1; have hS12 := rv.2.2.2.2.1.2.2.2.2.1; have hT := RV_b rv
  unfold f_X11_lost
  rw [zg118, zw118_0, Option.bind_some]
  rw [show f_X11_isMan 118 (nI m) (mk (s2 σ 118 0 0) w u) = some (nI 1, mk (s2 σ 118 0 0) w u) from isMan_1 tm (by omega) hma t0, Option.bind_some]
  dsimp only
  rw [if_neg (show ¬ nI 1 = 0 by decide)]
  have e6 := RV_0t rv0 m (by omega)
  rw [show f_X11_rowOf 118 0 (nI m) (mk (s2 σ 118 0 0) w u) = some (nJ (ro A X m), mk (s2 σ 118 0 0) w u) from rowOf_R rv0 (by omega), Option.bind_some]
  dsimp only
  by_cases h : ro A X m = 0
  · rw [if_pos h, h, if_pos (show nJ 0 = -1 from rfl), an_0, zr118_36, Option.bind_some, show (1 : Int32) + nI m = nI (1 + m) from nI_add 1 m, za128 (by omega), Option.bind_some, e6]
    unfold f_X11_lost_55
    exact RQ_i (Fr_r _ _)
  · obtain ⟨τ2, g1, g2⟩ := heardOf_f (w := w) (u := u) rv0 (r := ro A X m - 1) (by omega)
    rw [if_neg h, nJ_pos (by omega), if_neg (show ¬ nI (ro A X m - 1) = -1 from fun e => by have e2 : nI (ro A X m - 1) = nJ 0 := e; rw [q_eqJ (by omega) (by omega)] at e2; omega), zr118_36, Option.bind_some, show (1 : Int32) + nI m = nI (1 + m) from nI_add 1 m, za128 (by omega), Option.bind_some, e6, show f_X11_heardOf 118 0 (nI (ro A X m - 1)) (mk (s2 σ 118 0 0) w u) = some (nI (he A P X (ro A X m - 1) (mo A 0 (X 0))), mk τ2 w u) from g2, Option.bind_some]
    unfold f_X11_lost_55
    dsimp only
    rw [show ((-1) : Int32) = nJ 0 from rfl, x_andn]
    exact RQ_i (Wr_q g1)
theorem cl_mates (cv : CV σ 34 A P X) {m : Nat} (hma : m < A 1) : RQ (Fr Ws σ) w u (nI (if ro A X m = 0 then 0 else an (X (25 + (ro A X m - 1))) (2 ^ m))) (f_X10_mates 0 (nI m) (mk σ w u)) := by
  have hro := ro_le A X m
  have hM := CV_M cv; have hT := CV_b cv; have cv2 := cv; obtain ⟨hm, ⟨⟨hA0, hA1, hA2, hA3, hA4⟩, hA7, hrl, hrn, hrc⟩, ⟨hN, hX⟩, ⟨hB1, hB2, hM8, hR8, hS12, hnm, hmd⟩, ⟨hN2, hW, hD⟩, hP⟩ := cv2
  unfold f_X10_mates
  rw [zg0]
  rw [needMan_f cv hma, Option.bind_some]
  rw [zr0_8, Option.bind_some, rowOf_f cv (by omega), Option.bind_some]
  dsimp only
  by_cases h : ro A X m = 0
  · rw [if_pos h, h, if_pos (show nJ 0 = -1 from rfl)]
    unfold f_X10_mates_40
    exact RQ_i (Fr_r _ _)
  · rw [if_neg h, nJ_pos (by omega), if_neg (show ¬ nI (ro A X m - 1) = -1 from fun e => by have e2 : nI (ro A X m - 1) = nJ 0 := e; rw [q_eqJ (by omega) (by omega)] at e2; omega), zr0_8, Option.bind_some, M_s hM, Option.bind_some, M_ts hM (by omega), Option.bind_some]
    dsimp only
    unfold f_X10_mates_40
    rw [CV_s cv _ (by omega), show (1 : Int32) <<< (nI m &&& 31) = nI (2 ^ m) from x_one (by omega), show ((-1) : Int32) = nJ 0 from rfl, x_andn]
    exact RQ_i (Fr_r _ _)
theorem re_mates (rv : RV σ 0 A P X 0) {m : Nat} (hma : m < A 1) : RQ (fun τ => Fr Wq (s2 σ 118 0 0) τ) w u (nI (if ro A X m = 0 then 0 else an (X (25 + (ro A X m - 1))) (2 ^ m))) (f_X11_mates 118 (nI m) (mk σ w u)) := by
  have hro := ro_le A X m
  have t0 : (s2 σ 118 0 0) 118 0 = nI 0 := by rw [s2_at rfl rfl]; rfl
  have rv0 : RV (s2 σ 118 0 0) 0 A P X 0 := RV_F rv (Fr_s (W := fun q k => q = 118 ∧ k = 0) ⟨rfl, rfl⟩) (fun q k e => by omega)
  have tm := rv0.2.1.1.2.1; have tr := rv0.2.1.1.2.2.1; have tb := rv0.2.1.1.1; have hB1 := rv.2.2.2.2.1.1; have hB2 := rv.2.2.2.2.1.2.1; have hM8 := rv.2.2.2.2.1.2.2.1; have hR8 := rv.2.2.2.2.1.2.2.2.1; have hS12 := rv.2.2.2.2.1.2.2.2.2.1; have hT := RV_b rv
  unfold f_X11_mates
  rw [zg118, zw118_0, Option.bind_some]
  rw [show f_X11_isMan 118 (nI m) (mk (s2 σ 118 0 0) w u) = some (nI 1, mk (s2 σ 118 0 0) w u) from isMan_1 tm (by omega) hma t0, Option.bind_some]
  dsimp only
  rw [if_neg (show ¬ nI 1 = 0 by decide)]
  rw [show f_X11_rowOf 118 0 (nI m) (mk (s2 σ 118 0 0) w u) = some (nJ (ro A X m), mk (s2 σ 118 0 0) w u) from rowOf_R rv0 (by omega), Option.bind_some]
  dsimp only
  by_cases h : ro A X m = 0
  · rw [if_pos h, h, if_pos (show nJ 0 = -1 from rfl)]
    unfold f_X11_mates_46
    exact RQ_i (Fr_r _ _)
  · have e6 := RV_0s rv0 (ro A X m - 1) (by omega)
    rw [if_neg h, nJ_pos (by omega), if_neg (show ¬ nI (ro A X m - 1) = -1 from fun e => by have e2 : nI (ro A X m - 1) = nJ 0 := e; rw [q_eqJ (by omega) (by omega)] at e2; omega), zr118_36, Option.bind_some, show (25 : Int32) + nI (ro A X m - 1) = nI (25 + (ro A X m - 1)) from nI_add 25 _, za128 (by omega), Option.bind_some, e6]
    unfold f_X11_mates_46
    rw [show (1 : Int32) <<< (nI m &&& 31) = nI (2 ^ m) from x_one (by omega), show ((-1) : Int32) = nJ 0 from rfl, x_andn]
    exact RQ_i (Fr_r _ _)
theorem cl_step (cv : CV σ 34 A P X) : RQ (Fr Ws σ) w u (nI (stp X (A 1) (2 ^ A 1 - 1))) (f_X10_step 0 (mk σ w u)) := by
  have hM := CV_M cv; have hT := CV_b cv; have cv2 := cv; obtain ⟨hm, ⟨⟨hA0, hA1, hA2, hA3, hA4⟩, hA7, hrl, hrn, hrc⟩, ⟨hN, hX⟩, ⟨hB1, hB2, hM8, hR8, hS12, hnm, hmd⟩, ⟨hN2, hW, hD⟩, hP⟩ := cv2
  have hp := Nat.two_pow_pos (A 1)
  have h2 : 2 ^ A 1 ≤ 2 ^ 8 := Nat.pow_le_pow_right (by decide) hM8
  have htt : ∀ s, tt X s (A 1) < 4096 := fun s => by
    have key : ∀ n, n ≤ 8 → tt X s n < 2 ^ 12 := by
      intro n
      induction n with
      | zero => intro _; exact Nat.two_pow_pos _
      | succ n ih =>
        intro hn
        show tt X s n ||| (if bt s n = 0 then 0 else X (1 + n)) < 2 ^ 12
        refine Nat.or_lt_two_pow (ih (by omega)) ?_
        split
        · decide
        · exact (hT n (by omega)).1
    exact key (A 1) hM8
  unfold f_X10_step
  rw [zg0, zr0_4, Option.bind_some, allMen_f cv, Option.bind_some]
  dsimp only
  rw [zr0_8, Option.bind_some, treadsTogether_f cv (by omega), Option.bind_some]
  dsimp only
  unfold l_X10_step_19
  refine lp_S (RQ (Fr Ws σ) w u (nI (stp X (A 1) (2 ^ A 1 - 1)))) (fun i τ => (0, nI (stp X (A 1) i), nI (tt X (2 ^ A 1 - 1) (A 1)), nI i, mk τ w u)) (fun i τ => τ = σ) (2 ^ A 1 - 1) ?_ ?_ (2 ^ A 1 - 1) 0 _ σ (by omega) (by omega) rfl
  · intro i hi k τ e hk
    subst e
    have h3 := (stp_P (X := X) hM8 i (by omega)).1.2.1
    have h4 := pc_le i 12
    have h5 := pc_le (stp X (A 1) i) 12
    have h6 := htt i
    have h7 := htt (2 ^ A 1 - 1)
    have h := hk τ rfl
    dsimp only at h ⊢
    rw [stp_S] at h
    by_cases c : pc (stp X (A 1) i) 12 ≤ pc i 12
    · rw [if_pos c] at h
      simp (disch := omega) only [f_X10_step_19, f_X10_step_55, l0, l1, l2, l3, l4, l5, l6, l7, l8, l9, l10, l11, l12, l13, l14, l15, l16, l17, l18, l19, l20, l21, l22, l23, l24, l25, l33, l34, l40, l42, l50, l58, l99, l100, l700, l999, l4095, l9999, l10000, x_neg1, nI_add, x_pred, x_m1, x_J1, pk_sub, nJ_pos, Nat.add_sub_cancel, nI_leI, nI_ltI, nI_eq, q_leJ, q_Jle, q_ltJ, q_Jlt, q_eqJ, q_Jeq, q_JJ, q_JJle, q_JJlt, Option.bind_some, if_pos, if_neg, ↓reduceIte, zr0_4, allMen_f cv, bitCount_f, bc_nI]
      exact h
    · rw [if_neg c] at h
      by_cases c2 : tt X i (A 1) = tt X (2 ^ A 1 - 1) (A 1)
      · rw [if_pos c2] at h
        simp (disch := omega) only [f_X10_step_19, f_X10_step_55, l0, l1, l2, l3, l4, l5, l6, l7, l8, l9, l10, l11, l12, l13, l14, l15, l16, l17, l18, l19, l20, l21, l22, l23, l24, l25, l33, l34, l40, l42, l50, l58, l99, l100, l700, l999, l4095, l9999, l10000, x_neg1, nI_add, x_pred, x_m1, x_J1, pk_sub, nJ_pos, Nat.add_sub_cancel, nI_leI, nI_ltI, nI_eq, q_leJ, q_Jle, q_ltJ, q_Jlt, q_eqJ, q_Jeq, q_JJ, q_JJle, q_JJlt, Option.bind_some, if_pos, if_neg, ↓reduceIte, zr0_4, zr0_8, allMen_f cv, bitCount_f, bc_nI, treadsTogether_f cv]
        exact h
      · rw [if_neg c2] at h
        simp (disch := omega) only [f_X10_step_19, f_X10_step_55, l0, l1, l2, l3, l4, l5, l6, l7, l8, l9, l10, l11, l12, l13, l14, l15, l16, l17, l18, l19, l20, l21, l22, l23, l24, l25, l33, l34, l40, l42, l50, l58, l99, l100, l700, l999, l4095, l9999, l10000, x_neg1, nI_add, x_pred, x_m1, x_J1, pk_sub, nJ_pos, Nat.add_sub_cancel, nI_leI, nI_ltI, nI_eq, q_leJ, q_Jle, q_ltJ, q_Jlt, q_eqJ, q_Jeq, q_JJ, q_JJle, q_JJlt, Option.bind_some, if_pos, if_neg, ↓reduceIte, zr0_4, zr0_8, allMen_f cv, bitCount_f, bc_nI, treadsTogether_f cv]
        exact h
  · intro k τ e
    subst e
    dsimp only
    simp (disch := omega) only [f_X10_step_19, f_X10_step_61, l0, l1, l2, l3, l4, l5, l6, l7, l8, l9, l10, l11, l12, l13, l14, l15, l16, l17, l18, l19, l20, l21, l22, l23, l24, l25, l33, l34, l40, l42, l50, l58, l99, l100, l700, l999, l4095, l9999, l10000, x_neg1, nI_add, x_pred, x_m1, x_J1, pk_sub, nJ_pos, Nat.add_sub_cancel, nI_leI, nI_ltI, nI_eq, q_leJ, q_Jle, q_ltJ, q_Jlt, q_eqJ, q_Jeq, q_JJ, q_JJle, q_JJlt, Option.bind_some, if_pos, if_neg, ↓reduceIte, zr0_4, allMen_f cv]
    exact RQ_i (Fr_r _ _)
theorem re_step (rv : RV σ 0 A P X 0) : RQ (fun τ => Fr Wq (s2 σ 118 0 0) τ) w u (nI (stp X (A 1) (2 ^ A 1 - 1))) (f_X11_step 118 (mk σ w u)) := by
  have t0 : (s2 σ 118 0 0) 118 0 = nI 0 := by rw [s2_at rfl rfl]; rfl
  have rv0 : RV (s2 σ 118 0 0) 0 A P X 0 := RV_F rv (Fr_s (W := fun q k => q = 118 ∧ k = 0) ⟨rfl, rfl⟩) (fun q k e => by omega)
  have tm := rv0.2.1.1.2.1; have tr := rv0.2.1.1.2.2.1; have tb := rv0.2.1.1.1; have hB1 := rv.2.2.2.2.1.1; have hB2 := rv.2.2.2.2.1.2.1; have hM8 := rv.2.2.2.2.1.2.2.1; have hR8 := rv.2.2.2.2.1.2.2.2.1; have hS12 := rv.2.2.2.2.1.2.2.2.2.1; have hT := RV_b rv
  have hp := Nat.two_pow_pos (A 1)
  have h2 : 2 ^ A 1 ≤ 2 ^ 8 := Nat.pow_le_pow_right (by decide) hM8
  have htt : ∀ s, tt X s (A 1) < 4096 := fun s => by
    have key : ∀ n, n ≤ 8 → tt X s n < 2 ^ 12 := by
      intro n
      induction n with
      | zero => intro _; exact Nat.two_pow_pos _
      | succ n ih =>
        intro hn
        show tt X s n ||| (if bt s n = 0 then 0 else X (1 + n)) < 2 ^ 12
        refine Nat.or_lt_two_pow (ih (by omega)) ?_
        split
        · decide
        · exact (hT n (by omega)).1
    exact key (A 1) hM8
  have e5 : ((1 : Int32) <<< (nI (A 1) &&& 31)) - 1 = nI (2 ^ A 1 - 1) := by
    rw [show (1 : Int32) = nI 1 from rfl, x_one (by omega), pk_sub (by omega)]
  rw [← stp_spb hM8]
  unfold f_X11_step
  rw [zg118, zw118_0, Option.bind_some, zi118_2, Option.bind_some, tm, e5]
  unfold l_X11_step_18
  rw [show (118, nI (2 ^ A 1 - 1), nI (2 ^ A 1 - 1), nI (2 ^ A 1 - 1), mk (s2 σ 118 0 0) w u) = ((118 : Nat), nI (2 ^ A 1 - 1), nI (2 ^ A 1 - 1), nJ (2 ^ A 1 - 0), mk (s2 σ 118 0 0) w u) from by rw [Nat.sub_zero, nJ_pos hp]]
  refine lp_S (RQ (fun τ => Fr Wq (s2 σ 118 0 0) τ) w u (nI (spb X (A 1) (2 ^ A 1)))) (fun i τ => (118, nI (2 ^ A 1 - 1), nI (spb X (A 1) i), nJ (2 ^ A 1 - i), mk τ w u)) (fun i τ => τ = s2 σ 118 0 0) (2 ^ A 1) ?_ ?_ (2 ^ A 1) 0 _ _ (by omega) (by omega) rfl
  · intro i hi k τ e hk
    rw [← e] at rv0 tm
    have h3 := (spb_P (X := X) (M := A 1) i (by omega)).2.1
    have h4 := pc_le (2 ^ A 1 - 1 - i) 12
    have h5 := pc_le (spb X (A 1) i) 12
    have h6 := htt (2 ^ A 1 - 1 - i)
    have h7 := htt (2 ^ A 1 - 1)
    have h := hk τ e
    dsimp only at h ⊢
    rw [spb_S] at h
    have e6 : nJ (2 ^ A 1 - i) = nI (2 ^ A 1 - 1 - i) := by rw [nJ_pos (by omega), show 2 ^ A 1 - i - 1 = 2 ^ A 1 - 1 - i by omega]
    have e7 : nI (2 ^ A 1 - 1 - i) + (-1) = nJ (2 ^ A 1 - (i + 1)) := by
      rw [show 2 ^ A 1 - (i + 1) = 2 ^ A 1 - 1 - i by omega]
      exact x_m1 _
    unfold f_X11_step_18
    rw [e6, if_neg (nI_pos (by omega)), treadsOf_R rv0 (by omega), Option.bind_some]
    dsimp only
    rw [treadsOf_R rv0 (by omega), Option.bind_some]
    dsimp only
    unfold f_X11_step_48
    by_cases c : tt X (2 ^ A 1 - 1 - i) (A 1) = tt X (2 ^ A 1 - 1) (A 1)
    · rw [if_pos c] at h
      rw [if_pos (by rw [c]), bits_f (by omega), Option.bind_some]
      dsimp only
      rw [bits_f (by omega), Option.bind_some, e7]
      dsimp only
      by_cases c2 : pc (spb X (A 1) i) 12 < pc (2 ^ A 1 - 1 - i) 12
      · rw [if_pos c2] at h
        rw [if_pos (nI_lt c2 (by omega))]
        exact h
      · rw [if_neg c2] at h
        rw [if_neg (nI_nlt (by omega) (by omega))]
        exact h
    · rw [if_neg c] at h
      rw [if_neg (fun e => c ((nI_eq (by omega) (by omega)).mp e)), e7]
      exact h
  · intro k τ e
    dsimp only
    rw [Nat.sub_self, e]
    unfold f_X11_step_18
    rw [if_pos (by decide)]
    exact RQ_i (Fr_r _ _)
theorem cl_chain (cv : CV σ 34 A P X) {m o n : Nat} (hma : m < A 1) (hoa : o < A 1) (hn1 : 1 ≤ n) (hn : n ≤ 12) : RQ (Fr Ws σ) w u (nJ (fi (fun i => bt (rc X m n (A 1) i) o) 8 0)) (f_X10_chain 0 (nI m) (nI o) (nI n) (mk σ w u)) := by
  have hM := CV_M cv; have hT := CV_b cv; have cv2 := cv; obtain ⟨hm, ⟨⟨hA0, hA1, hA2, hA3, hA4⟩, hA7, hrl, hrn, hrc⟩, ⟨hN, hX⟩, ⟨hB1, hB2, hM8, hR8, hS12, hnm, hmd⟩, ⟨hN2, hW, hD⟩, hP⟩ := cv2
  have h2 : 2 ^ A 1 ≤ 2 ^ 8 := Nat.pow_le_pow_right (by decide) hM8
  unfold f_X10_chain
  rw [zg0]
  rw [needMan_f cv hma, Option.bind_some]
  rw [needMan_f cv hoa, Option.bind_some]
  rw [show f_X10_needWithin (nI n) 1 12 (mk σ w u) = some (mk σ w u) from needWithin_f (a := 1) (b := 12) (by omega) (by omega) (by decide), Option.bind_some]
  rw [show (1 : Int32) <<< (nI m &&& 31) = nI (2 ^ m) from x_one (by omega)]
  obtain ⟨p, hp⟩ : ∃ p, p = fun i => bt (rc X m n (A 1) i) o := ⟨_, rfl⟩
  rw [← hp]
  obtain ⟨F, hF⟩ : ∃ F, F = fi p 8 0 := ⟨_, rfl⟩
  rw [← hF]
  unfold l_X10_chain_25
  refine lp_S (RQ (Fr Ws σ) w u (nJ F)) (fun i τ => (0, nI o, nI n, nI (rc X m n (A 1) i), nI i, mk τ w u)) (fun i τ => τ = σ ∧ F = fi p (8 - i) i) 8 ?_ ?_ 8 0 _ σ (by omega) (by omega) ⟨rfl, hF⟩
  · intro i hi k τ ⟨e, hf⟩ hk
    subst e
    have h3 := rc_lt (X := X) (beats := n) hma i
    have h4 := bt_lt (rc X m n (A 1) i) o
    have hpi : p i = bt (rc X m n (A 1) i) o := by rw [hp]
    rw [show 8 - i = 8 - (i + 1) + 1 by omega, fi_1, hpi] at hf
    dsimp only at hk ⊢
    by_cases c : bt (rc X m n (A 1) i) o = 0
    · rw [if_pos c] at hf
      have h := hk τ ⟨rfl, hf⟩
      simp (disch := omega) only [f_X10_chain_25, l0, l1, l2, l3, l4, l5, l6, l7, l8, l9, l10, l11, l12, l13, l14, l15, l16, l17, l18, l19, l20, l21, l22, l23, l24, l25, l33, l34, l40, l42, l50, l58, l99, l100, l700, l999, l4095, l9999, l10000, x_neg1, nI_add, x_pred, x_m1, x_J1, pk_sub, nJ_pos, Nat.add_sub_cancel, nI_leI, nI_ltI, nI_eq, q_leJ, q_Jle, q_ltJ, q_Jlt, q_eqJ, q_Jeq, q_JJ, q_JJle, q_JJlt, Option.bind_some, if_pos, if_neg, ↓reduceIte, holds_f, zr0_8, reachedFrom_f cv]
      exact h
    · rw [if_neg c] at hf
      rw [hf, nJ_S]
      simp (disch := omega) only [f_X10_chain_25, f_X10_chain_41, l0, l1, l2, l3, l4, l5, l6, l7, l8, l9, l10, l11, l12, l13, l14, l15, l16, l17, l18, l19, l20, l21, l22, l23, l24, l25, l33, l34, l40, l42, l50, l58, l99, l100, l700, l999, l4095, l9999, l10000, x_neg1, nI_add, x_pred, x_m1, x_J1, pk_sub, nJ_pos, Nat.add_sub_cancel, nI_leI, nI_ltI, nI_eq, q_leJ, q_Jle, q_ltJ, q_Jlt, q_eqJ, q_Jeq, q_JJ, q_JJle, q_JJlt, Option.bind_some, if_pos, if_neg, ↓reduceIte, holds_f]
      exact RQ_i (Fr_r _ _)
  · intro k τ ⟨e, hf⟩
    subst e
    rw [show F = 0 from hf]
    dsimp only
    simp (disch := omega) only [f_X10_chain_25, f_X10_chain_62, l0, l1, l2, l3, l4, l5, l6, l7, l8, l9, l10, l11, l12, l13, l14, l15, l16, l17, l18, l19, l20, l21, l22, l23, l24, l25, l33, l34, l40, l42, l50, l58, l99, l100, l700, l999, l4095, l9999, l10000, x_neg1, nI_add, x_pred, x_m1, x_J1, pk_sub, nJ_pos, Nat.add_sub_cancel, nI_leI, nI_ltI, nI_eq, q_leJ, q_Jle, q_ltJ, q_Jlt, q_eqJ, q_Jeq, q_JJ, q_JJle, q_JJlt, Option.bind_some, if_pos, if_neg, ↓reduceIte]
    exact RQ_i (Fr_r _ _)
theorem re_chain (rv : RV σ 0 A P X 0) {m o n : Nat} (hma : m < A 1) (hoa : o < A 1) (hn1 : 1 ≤ n) (hn : n ≤ 12) : RQ (fun τ => Fr Wq (s2 σ 118 0 0) τ) w u (nJ (fi (fun i => bt (rc X m n (A 1) i) o) 8 0)) (f_X11_chain 118 (nI m) (nI o) (nI n) (mk σ w u)) := by
  have t0 : (s2 σ 118 0 0) 118 0 = nI 0 := by rw [s2_at rfl rfl]; rfl
  have rv0 : RV (s2 σ 118 0 0) 0 A P X 0 := RV_F rv (Fr_s (W := fun q k => q = 118 ∧ k = 0) ⟨rfl, rfl⟩) (fun q k e => by omega)
  have tm := rv0.2.1.1.2.1; have tr := rv0.2.1.1.2.2.1; have tb := rv0.2.1.1.1; have hB1 := rv.2.2.2.2.1.1; have hB2 := rv.2.2.2.2.1.2.1; have hM8 := rv.2.2.2.2.1.2.2.1; have hR8 := rv.2.2.2.2.1.2.2.2.1; have hS12 := rv.2.2.2.2.1.2.2.2.2.1; have hT := RV_b rv
  have h2 : 2 ^ A 1 ≤ 2 ^ 8 := Nat.pow_le_pow_right (by decide) hM8
  unfold f_X11_chain
  rw [zg118, zw118_0, Option.bind_some]
  rw [show f_X11_isMan 118 (nI m) (mk (s2 σ 118 0 0) w u) = some (nI 1, mk (s2 σ 118 0 0) w u) from isMan_1 tm (by omega) hma t0, Option.bind_some]
  dsimp only
  rw [if_neg (show ¬ nI 1 = 0 by decide)]
  rw [show f_X11_isMan 118 (nI o) (mk (s2 σ 118 0 0) w u) = some (nI 1, mk (s2 σ 118 0 0) w u) from isMan_1 tm (by omega) hoa t0, Option.bind_some]
  dsimp only
  rw [if_neg (show ¬ nI 1 = 0 by decide)]
  rw [show f_X11_within (nI n) 1 12 (mk (s2 σ 118 0 0) w u) = some (nI 1, mk (s2 σ 118 0 0) w u) from within_1 (a := 1) (b := 12) hn1 hn (by decide) _, Option.bind_some]
  dsimp only
  rw [right_1 t0, Option.bind_some]
  dsimp only
  rw [if_neg (show ¬ nI 1 = 0 by decide), show (1 : Int32) <<< (nI m &&& 31) = nI (2 ^ m) from x_one (by omega)]
  obtain ⟨p, hp⟩ : ∃ p, p = fun i => bt (rc X m n (A 1) i) o := ⟨_, rfl⟩
  rw [← hp]
  obtain ⟨F, hF⟩ : ∃ F, F = fi p 8 0 := ⟨_, rfl⟩
  rw [← hF]
  unfold l_X11_chain_46
  refine lp_S (RQ (fun τ => Fr Wq (s2 σ 118 0 0) τ) w u (nJ F)) (fun i τ => (118, nI o, nI n, nI (rc X m n (A 1) i), nI i, mk τ w u)) (fun i τ => τ = s2 σ 118 0 0 ∧ F = fi p (8 - i) i) 8 ?_ ?_ 8 0 _ _ (by omega) (by omega) ⟨rfl, hF⟩
  · intro i hi k τ ⟨e, hf⟩ hk
    rw [← e] at rv0 tm
    have h3 := rc_lt (X := X) (beats := n) hma i
    have h4 := bt_lt (rc X m n (A 1) i) o
    have hpi : p i = bt (rc X m n (A 1) i) o := by rw [hp]
    rw [show 8 - i = 8 - (i + 1) + 1 by omega, fi_1, hpi] at hf
    dsimp only at hk ⊢
    unfold f_X11_chain_46
    rw [if_neg (show ¬ (8 : Int32) ≤ nI i from nI_ge (b := 8) hi (by decide)), show (1 : Int32) = nI 1 from rfl, x_bit (by omega) (by omega)]
    by_cases c : bt (rc X m n (A 1) i) o = 0
    · rw [if_pos c] at hf
      rw [c, if_neg (show ¬ nI 0 = nI 1 by decide)]
      unfold l_X11_chain_73
      refine lp_S (RQ (fun τ => Fr Wq (s2 σ 118 0 0) τ) w u (nJ F)) (fun a τ => (118, nI o, nI n, nI (rc X m n (A 1) i), nI i, nI (re X (rc X m n (A 1) i) n (A 1) a), nI a, mk τ w u)) (fun a τ' => τ' = τ) (A 1) ?_ ?_ (A 1) 0 _ τ (by omega) (by omega) rfl
      · intro a ha k2 τ' e2 hk2
        subst e2
        have h5 := bt_lt (rc X m n (A 1) i) a
        dsimp only at hk2 ⊢
        unfold f_X11_chain_73
        rw [zi118_2, Option.bind_some, tm, if_neg (nI_ge ha (by omega))]
        unfold l_X11_chain_85
        refine lp_S (RQ (fun τ => Fr Wq (s2 σ 118 0 0) τ) w u (nJ F)) (fun d τ => (118, nI o, nI n, nI (rc X m n (A 1) i), nI i, nI (re1 X (rc X m n (A 1) i) n a (re X (rc X m n (A 1) i) n (A 1) a) d), nI a, nI d, mk τ w u)) (fun d τ => τ = τ') (A 1) ?_ ?_ (A 1) 0 _ τ' (by omega) (by omega) rfl
        · intro d hd k3 τ3 e3 hk3
          subst e3
          have hf2 := fa_le X a d
          have h := hk3 τ3 rfl
          dsimp only at h ⊢
          rw [re1_S] at h
          unfold f_X11_chain_85
          rw [zi118_2, Option.bind_some, tm, if_neg (nI_ge hd (by omega)), show (1 : Int32) = nI 1 from rfl, x_bit (by omega) (by omega)]
          by_cases c2 : bt (rc X m n (A 1) i) a = 0
          · rw [if_pos c2] at h
            rw [c2, if_neg (show ¬ nI 0 = nI 1 by decide)]
            unfold f_X11_chain_126 f_X11_chain_127
            rw [show (0 : Int32) = nI 0 from rfl, x_or, Nat.or_zero, nI_1]
            exact h
          · rw [if_neg c2] at h
            rw [show bt (rc X m n (A 1) i) a = 1 by omega, if_pos rfl, farOf_R rv0 (by omega) (by omega), Option.bind_some]
            dsimp only
            by_cases c3 : n < fa X a d
            · rw [if_pos c3] at h
              rw [if_pos (nI_lt c3 (by omega))]
              unfold f_X11_chain_126 f_X11_chain_127
              rw [show (0 : Int32) = nI 0 from rfl, x_or, Nat.or_zero, nI_1]
              exact h
            · rw [if_neg c3] at h
              rw [if_neg (nI_nlt (by omega) (by omega)), x_one (by omega)]
              unfold f_X11_chain_127
              rw [x_or, nI_1]
              exact h
        · intro k3 τ3 e3
          subst e3
          have h := hk2 τ3 rfl
          dsimp only at h ⊢
          unfold f_X11_chain_85
          rw [zi118_2, Option.bind_some, tm, if_pos (nI_le (Nat.le_refl _) (by omega))]
          unfold f_X11_chain_136
          rw [nI_1]
          exact h
      · intro k2 τ' e2
        subst e2
        have h := hk τ' ⟨e, hf⟩
        dsimp only at h ⊢
        unfold f_X11_chain_73
        rw [zi118_2, Option.bind_some, tm, if_pos (nI_le (Nat.le_refl _) (by omega))]
        unfold f_X11_chain_142
        rw [nI_1]
        exact h
    · rw [if_neg c] at hf
      rw [show bt (rc X m n (A 1) i) o = 1 by omega, if_pos rfl, hf, nJ_S, e]
      exact RQ_i (Fr_r _ _)
  · intro k τ ⟨e, hf⟩
    rw [show F = 0 from hf]
    dsimp only
    unfold f_X11_chain_46
    rw [if_pos (by decide), e]
    exact RQ_i (Fr_r _ _)
theorem cl_run (cv : CV σ 34 A P X) {m : Nat} (hma : m < A 1) : RQ (Fr Ws σ) w u (nI (rnn X m (A 0)).1) (f_X10_run 0 (nI m) (mk σ w u)) := by
  have hM := CV_M cv; have hT := CV_b cv; have cv2 := cv; obtain ⟨hm, ⟨⟨hA0, hA1, hA2, hA3, hA4⟩, hA7, hrl, hrn, hrc⟩, ⟨hN, hX⟩, ⟨hB1, hB2, hM8, hR8, hS12, hnm, hmd⟩, ⟨hN2, hW, hD⟩, hP⟩ := cv2
  have hb := hT m (by omega)
  unfold f_X10_run
  rw [zg0]
  rw [needMan_f cv hma, Option.bind_some]
  unfold l_X10_run_12
  refine lp_S (RQ (Fr Ws σ) w u (nI (rnn X m (A 0)).1)) (fun i τ => (0, nI m, nI (rnn X m i).1, nI (rnn X m i).2, nI i, mk τ w u)) (fun i τ => τ = σ) (A 0) ?_ ?_ (A 0) 0 _ σ (by omega) (by omega) rfl
  · intro i hi k τ e hk
    subst e
    have h1 := rnn_le X m i
    have h2 := bt_lt (X (1 + m)) i
    have h := hk τ rfl
    dsimp only at h ⊢
    rw [rnn_S] at h
    by_cases c : bt (X (1 + m)) i = 0
    · rw [if_pos c] at h
      simp (disch := omega) only [f_X10_run_12, f_X10_run_50, l0, l1, l2, l3, l4, l5, l6, l7, l8, l9, l10, l11, l12, l13, l14, l15, l16, l17, l18, l19, l20, l21, l22, l23, l24, l25, l33, l34, l40, l42, l50, l58, l99, l100, l700, l999, l4095, l9999, l10000, x_neg1, nI_add, x_pred, x_m1, x_J1, pk_sub, nJ_pos, Nat.add_sub_cancel, nI_leI, nI_ltI, nI_eq, q_leJ, q_Jle, q_ltJ, q_Jlt, q_eqJ, q_Jeq, q_JJ, q_JJle, q_JJlt, Option.bind_some, if_pos, if_neg, ↓reduceIte, zr0_4, zr0_8, zi5_0, hA0, M_t hM, M_tt hM, CV_t cv, holds_f, hp_max_nI]
      exact h
    · rw [if_neg c] at h
      simp (disch := omega) only [f_X10_run_12, f_X10_run_50, l0, l1, l2, l3, l4, l5, l6, l7, l8, l9, l10, l11, l12, l13, l14, l15, l16, l17, l18, l19, l20, l21, l22, l23, l24, l25, l33, l34, l40, l42, l50, l58, l99, l100, l700, l999, l4095, l9999, l10000, x_neg1, nI_add, x_pred, x_m1, x_J1, pk_sub, nJ_pos, Nat.add_sub_cancel, nI_leI, nI_ltI, nI_eq, q_leJ, q_Jle, q_ltJ, q_Jlt, q_eqJ, q_Jeq, q_JJ, q_JJle, q_JJlt, Option.bind_some, if_pos, if_neg, ↓reduceIte, zr0_4, zr0_8, zi5_0, hA0, M_t hM, M_tt hM, CV_t cv, holds_f, hp_max_nI]
      exact h
  · intro k τ e
    subst e
    dsimp only
    simp (disch := omega) only [f_X10_run_12, f_X10_run_63, l0, l1, l2, l3, l4, l5, l6, l7, l8, l9, l10, l11, l12, l13, l14, l15, l16, l17, l18, l19, l20, l21, l22, l23, l24, l25, l33, l34, l40, l42, l50, l58, l99, l100, l700, l999, l4095, l9999, l10000, x_neg1, nI_add, x_pred, x_m1, x_J1, pk_sub, nJ_pos, Nat.add_sub_cancel, nI_leI, nI_ltI, nI_eq, q_leJ, q_Jle, q_ltJ, q_Jlt, q_eqJ, q_Jeq, q_JJ, q_JJle, q_JJlt, Option.bind_some, if_pos, if_neg, ↓reduceIte, zr0_4, zi5_0, hA0]
    exact RQ_i (Fr_r _ _)
theorem re_run (rv : RV σ 0 A P X 0) {m : Nat} (hma : m < A 1) : RQ (fun τ => Fr Wq (s2 σ 118 0 0) τ) w u (nI (rnn X m (A 0)).1) (f_X11_run 118 (nI m) (mk σ w u)) := by
  have t0 : (s2 σ 118 0 0) 118 0 = nI 0 := by rw [s2_at rfl rfl]; rfl
  have rv0 : RV (s2 σ 118 0 0) 0 A P X 0 := RV_F rv (Fr_s (W := fun q k => q = 118 ∧ k = 0) ⟨rfl, rfl⟩) (fun q k e => by omega)
  have tm := rv0.2.1.1.2.1; have tr := rv0.2.1.1.2.2.1; have tb := rv0.2.1.1.1; have hB1 := rv.2.2.2.2.1.1; have hB2 := rv.2.2.2.2.1.2.1; have hM8 := rv.2.2.2.2.1.2.2.1; have hR8 := rv.2.2.2.2.1.2.2.2.1; have hS12 := rv.2.2.2.2.1.2.2.2.2.1; have hT := RV_b rv
  have hb := hT m (by omega)
  unfold f_X11_run
  rw [zg118, zw118_0, Option.bind_some]
  rw [show f_X11_isMan 118 (nI m) (mk (s2 σ 118 0 0) w u) = some (nI 1, mk (s2 σ 118 0 0) w u) from isMan_1 tm (by omega) hma t0, Option.bind_some]
  dsimp only
  rw [if_neg (show ¬ nI 1 = 0 by decide)]
  unfold l_X11_run_22
  refine lp_S (RQ (fun τ => Fr Wq (s2 σ 118 0 0) τ) w u (nI (rnn X m (A 0)).1)) (fun i τ => (118, nI m, nI (rnn X m i).1, nI (rnn X m i).2, nI i, mk τ w u)) (fun i τ => τ = s2 σ 118 0 0) (A 0) ?_ ?_ (A 0) 0 _ _ (by omega) (by omega) rfl
  · intro i hi k τ e hk
    rw [← e] at rv0 tb
    have e6 := RV_0t rv0 m (by omega)
    have h1 := rnn_le X m i
    have h2 := bt_lt (X (1 + m)) i
    have h := hk τ e
    dsimp only at h ⊢
    rw [rnn_S] at h
    unfold f_X11_run_22
    rw [zi118_1, Option.bind_some, tb, if_neg (nI_ge hi (by omega)), zr118_36, Option.bind_some, show (1 : Int32) + nI m = nI (1 + m) from nI_add 1 m, za128 (by omega), Option.bind_some, e6, show (1 : Int32) = nI 1 from rfl, x_bit (by omega) (by omega), nI_add]
    by_cases c : bt (X (1 + m)) i = 0
    · rw [if_pos c, Nat.max_eq_left (by omega)] at h
      rw [c, if_neg (show ¬ nI 0 = nI 1 by decide)]
      unfold f_X11_run_55 f_X11_run_66
      rw [show (0 : Int32) = nI 0 from rfl, if_pos (nI_le (by omega) (by omega)), nI_1]
      exact h
    · rw [if_neg c] at h
      rw [show bt (X (1 + m)) i = 1 by omega, if_pos rfl]
      unfold f_X11_run_55 f_X11_run_66
      rw [nI_1]
      by_cases c2 : (rnn X m i).2 + 1 ≤ (rnn X m i).1
      · rw [Nat.max_eq_left c2] at h
        rw [if_pos (nI_le c2 (by omega))]
        exact h
      · rw [Nat.max_eq_right (by omega)] at h
        rw [if_neg (nI_ge (by omega) (by omega))]
        exact h
  · intro k τ e
    rw [← e] at tb
    dsimp only
    unfold f_X11_run_22
    rw [zi118_1, Option.bind_some, tb, if_pos (nI_le (Nat.le_refl _) (by omega)), e]
    exact RQ_i (Fr_r _ _)
theorem cl_rarest (cv : CV σ 34 A P X) : RQ (Fr Ws σ) w u (nI (rar X (A 1) (A 0)).1) (f_X10_rarest 0 (mk σ w u)) := by
  have hM := CV_M cv; have hT := CV_b cv; have cv2 := cv; obtain ⟨hm, ⟨⟨hA0, hA1, hA2, hA3, hA4⟩, hA7, hrl, hrn, hrc⟩, ⟨hN, hX⟩, ⟨hB1, hB2, hM8, hR8, hS12, hnm, hmd⟩, ⟨hN2, hW, hD⟩, hP⟩ := cv2
  have e1 := rar_1 (X := X) (M := A 1) hM8
  unfold f_X10_rarest
  rw [zg0, zr0_8, Option.bind_some, show (0 : Int32) = nI 0 from rfl, menWithBeat_f cv (by omega), Option.bind_some]
  dsimp only
  unfold l_X10_rarest_13
  rw [show nI 0 = nI (rar X (A 1) (1 + 0)).1 by rw [show 1 + 0 = 1 from rfl, e1], show nI (mb X 0 (A 1)) = nI (rar X (A 1) (1 + 0)).2 by rw [show 1 + 0 = 1 from rfl, e1]]
  refine lp_S (RQ (Fr Ws σ) w u (nI (rar X (A 1) (A 0)).1)) (fun i τ => (0, nI (rar X (A 1) (1 + i)).1, nI (rar X (A 1) (1 + i)).2, nI (1 + i), mk τ w u)) (fun i τ => τ = σ) (A 0 - 1) ?_ ?_ (A 0 - 1) 0 _ σ (by omega) (by omega) rfl
  · intro i hi k τ e hk
    subst e
    have h1 := rar_le (X := X) (M := A 1) (1 + i)
    have h2 := mb_le X (1 + i) (A 1)
    have h := hk τ rfl
    dsimp only at h ⊢
    rw [show 1 + (i + 1) = 1 + i + 1 by omega, rar_S] at h
    by_cases c : (rar X (A 1) (1 + i)).2 ≤ mb X (1 + i) (A 1)
    · rw [if_pos c] at h
      simp (disch := omega) only [f_X10_rarest_13, f_X10_rarest_45, l0, l1, l2, l3, l4, l5, l6, l7, l8, l9, l10, l11, l12, l13, l14, l15, l16, l17, l18, l19, l20, l21, l22, l23, l24, l25, l33, l34, l40, l42, l50, l58, l99, l100, l700, l999, l4095, l9999, l10000, x_neg1, nI_add, x_pred, x_m1, x_J1, pk_sub, nJ_pos, Nat.add_sub_cancel, nI_leI, nI_ltI, nI_eq, q_leJ, q_Jle, q_ltJ, q_Jlt, q_eqJ, q_Jeq, q_JJ, q_JJle, q_JJlt, Option.bind_some, if_pos, if_neg, ↓reduceIte, zr0_4, zr0_8, zi5_0, hA0, menWithBeat_f cv]
      exact h
    · rw [if_neg c] at h
      simp (disch := omega) only [f_X10_rarest_13, f_X10_rarest_45, l0, l1, l2, l3, l4, l5, l6, l7, l8, l9, l10, l11, l12, l13, l14, l15, l16, l17, l18, l19, l20, l21, l22, l23, l24, l25, l33, l34, l40, l42, l50, l58, l99, l100, l700, l999, l4095, l9999, l10000, x_neg1, nI_add, x_pred, x_m1, x_J1, pk_sub, nJ_pos, Nat.add_sub_cancel, nI_leI, nI_ltI, nI_eq, q_leJ, q_Jle, q_ltJ, q_Jlt, q_eqJ, q_Jeq, q_JJ, q_JJle, q_JJlt, Option.bind_some, if_pos, if_neg, ↓reduceIte, zr0_4, zr0_8, zi5_0, hA0, menWithBeat_f cv]
      exact h
  · intro k τ e
    subst e
    dsimp only
    rw [show 1 + (A 0 - 1) = A 0 by omega]
    simp (disch := omega) only [f_X10_rarest_13, f_X10_rarest_51, l0, l1, l2, l3, l4, l5, l6, l7, l8, l9, l10, l11, l12, l13, l14, l15, l16, l17, l18, l19, l20, l21, l22, l23, l24, l25, l33, l34, l40, l42, l50, l58, l99, l100, l700, l999, l4095, l9999, l10000, x_neg1, nI_add, x_pred, x_m1, x_J1, pk_sub, nJ_pos, Nat.add_sub_cancel, nI_leI, nI_ltI, nI_eq, q_leJ, q_Jle, q_ltJ, q_Jlt, q_eqJ, q_Jeq, q_JJ, q_JJle, q_JJlt, Option.bind_some, if_pos, if_neg, ↓reduceIte, zr0_4, zi5_0, hA0]
    exact RQ_i (Fr_r _ _)
theorem re_rarest (rv : RV σ 0 A P X 0) : RQ (fun τ => Fr Wq (s2 σ 118 0 0) τ) w u (nI (rar X (A 1) (A 0)).1) (f_X11_rarest 118 (mk σ w u)) := by
  have t0 : (s2 σ 118 0 0) 118 0 = nI 0 := by rw [s2_at rfl rfl]; rfl
  have rv0 : RV (s2 σ 118 0 0) 0 A P X 0 := RV_F rv (Fr_s (W := fun q k => q = 118 ∧ k = 0) ⟨rfl, rfl⟩) (fun q k e => by omega)
  have tm := rv0.2.1.1.2.1; have tr := rv0.2.1.1.2.2.1; have tb := rv0.2.1.1.1; have hB1 := rv.2.2.2.2.1.1; have hB2 := rv.2.2.2.2.1.2.1; have hM8 := rv.2.2.2.2.1.2.2.1; have hR8 := rv.2.2.2.2.1.2.2.2.1; have hS12 := rv.2.2.2.2.1.2.2.2.2.1; have hT := RV_b rv
  unfold f_X11_rarest
  rw [zg118, zw118_0, Option.bind_some]
  unfold l_X11_rarest_13
  refine lp_S (RQ (fun τ => Fr Wq (s2 σ 118 0 0) τ) w u (nI (rar X (A 1) (A 0)).1)) (fun i τ => (118, nI (rar X (A 1) i).1, nI (rar X (A 1) i).2, nI i, mk τ w u)) (fun i τ => τ = s2 σ 118 0 0) (A 0) ?_ ?_ (A 0) 0 _ _ (by omega) (by omega) rfl
  · intro i hi k τ e hk
    rw [← e] at rv0 tm tb
    have h1 := rar_le (X := X) (M := A 1) i
    have h2 := mb_le X i (A 1)
    have h := hk τ e
    dsimp only at h ⊢
    rw [rar_S] at h
    unfold f_X11_rarest_13
    rw [zi118_1, Option.bind_some, tb, if_neg (nI_ge hi (by omega))]
    unfold l_X11_rarest_27
    refine lp_S (RQ (fun τ => Fr Wq (s2 σ 118 0 0) τ) w u (nI (rar X (A 1) (A 0)).1)) (fun j τ => (118, nI (rar X (A 1) i).1, nI (rar X (A 1) i).2, nI i, nI (mb X i j), nI j, mk τ w u)) (fun j τ' => τ' = τ) (A 1) ?_ ?_ (A 1) 0 _ τ (by omega) (by omega) rfl
    · intro j hj k2 τ' e2 hk2
      subst e2
      have h6 := hT j (by omega)
      have e6 := RV_0t rv0 j (by omega)
      have h10 := hk2 τ' rfl
      dsimp only at h10 ⊢
      rw [show mb X i (j + 1) = mb X i j + bt (X (1 + j)) i from rfl] at h10
      unfold f_X11_rarest_27
      rw [zi118_2, Option.bind_some, tm, if_neg (nI_ge hj (by omega)), zr118_36, Option.bind_some, show (1 : Int32) + nI j = nI (1 + j) from nI_add 1 j, za128 (by omega), Option.bind_some, e6, show (1 : Int32) = nI 1 from rfl, x_bit (by omega) (by omega), nI_add, nI_add]
      exact h10
    · intro k2 τ' e2
      subst e2
      dsimp only
      unfold f_X11_rarest_27
      rw [zi118_2, Option.bind_some, tm, if_pos (nI_le (Nat.le_refl _) (by omega))]
      unfold f_X11_rarest_60 f_X11_rarest_74
      rw [nI_1]
      by_cases c : (rar X (A 1) i).2 ≤ mb X i (A 1)
      · rw [if_pos c] at h
        rw [if_neg (nI_nlt c (by omega))]
        exact h
      · rw [if_neg c] at h
        rw [if_pos (nI_lt (by omega) (by omega))]
        exact h
  · intro k τ e
    rw [← e] at tb
    dsimp only
    unfold f_X11_rarest_13
    rw [zi118_1, Option.bind_some, tb, if_pos (nI_le (Nat.le_refl _) (by omega)), e]
    exact RQ_i (Fr_r _ _)
theorem cl_loudest (cv : CV σ 34 A P X) : RQ (Fr Ws σ) w u (nJ (ldd X (A 1) (A 2)).2) (f_X10_loudest 0 (mk σ w u)) := by
  have hM := CV_M cv; have hT := CV_b cv; have cv2 := cv; obtain ⟨hm, ⟨⟨hA0, hA1, hA2, hA3, hA4⟩, hA7, hrl, hrn, hrc⟩, ⟨hN, hX⟩, ⟨hB1, hB2, hM8, hR8, hS12, hnm, hmd⟩, ⟨hN2, hW, hD⟩, hP⟩ := cv2
  unfold f_X10_loudest
  rw [zg0]
  unfold l_X10_loudest_6
  refine lp_S (RQ (Fr Ws σ) w u (nJ (ldd X (A 1) (A 2)).2)) (fun i τ => (0, nJ (ldd X (A 1) i).1, nJ (ldd X (A 1) i).2, nI i, mk τ w u)) (fun i τ => τ = σ) (A 2) ?_ ?_ (A 2) 0 _ σ (by omega) (by omega) rfl
  · intro i hi k τ e hk
    subst e
    have h1 := ldd_le (X := X) (M := A 1) hM8 (fun i hi => (hT i (by omega)).2.1) i
    have h2 := lt1_le (X := X) (r := i) (n := A 1) (fun i hi => (hT i (by omega)).2.1)
    have h := hk τ rfl
    dsimp only at h ⊢
    rw [ldd_S] at h
    by_cases c : lt1 X i (A 1) + 1 ≤ (ldd X (A 1) i).1
    · rw [if_pos c, nJ_pos (show 0 < (ldd X (A 1) i).1 by omega)] at h
      simp (disch := omega) only [f_X10_loudest_6, f_X10_loudest_38, l0, l1, l2, l3, l4, l5, l6, l7, l8, l9, l10, l11, l12, l13, l14, l15, l16, l17, l18, l19, l20, l21, l22, l23, l24, l25, l33, l34, l40, l42, l50, l58, l99, l100, l700, l999, l4095, l9999, l10000, x_neg1, nI_add, x_pred, x_m1, x_J1, pk_sub, nJ_pos, Nat.add_sub_cancel, nI_leI, nI_ltI, nI_eq, q_leJ, q_Jle, q_ltJ, q_Jlt, q_eqJ, q_Jeq, q_JJ, q_JJle, q_JJlt, Option.bind_some, if_pos, if_neg, ↓reduceIte, zr0_4, zr0_8, zi5_2, hA2, loudTogether_f cv]
      exact h
    · rw [if_neg c, nJ_S, nJ_S] at h
      simp (disch := omega) only [f_X10_loudest_6, f_X10_loudest_38, l0, l1, l2, l3, l4, l5, l6, l7, l8, l9, l10, l11, l12, l13, l14, l15, l16, l17, l18, l19, l20, l21, l22, l23, l24, l25, l33, l34, l40, l42, l50, l58, l99, l100, l700, l999, l4095, l9999, l10000, x_neg1, nI_add, x_pred, x_m1, x_J1, pk_sub, nJ_pos, Nat.add_sub_cancel, nI_leI, nI_ltI, nI_eq, q_leJ, q_Jle, q_ltJ, q_Jlt, q_eqJ, q_Jeq, q_JJ, q_JJle, q_JJlt, Option.bind_some, if_pos, if_neg, ↓reduceIte, zr0_4, zr0_8, zi5_2, hA2, loudTogether_f cv]
      exact h
  · intro k τ e
    subst e
    dsimp only
    simp (disch := omega) only [f_X10_loudest_6, f_X10_loudest_44, l0, l1, l2, l3, l4, l5, l6, l7, l8, l9, l10, l11, l12, l13, l14, l15, l16, l17, l18, l19, l20, l21, l22, l23, l24, l25, l33, l34, l40, l42, l50, l58, l99, l100, l700, l999, l4095, l9999, l10000, x_neg1, nI_add, x_pred, x_m1, x_J1, pk_sub, nJ_pos, Nat.add_sub_cancel, nI_leI, nI_ltI, nI_eq, q_leJ, q_Jle, q_ltJ, q_Jlt, q_eqJ, q_Jeq, q_JJ, q_JJle, q_JJlt, Option.bind_some, if_pos, if_neg, ↓reduceIte, zr0_4, zi5_2, hA2]
    exact RQ_i (Fr_r _ _)
theorem re_loudest (rv : RV σ 0 A P X 0) : RQ (fun τ => Fr Wq (s2 σ 118 0 0) τ) w u (nJ (ldd X (A 1) (A 2)).2) (f_X11_loudest 118 (mk σ w u)) := by
  have t0 : (s2 σ 118 0 0) 118 0 = nI 0 := by rw [s2_at rfl rfl]; rfl
  have rv0 : RV (s2 σ 118 0 0) 0 A P X 0 := RV_F rv (Fr_s (W := fun q k => q = 118 ∧ k = 0) ⟨rfl, rfl⟩) (fun q k e => by omega)
  have tm := rv0.2.1.1.2.1; have tr := rv0.2.1.1.2.2.1; have tb := rv0.2.1.1.1; have hB1 := rv.2.2.2.2.1.1; have hB2 := rv.2.2.2.2.1.2.1; have hM8 := rv.2.2.2.2.1.2.2.1; have hR8 := rv.2.2.2.2.1.2.2.2.1; have hS12 := rv.2.2.2.2.1.2.2.2.2.1; have hT := RV_b rv
  unfold f_X11_loudest
  rw [zg118, zw118_0, Option.bind_some]
  unfold l_X11_loudest_11
  refine lp_S (RQ (fun τ => Fr Wq (s2 σ 118 0 0) τ) w u (nJ (ldd X (A 1) (A 2)).2)) (fun i τ => (118, nJ (ldd X (A 1) i).2, nJ (ldd X (A 1) i).1, nI i, mk τ w u)) (fun i τ => τ = s2 σ 118 0 0) (A 2) ?_ ?_ (A 2) 0 _ _ (by omega) (by omega) rfl
  · intro i hi k τ e hk
    rw [← e] at rv0 tm tr
    have h1 := ldd_le (X := X) (M := A 1) hM8 (fun i hi => (hT i (by omega)).2.1) i
    have h2 := lt1_le (X := X) (r := i) (n := A 1) (fun i hi => (hT i (by omega)).2.1)
    have hb := hT i (by omega)
    have h := hk τ e
    dsimp only at h ⊢
    rw [ldd_S] at h
    unfold f_X11_loudest_11
    rw [zi118_3, Option.bind_some, tr, if_neg (nI_ge hi (by omega))]
    unfold l_X11_loudest_25
    refine lp_S (RQ (fun τ => Fr Wq (s2 σ 118 0 0) τ) w u (nJ (ldd X (A 1) (A 2)).2)) (fun j τ => (118, nJ (ldd X (A 1) i).2, nJ (ldd X (A 1) i).1, nI i, nI (lt1 X i j), nI j, mk τ w u)) (fun j τ' => τ' = τ) (A 1) ?_ ?_ (A 1) 0 _ τ (by omega) (by omega) rfl
    · intro j hj k2 τ' e2 hk2
      subst e2
      have e6 := RV_0l rv0 j (by omega)
      have e7 := RV_0s rv0 i (by omega)
      have h7 := bt_lt (X (25 + i)) j
      have h10 := hk2 τ' rfl
      dsimp only at h10 ⊢
      rw [show lt1 X i (j + 1) = lt1 X i j + (if bt (X (25 + i)) j = 0 then 0 else X (9 + j)) from rfl] at h10
      unfold f_X11_loudest_25
      rw [zi118_2, Option.bind_some, tm, if_neg (nI_ge hj (by omega)), zr118_36, Option.bind_some, show (25 : Int32) + nI i = nI (25 + i) from nI_add 25 i, za128 (by omega), Option.bind_some, e7, show (1 : Int32) = nI 1 from rfl, x_bit (by omega) (by omega)]
      by_cases c : bt (X (25 + i)) j = 0
      · rw [if_pos c, Nat.add_zero] at h10
        rw [c, if_neg (show ¬ nI 0 = nI 1 by decide)]
        unfold f_X11_loudest_68
        rw [show (0 : Int32) = nI 0 from rfl, nI_add, Nat.add_zero, nI_1]
        exact h10
      · rw [if_neg c] at h10
        rw [show bt (X (25 + i)) j = 1 by omega, if_pos rfl, Option.bind_some, show (9 : Int32) + nI j = nI (9 + j) from nI_add 9 j, za128 (by omega), Option.bind_some, e6]
        unfold f_X11_loudest_68
        rw [nI_add, nI_1]
        exact h10
    · intro k2 τ' e2
      subst e2
      dsimp only
      unfold f_X11_loudest_25
      rw [zi118_2, Option.bind_some, tm, if_pos (nI_le (Nat.le_refl _) (by omega))]
      unfold f_X11_loudest_77 f_X11_loudest_91
      rw [nI_1]
      by_cases c : lt1 X i (A 1) + 1 ≤ (ldd X (A 1) i).1
      · rw [if_pos c] at h
        rw [if_neg (fun e => by rw [q_Jlt (by omega) (by omega)] at e; omega)]
        exact h
      · rw [if_neg c, nJ_S, nJ_S] at h
        rw [if_pos (by rw [q_Jlt (by omega) (by omega)]; omega)]
        exact h
  · intro k τ e
    rw [← e] at tr
    dsimp only
    unfold f_X11_loudest_11
    rw [zi118_3, Option.bind_some, tr, if_pos (nI_le (Nat.le_refl _) (by omega)), e]
    exact RQ_i (Fr_r _ _)
end OF
