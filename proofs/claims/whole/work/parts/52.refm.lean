/-! L3: the reference: smaller methods -/
def ci (A Z : Nat → Nat) : Nat → Nat := it (fun m v => v ||| (if ro A Z m = 0 then 2 ^ m else 0)) 0
def is1 (A : Nat → Nat) (P : List (Nat × Nat)) (X : Nat → Nat) (w r v : Nat) : Nat → Nat := it (fun q v => v + (if he A P X r w = he A P X q w then 1 else 0)) v
def is0 (A : Nat → Nat) (P : List (Nat × Nat)) (X : Nat → Nat) (w : Nat) : Nat → Nat := it (fun r v => is1 A P X w r v r) 0
section RC
variable {σ τ : Nat → Nat → Int32} {w u : Int64} {b om : Nat} {A Z X : Nat → Nat} {P : List (Nat × Nat)} {v : Int32}
theorem RV_mk {Y : Nat → Nat} (rv : RV σ b A P Z om) (fr : Fr (Wn b) σ τ) (rr : Rr τ b Y) (wy : WX A Y) : RV τ b A P Y om := by
  obtain ⟨hb, ra, -, ⟨o1, o2⟩, wa, -, wp⟩ := rv
  exact ⟨hb, Ra_F ra fr (fun q k e => by unfold Wn at e; omega), rr, ⟨by rw [fr 118 41 (by unfold Wn; omega)]; exact o1, o2⟩, wa, wy, wp⟩
theorem RV_o2 (rv : RV σ 0 A P Z om) (fr : Fr (Wn 33) σ τ) : RV τ 0 A P Z om := RV_F rv fr (fun q k e => by unfold Wn at e; omega)
theorem Wb_n (h : Fr (Wb b) σ τ) : Fr (Wn b) σ τ := Fr_m h (fun q k e => by unfold Wn; unfold Wb at e; omega)
theorem Wr_n (h : Fr Wr σ τ) : Fr (Wn b) σ τ := Fr_m h (fun q k e => by unfold Wn; unfold Wr at e; omega)
theorem tries_V (rv : RV σ 0 A P X om) : ∃ τ, Fr (Wb 33) σ τ ∧ RV τ 33 A P X om ∧ RV τ 0 A P X om ∧ f_X11_tries 118 (mk σ w u) = some (mk τ w u) := by
  obtain ⟨τ, ⟨fr, rr⟩, e⟩ := tries_f (w := w) (u := u) rv.2.2.1
  have h0 := RV_o2 rv (Wb_n fr)
  exact ⟨τ, fr, ⟨Or.inr rfl, h0.2.1, rr, h0.2.2.2⟩, h0, e⟩
theorem RV_0s (rv : RV σ 0 A P X om) : ∀ i, i < 8 → σ 128 (25 + i) = nI (X (25 + i)) := fun i h => by have := rv.2.2.1 (25 + i) (by omega); rw [Nat.zero_add] at this; exact this
theorem RV_0t (rv : RV σ 0 A P X om) : ∀ i, i < 8 → σ 128 (1 + i) = nI (X (1 + i)) := fun i h => by have := rv.2.2.1 (1 + i) (by omega); rw [Nat.zero_add] at this; exact this
theorem RV_0l (rv : RV σ 0 A P X om) : ∀ i, i < 8 → σ 128 (9 + i) = nI (X (9 + i)) := fun i h => by have := rv.2.2.1 (9 + i) (by omega); rw [Nat.zero_add] at this; exact this
theorem RV_0o (rv : RV σ 0 A P X om) : ∀ i, i < 8 → σ 128 (17 + i) = nI (X (17 + i)) := fun i h => by have := rv.2.2.1 (17 + i) (by omega); rw [Nat.zero_add] at this; exact this
theorem RV_3s (rv : RV σ 33 A P X om) : ∀ i, i < 8 → σ 128 (58 + i) = nI (X (25 + i)) := fun i h => by have := rv.2.2.1 (25 + i) (by omega); rw [show 33 + (25 + i) = 58 + i by omega] at this; exact this
theorem RV_3t (rv : RV σ 33 A P X om) : ∀ i, i < 8 → σ 128 (34 + i) = nI (X (1 + i)) := fun i h => by have := rv.2.2.1 (1 + i) (by omega); rw [show 33 + (1 + i) = 34 + i by omega] at this; exact this
theorem RV_3l (rv : RV σ 33 A P X om) : ∀ i, i < 8 → σ 128 (42 + i) = nI (X (9 + i)) := fun i h => by have := rv.2.2.1 (9 + i) (by omega); rw [show 33 + (9 + i) = 42 + i by omega] at this; exact this
theorem RV_3o (rv : RV σ 33 A P X om) : ∀ i, i < 8 → σ 128 (50 + i) = nI (X (17 + i)) := fun i h => by have := rv.2.2.1 (17 + i) (by omega); rw [show 33 + (17 + i) = 50 + i by omega] at this; exact this
theorem rowOf_R (rv : RV σ b A P Z om) {man : Nat} (hman : man < 32) : f_X11_rowOf 118 (nI b) (nI man) (mk σ w u) = some (nJ (ro A Z man), mk σ w u) := by
  have hT := RV_b rv; have rv2 := rv; obtain ⟨hbb, ⟨⟨hR0, hR1, hR2, hR4, hR3⟩, hmu, hcd⟩, hZ, ⟨hom, hom2⟩, ⟨hB1, hB2, hM8, hR8, hS12, hnm, hmd⟩, ⟨hN2, hW, hD⟩, hP⟩ := rv2
  unfold f_X11_rowOf l_X11_rowOf_2
  rw [zg118]
  have h := lp_fi (f := fun k (s : Nat × Int32 × Int32 × Int32 × hp_H) => f_X11_rowOf_2  (fun a0 a1 a2 a3 a4 => k (a0, a1, a2, a3, a4)) s.1 s.2.1 s.2.2.1 s.2.2.2.1 s.2.2.2.2) (fun i => (118, nI b, nI man, nI i, mk σ w u)) (A 2) (fun r => bt (Z (25 + r)) man) (fun i => some (nI i, mk σ w u)) (some (nJ 0, mk σ w u)) ?_ ?_ ?_ (A 2) 0 100000 (by omega) (by omega)
  · unfold ro
    split at h
    · next e => rw [e]; exact h
    · next e => rw [nJ_pos (by omega)]; exact h
  · intro i hi h0 k0
    have hb := hT i (by omega)
    have h2 := bt_lt (Z (25 + i)) man
    dsimp only at h0 ⊢
    simp (disch := omega) only [f_X11_rowOf_37, f_X11_rowOf_29, f_X11_rowOf_2, f_X11_rowOf, l0, l1, l2, l3, l4, l5, l6, l7, l8, l9, l10, l11, l12, l13, l14, l15, l16, l17, l18, l19, l20, l21, l22, l23, l24, l25, l33, l34, l40, l42, l50, l58, l99, l100, l700, l999, l4095, l9999, l10000, x_neg1, nI_add, x_pred, x_m1, x_J1, pk_sub, nJ_pos, Nat.add_sub_cancel, nI_leI, nI_ltI, nI_eq, q_leJ, q_Jle, q_ltJ, q_Jlt, q_eqJ, q_Jeq, q_JJ, q_JJle, q_JJlt, Option.bind_some, if_pos, if_neg, ↓reduceIte, Nat.add_zero, zg118, zi118_0, zi118_1, zi118_2, zi118_3, zi118_4, zi118_5, zi118_6, zr118_7, zr118_8, zr118_36, zr118_39, zr118_40, zi118_41, zr118_44, za128, za119, hR0, hR1, hR2, hR3, hR4, RV_0 rv, RV_t rv, RV_l rv, RV_o rv, RV_s rv, x_bit]
  · intro i hi h0 k0
    have hb := hT i (by omega)
    have h2 := bt_lt (Z (25 + i)) man
    dsimp only at h0 ⊢
    simp (disch := omega) only [f_X11_rowOf_37, f_X11_rowOf_29, f_X11_rowOf_2, f_X11_rowOf, l0, l1, l2, l3, l4, l5, l6, l7, l8, l9, l10, l11, l12, l13, l14, l15, l16, l17, l18, l19, l20, l21, l22, l23, l24, l25, l33, l34, l40, l42, l50, l58, l99, l100, l700, l999, l4095, l9999, l10000, x_neg1, nI_add, x_pred, x_m1, x_J1, pk_sub, nJ_pos, Nat.add_sub_cancel, nI_leI, nI_ltI, nI_eq, q_leJ, q_Jle, q_ltJ, q_Jlt, q_eqJ, q_Jeq, q_JJ, q_JJle, q_JJlt, Option.bind_some, if_pos, if_neg, ↓reduceIte, Nat.add_zero, zg118, zi118_0, zi118_1, zi118_2, zi118_3, zi118_4, zi118_5, zi118_6, zr118_7, zr118_8, zr118_36, zr118_39, zr118_40, zi118_41, zr118_44, za128, za119, hR0, hR1, hR2, hR3, hR4, RV_0 rv, RV_t rv, RV_l rv, RV_o rv, RV_s rv, x_bit]
  · intro k0
    dsimp only
    simp (disch := omega) only [f_X11_rowOf_37, f_X11_rowOf_29, f_X11_rowOf_2, f_X11_rowOf, l0, l1, l2, l3, l4, l5, l6, l7, l8, l9, l10, l11, l12, l13, l14, l15, l16, l17, l18, l19, l20, l21, l22, l23, l24, l25, l33, l34, l40, l42, l50, l58, l99, l100, l700, l999, l4095, l9999, l10000, x_neg1, nI_add, x_pred, x_m1, x_J1, pk_sub, nJ_pos, Nat.add_sub_cancel, nI_leI, nI_ltI, nI_eq, q_leJ, q_Jle, q_ltJ, q_Jlt, q_eqJ, q_Jeq, q_JJ, q_JJle, q_JJlt, Option.bind_some, if_pos, if_neg, ↓reduceIte, Nat.add_zero, zg118, zi118_0, zi118_1, zi118_2, zi118_3, zi118_4, zi118_5, zi118_6, zr118_7, zr118_8, zr118_36, zr118_39, zr118_40, zi118_41, zr118_44, za128, za119, hR0, hR1, hR2, hR3, hR4, RV_0 rv, RV_t rv, RV_l rv, RV_o rv, RV_s rv]
theorem honourOf_R (rv : RV σ b A P Z om) : f_X11_honourOf 118 (nI b) (mk σ w u) = some (nI (ha A Z (A 1)), mk σ w u) := by
  have hT := RV_b rv; have rv2 := rv; obtain ⟨hbb, ⟨⟨hR0, hR1, hR2, hR4, hR3⟩, hmu, hcd⟩, hZ, ⟨hom, hom2⟩, ⟨hB1, hB2, hM8, hR8, hS12, hnm, hmd⟩, ⟨hN2, hW, hD⟩, hP⟩ := rv2
  unfold f_X11_honourOf l_X11_honourOf_4
  rw [zg118]
  refine lp_for (fun i => (118, nI b, nI (ha A Z i), nI i, mk σ w u)) (A 1) _ ?_ ?_ (A 1) 0 _ (by omega) (by omega)
  · intro i hi k0
    dsimp only
    simp (disch := omega) only [f_X11_honourOf_32, f_X11_honourOf_4, f_X11_honourOf, l0, l1, l2, l3, l4, l5, l6, l7, l8, l9, l10, l11, l12, l13, l14, l15, l16, l17, l18, l19, l20, l21, l22, l23, l24, l25, l33, l34, l40, l42, l50, l58, l99, l100, l700, l999, l4095, l9999, l10000, x_neg1, nI_add, x_pred, x_m1, x_J1, pk_sub, nJ_pos, Nat.add_sub_cancel, nI_leI, nI_ltI, nI_eq, q_leJ, q_Jle, q_ltJ, q_Jlt, q_eqJ, q_Jeq, q_JJ, q_JJle, q_JJlt, Option.bind_some, if_pos, if_neg, ↓reduceIte, Nat.add_zero, zg118, zi118_0, zi118_1, zi118_2, zi118_3, zi118_4, zi118_5, zi118_6, zr118_7, zr118_8, zr118_36, zr118_39, zr118_40, zi118_41, zr118_44, za128, za119, hR0, hR1, hR2, hR3, hR4, RV_0 rv, RV_t rv, RV_l rv, RV_o rv, RV_s rv]
    rfl
  · intro k0
    dsimp only
    simp (disch := omega) only [f_X11_honourOf_32, f_X11_honourOf_4, f_X11_honourOf, l0, l1, l2, l3, l4, l5, l6, l7, l8, l9, l10, l11, l12, l13, l14, l15, l16, l17, l18, l19, l20, l21, l22, l23, l24, l25, l33, l34, l40, l42, l50, l58, l99, l100, l700, l999, l4095, l9999, l10000, x_neg1, nI_add, x_pred, x_m1, x_J1, pk_sub, nJ_pos, Nat.add_sub_cancel, nI_leI, nI_ltI, nI_eq, q_leJ, q_Jle, q_ltJ, q_Jlt, q_eqJ, q_Jeq, q_JJ, q_JJle, q_JJlt, Option.bind_some, if_pos, if_neg, ↓reduceIte, Nat.add_zero, zg118, zi118_0, zi118_1, zi118_2, zi118_3, zi118_4, zi118_5, zi118_6, zr118_7, zr118_8, zr118_36, zr118_39, zr118_40, zi118_41, zr118_44, za128, za119, hR0, hR1, hR2, hR3, hR4, RV_0 rv, RV_t rv, RV_l rv, RV_o rv, RV_s rv]
theorem inCamp_R (rv : RV σ 0 A P Z om) : f_X11_inCamp 118 (mk σ w u) = some (nI (ci A Z (A 1)), mk σ w u) := by
  have hT := RV_b rv; have rv2 := rv; obtain ⟨hbb, ⟨⟨hR0, hR1, hR2, hR4, hR3⟩, hmu, hcd⟩, hZ, ⟨hom, hom2⟩, ⟨hB1, hB2, hM8, hR8, hS12, hnm, hmd⟩, ⟨hN2, hW, hD⟩, hP⟩ := rv2
  unfold f_X11_inCamp l_X11_inCamp_4
  rw [zg118]
  refine lp_for (fun i => (118, nI (ci A Z i), nI i, mk σ w u)) (A 1) _ ?_ ?_ (A 1) 0 _ (by omega) (by omega)
  · intro i hi k0
    have h1 := fi_le (fun r => bt (Z (25 + r)) i) (A 2) 0
    have h2 : ro A Z i ≤ 8 := by unfold ro; omega
    have e1 : ci A Z (i + 1) = ci A Z i ||| (if ro A Z i = 0 then 2 ^ i else 0) := rfl
    have e2 := rowOf_R (w := w) (u := u) rv (man := i) (by omega)
    rw [e1]
    dsimp only
    by_cases h : ro A Z i = 0
    · rw [if_pos h]
      simp (disch := omega) only [f_X11_inCamp_38, f_X11_inCamp_30, f_X11_inCamp_4, f_X11_inCamp, l0, l1, l2, l3, l4, l5, l6, l7, l8, l9, l10, l11, l12, l13, l14, l15, l16, l17, l18, l19, l20, l21, l22, l23, l24, l25, l33, l34, l40, l42, l50, l58, l99, l100, l700, l999, l4095, l9999, l10000, x_neg1, nI_add, x_pred, x_m1, x_J1, pk_sub, nJ_pos, Nat.add_sub_cancel, nI_leI, nI_ltI, nI_eq, q_leJ, q_Jle, q_ltJ, q_Jlt, q_eqJ, q_Jeq, q_JJ, q_JJle, q_JJlt, Option.bind_some, if_pos, if_neg, ↓reduceIte, Nat.add_zero, zg118, zi118_0, zi118_1, zi118_2, zi118_3, zi118_4, zi118_5, zi118_6, zr118_7, zr118_8, zr118_36, zr118_39, zr118_40, zi118_41, zr118_44, za128, za119, hR0, hR1, hR2, hR3, hR4, RV_0 rv, RV_t rv, RV_l rv, RV_o rv, RV_s rv, e2, x_one, x_or]
    · rw [if_neg h]
      simp (disch := omega) only [f_X11_inCamp_38, f_X11_inCamp_30, f_X11_inCamp_4, f_X11_inCamp, l0, l1, l2, l3, l4, l5, l6, l7, l8, l9, l10, l11, l12, l13, l14, l15, l16, l17, l18, l19, l20, l21, l22, l23, l24, l25, l33, l34, l40, l42, l50, l58, l99, l100, l700, l999, l4095, l9999, l10000, x_neg1, nI_add, x_pred, x_m1, x_J1, pk_sub, nJ_pos, Nat.add_sub_cancel, nI_leI, nI_ltI, nI_eq, q_leJ, q_Jle, q_ltJ, q_Jlt, q_eqJ, q_Jeq, q_JJ, q_JJle, q_JJlt, Option.bind_some, if_pos, if_neg, ↓reduceIte, Nat.add_zero, zg118, zi118_0, zi118_1, zi118_2, zi118_3, zi118_4, zi118_5, zi118_6, zr118_7, zr118_8, zr118_36, zr118_39, zr118_40, zi118_41, zr118_44, za128, za119, hR0, hR1, hR2, hR3, hR4, RV_0 rv, RV_t rv, RV_l rv, RV_o rv, RV_s rv, e2, x_or]
  · intro k0
    dsimp only
    simp (disch := omega) only [f_X11_inCamp_38, f_X11_inCamp_30, f_X11_inCamp_4, f_X11_inCamp, l0, l1, l2, l3, l4, l5, l6, l7, l8, l9, l10, l11, l12, l13, l14, l15, l16, l17, l18, l19, l20, l21, l22, l23, l24, l25, l33, l34, l40, l42, l50, l58, l99, l100, l700, l999, l4095, l9999, l10000, x_neg1, nI_add, x_pred, x_m1, x_J1, pk_sub, nJ_pos, Nat.add_sub_cancel, nI_leI, nI_ltI, nI_eq, q_leJ, q_Jle, q_ltJ, q_Jlt, q_eqJ, q_Jeq, q_JJ, q_JJle, q_JJlt, Option.bind_some, if_pos, if_neg, ↓reduceIte, Nat.add_zero, zg118, zi118_0, zi118_1, zi118_2, zi118_3, zi118_4, zi118_5, zi118_6, zr118_7, zr118_8, zr118_36, zr118_39, zr118_40, zi118_41, zr118_44, za128, za119, hR0, hR1, hR2, hR3, hR4, RV_0 rv, RV_t rv, RV_l rv, RV_o rv, RV_s rv]
theorem farOf_R (rv : RV σ 0 A P Z om) {a c : Nat} (ha : a < 8) (hc : c < 8) : f_X11_farOf 118 (nI a) (nI c) (mk σ w u) = some (nI (fa Z a c), mk σ w u) := by
  have hT := RV_b rv; have rv2 := rv; obtain ⟨hbb, ⟨⟨hR0, hR1, hR2, hR4, hR3⟩, hmu, hcd⟩, hZ, ⟨hom, hom2⟩, ⟨hB1, hB2, hM8, hR8, hS12, hnm, hmd⟩, ⟨hN2, hW, hD⟩, hP⟩ := rv2
  have h1 := xr12 (hT a ha).1 (hT c hc).1
  unfold fa
  simp (disch := omega) only [f_X11_farOf, l0, l1, l2, l3, l4, l5, l6, l7, l8, l9, l10, l11, l12, l13, l14, l15, l16, l17, l18, l19, l20, l21, l22, l23, l24, l25, l33, l34, l40, l42, l50, l58, l99, l100, l700, l999, l4095, l9999, l10000, x_neg1, nI_add, x_pred, x_m1, x_J1, pk_sub, nJ_pos, Nat.add_sub_cancel, nI_leI, nI_ltI, nI_eq, q_leJ, q_Jle, q_ltJ, q_Jlt, q_eqJ, q_Jeq, q_JJ, q_JJle, q_JJlt, Option.bind_some, if_pos, if_neg, ↓reduceIte, Nat.add_zero, zg118, zi118_0, zi118_1, zi118_2, zi118_3, zi118_4, zi118_5, zi118_6, zr118_7, zr118_8, zr118_36, zr118_39, zr118_40, zi118_41, zr118_44, za128, za119, hR0, hR1, hR2, hR3, hR4, RV_0 rv, RV_t rv, RV_l rv, RV_o rv, RV_s rv, RV_0t rv, x_xor, bits_f]
theorem treadsOf_R (rv : RV σ 0 A P Z om) {set : Nat} (hs : set < 2 ^ 31) : f_X11_treadsOf 118 (nI set) (mk σ w u) = some (nI (tt Z set (A 1)), mk σ w u) := by
  have hT := RV_b rv; have rv2 := rv; obtain ⟨hbb, ⟨⟨hR0, hR1, hR2, hR4, hR3⟩, hmu, hcd⟩, hZ, ⟨hom, hom2⟩, ⟨hB1, hB2, hM8, hR8, hS12, hnm, hmd⟩, ⟨hN2, hW, hD⟩, hP⟩ := rv2
  unfold f_X11_treadsOf l_X11_treadsOf_4
  rw [zg118]
  refine lp_for (fun i => (118, nI set, nI (tt Z set i), nI i, mk σ w u)) (A 1) _ ?_ ?_ (A 1) 0 _ (by omega) (by omega)
  · intro i hi k0
    have h2 := bt_lt set i
    have e1 : tt Z set (i + 1) = tt Z set i ||| (if bt set i = 0 then 0 else Z (1 + i)) := rfl
    rw [e1]
    dsimp only
    by_cases h : bt set i = 0
    · simp (disch := omega) only [f_X11_treadsOf_42, f_X11_treadsOf_34, f_X11_treadsOf_4, f_X11_treadsOf, l0, l1, l2, l3, l4, l5, l6, l7, l8, l9, l10, l11, l12, l13, l14, l15, l16, l17, l18, l19, l20, l21, l22, l23, l24, l25, l33, l34, l40, l42, l50, l58, l99, l100, l700, l999, l4095, l9999, l10000, x_neg1, nI_add, x_pred, x_m1, x_J1, pk_sub, nJ_pos, Nat.add_sub_cancel, nI_leI, nI_ltI, nI_eq, q_leJ, q_Jle, q_ltJ, q_Jlt, q_eqJ, q_Jeq, q_JJ, q_JJle, q_JJlt, Option.bind_some, if_pos, if_neg, ↓reduceIte, Nat.add_zero, zg118, zi118_0, zi118_1, zi118_2, zi118_3, zi118_4, zi118_5, zi118_6, zr118_7, zr118_8, zr118_36, zr118_39, zr118_40, zi118_41, zr118_44, za128, za119, hR0, hR1, hR2, hR3, hR4, RV_0 rv, RV_t rv, RV_l rv, RV_o rv, RV_s rv, RV_0t rv, x_bit, x_or]
    · simp (disch := omega) only [f_X11_treadsOf_42, f_X11_treadsOf_34, f_X11_treadsOf_4, f_X11_treadsOf, l0, l1, l2, l3, l4, l5, l6, l7, l8, l9, l10, l11, l12, l13, l14, l15, l16, l17, l18, l19, l20, l21, l22, l23, l24, l25, l33, l34, l40, l42, l50, l58, l99, l100, l700, l999, l4095, l9999, l10000, x_neg1, nI_add, x_pred, x_m1, x_J1, pk_sub, nJ_pos, Nat.add_sub_cancel, nI_leI, nI_ltI, nI_eq, q_leJ, q_Jle, q_ltJ, q_Jlt, q_eqJ, q_Jeq, q_JJ, q_JJle, q_JJlt, Option.bind_some, if_pos, if_neg, ↓reduceIte, Nat.add_zero, zg118, zi118_0, zi118_1, zi118_2, zi118_3, zi118_4, zi118_5, zi118_6, zr118_7, zr118_8, zr118_36, zr118_39, zr118_40, zi118_41, zr118_44, za128, za119, hR0, hR1, hR2, hR3, hR4, RV_0 rv, RV_t rv, RV_l rv, RV_o rv, RV_s rv, RV_0t rv, x_bit, x_or]
  · intro k0
    dsimp only
    simp (disch := omega) only [f_X11_treadsOf_42, f_X11_treadsOf_34, f_X11_treadsOf_4, f_X11_treadsOf, l0, l1, l2, l3, l4, l5, l6, l7, l8, l9, l10, l11, l12, l13, l14, l15, l16, l17, l18, l19, l20, l21, l22, l23, l24, l25, l33, l34, l40, l42, l50, l58, l99, l100, l700, l999, l4095, l9999, l10000, x_neg1, nI_add, x_pred, x_m1, x_J1, pk_sub, nJ_pos, Nat.add_sub_cancel, nI_leI, nI_ltI, nI_eq, q_leJ, q_Jle, q_ltJ, q_Jlt, q_eqJ, q_Jeq, q_JJ, q_JJle, q_JJlt, Option.bind_some, if_pos, if_neg, ↓reduceIte, Nat.add_zero, zg118, zi118_0, zi118_1, zi118_2, zi118_3, zi118_4, zi118_5, zi118_6, zr118_7, zr118_8, zr118_36, zr118_39, zr118_40, zi118_41, zr118_44, za128, za119, hR0, hR1, hR2, hR3, hR4, RV_0 rv, RV_t rv, RV_l rv, RV_o rv, RV_s rv]
theorem puts0_R (rv : RV σ b A P Z om) {man c : Nat} (hman : man < 31) (hc : c ≤ A 2) : RN (fun τ => Fr (Wb b) σ τ ∧ Rr τ b (pl A man c Z)) w u (f_X11_puts0 118 (nI b) (nI man) (nJ c) (mk σ w u)) := by
  have hT := RV_b rv; have rv2 := rv; obtain ⟨hbb, ⟨⟨hR0, hR1, hR2, hR4, hR3⟩, hmu, hcd⟩, hZ, ⟨hom, hom2⟩, ⟨hB1, hB2, hM8, hR8, hS12, hnm, hmd⟩, ⟨hN2, hW, hD⟩, hP⟩ := rv2
  unfold f_X11_puts0 l_X11_puts0_3
  rw [zg118]
  refine lp_S (RN (fun τ => Fr (Wb b) σ τ ∧ Rr τ b (pl A man c Z)) w u) (fun i τ => (118, nI b, nI man, nJ c, nI i, mk τ w u)) (fun i τ => Fr (Wb b) σ τ ∧ Rr τ b (fun k => if 25 ≤ k ∧ k < 25 + i then an (Z k) (2 ^ man) else Z k)) (A 2) ?_ ?_ (A 2) 0 _ σ (by omega) (by omega) ⟨Fr_r _ _, ?_⟩
  · intro i hi k τ ⟨fr, rr⟩ hk
    have a2 : τ 118 3 = nI (A 2) := by rw [fr 118 3 (by unfold Wb; omega)]; exact hR2
    have e1 := rr (25 + i) (by omega)
    dsimp only at e1
    rw [if_neg (by omega), ← Nat.add_assoc] at e1
    have h := hk (s2 τ 128 (b + 25 + i) (nI (an (Z (25 + i)) (2 ^ man)))) ⟨Fr_st fr (by unfold Wb; omega), Rr_c (Rr_s rr (k := 25 + i) (by omega)) (fun k hk => by
      by_cases h : k = 25 + i
      · rw [un_at h, if_pos (by omega), h]
      · rw [un_off h]
        by_cases h2 : 25 ≤ k ∧ k < 25 + i
        · rw [if_pos h2, if_pos (by omega)]
        · rw [if_neg h2, if_neg (by omega)])⟩
    dsimp only at h ⊢
    simp (disch := omega) only [f_X11_puts0_3, l0, l1, l2, l3, l4, l5, l6, l7, l8, l9, l10, l11, l12, l13, l14, l15, l16, l17, l18, l19, l20, l21, l22, l23, l24, l25, l33, l34, l40, l42, l50, l58, l99, l100, l700, l999, l4095, l9999, l10000, x_neg1, nI_add, x_pred, x_m1, x_J1, pk_sub, nJ_pos, Nat.add_sub_cancel, nI_leI, nI_ltI, nI_eq, q_leJ, q_Jle, q_ltJ, q_Jlt, q_eqJ, q_Jeq, q_JJ, q_JJle, q_JJlt, Option.bind_some, if_pos, if_neg, ↓reduceIte, zi118_3, a2, zr118_36, za128, zb128, e1, x_one, x_andn]
    exact h
  · intro k τ ⟨fr, rr⟩
    have a2 : τ 118 3 = nI (A 2) := by rw [fr 118 3 (by unfold Wb; omega)]; exact hR2
    dsimp only
    by_cases h0 : c = 0
    · refine ⟨τ, ⟨fr, Rr_c rr (fun k hk => ?_)⟩, ?_⟩
      · unfold pl
        by_cases h2 : 25 ≤ k ∧ k < 25 + A 2
        · rw [if_pos h2, if_pos h2, if_neg (by omega)]
        · rw [if_neg h2, if_neg h2]
      · simp (disch := omega) only [f_X11_puts0_3, f_X11_puts0_38, f_X11_puts0_60, l0, l1, l2, l3, l4, l5, l6, l7, l8, l9, l10, l11, l12, l13, l14, l15, l16, l17, l18, l19, l20, l21, l22, l23, l24, l25, l33, l34, l40, l42, l50, l58, l99, l100, l700, l999, l4095, l9999, l10000, x_neg1, nI_add, x_pred, x_m1, x_J1, pk_sub, nJ_pos, Nat.add_sub_cancel, nI_leI, nI_ltI, nI_eq, q_leJ, q_Jle, q_ltJ, q_Jlt, q_eqJ, q_Jeq, q_JJ, q_JJle, q_JJlt, Option.bind_some, if_pos, if_neg, ↓reduceIte, zi118_3, a2]
    · have e1 := rr (25 + (c - 1)) (by omega)
      dsimp only at e1
      rw [if_pos (by omega), ← Nat.add_assoc] at e1
      refine ⟨s2 τ 128 (b + 25 + (c - 1)) (nI (an (Z (25 + (c - 1))) (2 ^ man) ||| 2 ^ man)), ⟨Fr_st fr (by unfold Wb; omega), Rr_c (Rr_s rr (k := 25 + (c - 1)) (by omega)) (fun k hk => ?_)⟩, ?_⟩
      · unfold pl
        by_cases h : k = 25 + (c - 1)
        · rw [un_at h, if_pos (by omega), if_pos (by omega), h]
        · rw [un_off h]
          by_cases h2 : 25 ≤ k ∧ k < 25 + A 2
          · rw [if_pos h2, if_pos h2, if_neg (by omega)]
          · rw [if_neg h2, if_neg h2]
      · simp (disch := omega) only [f_X11_puts0_3, f_X11_puts0_38, f_X11_puts0_60, l0, l1, l2, l3, l4, l5, l6, l7, l8, l9, l10, l11, l12, l13, l14, l15, l16, l17, l18, l19, l20, l21, l22, l23, l24, l25, l33, l34, l40, l42, l50, l58, l99, l100, l700, l999, l4095, l9999, l10000, x_neg1, nI_add, x_pred, x_m1, x_J1, pk_sub, nJ_pos, Nat.add_sub_cancel, nI_leI, nI_ltI, nI_eq, q_leJ, q_Jle, q_ltJ, q_Jlt, q_eqJ, q_Jeq, q_JJ, q_JJle, q_JJlt, Option.bind_some, if_pos, if_neg, ↓reduceIte, zi118_3, a2, zr118_36, za128, zb128, e1, x_one, x_or]
  · refine Rr_c rv.2.2.1 (fun k hk => ?_)
    rw [if_neg (by omega)]
theorem rightOnes_R (rv : RV σ 33 A P Z om) : RQ (Fr Wr σ) w u (nI (rr A P Z (mo A om (Z 0)) (A 2))) (f_X11_rightOnes 118 (mk σ w u)) := by
  have rv0 := rv
  have hT := RV_b rv; have rv2 := rv; obtain ⟨hbb, ⟨⟨hR0, hR1, hR2, hR4, hR3⟩, hmu, hcd⟩, hZ, ⟨hom, hom2⟩, ⟨hB1, hB2, hM8, hR8, hS12, hnm, hmd⟩, ⟨hN2, hW, hD⟩, hP⟩ := rv2
  unfold f_X11_rightOnes l_X11_rightOnes_4
  rw [zg118]
  refine lp_S (RQ (Fr Wr σ) w u (nI (rr A P Z (mo A om (Z 0)) (A 2)))) (fun i τ => (118, nI (rr A P Z (mo A om (Z 0)) i), nI i, mk τ w u)) (fun _ τ => Fr Wr σ τ) (A 2) ?_ ?_ (A 2) 0 _ σ (by omega) (by omega) (Fr_r _ _)
  · intro i hi k τ fr hk
    have rv := RV_fr rv0 fr
    obtain ⟨τ2, g1, g2⟩ := namedOf_f (w := w) (u := u) rv (r := i) hi
    have rv3 := RV_fr rv g1
    have a2 : τ 118 3 = nI (A 2) := rv.2.1.1.2.2.1
    have e3 := RV_3s rv3 i (by omega)
    have hn := na_le A P Z i (mo A om (Z 0)) hS12
    have hb7 := hT i (by omega)
    have h := hk τ2 (Fr_t fr g1)
    dsimp only at h ⊢
    by_cases h1 : na A P Z i (mo A om (Z 0)) = 0
    · rw [rr_S, if_pos h1] at h
      simp (disch := omega) only [f_X11_rightOnes_56, f_X11_rightOnes_48, f_X11_rightOnes_47, f_X11_rightOnes_4, f_X11_rightOnes, l0, l1, l2, l3, l4, l5, l6, l7, l8, l9, l10, l11, l12, l13, l14, l15, l16, l17, l18, l19, l20, l21, l22, l23, l24, l25, l33, l34, l40, l42, l50, l58, l99, l100, l700, l999, l4095, l9999, l10000, x_neg1, nI_add, x_pred, x_m1, x_J1, pk_sub, nJ_pos, Nat.add_sub_cancel, nI_leI, nI_ltI, nI_eq, q_leJ, q_Jle, q_ltJ, q_Jlt, q_eqJ, q_Jeq, q_JJ, q_JJle, q_JJlt, Option.bind_some, if_pos, if_neg, ↓reduceIte, l58, zi118_3, a2, g2, Nat.add_zero]
      exact h
    · have h7 := bt_lt (Z (25 + i)) (na A P Z i (mo A om (Z 0)) - 1)
      by_cases h2 : bt (Z (25 + i)) (na A P Z i (mo A om (Z 0)) - 1) = 0
      · rw [rr_S, if_neg h1, if_pos h2] at h
        simp (disch := omega) only [f_X11_rightOnes_56, f_X11_rightOnes_48, f_X11_rightOnes_47, f_X11_rightOnes_4, f_X11_rightOnes, l0, l1, l2, l3, l4, l5, l6, l7, l8, l9, l10, l11, l12, l13, l14, l15, l16, l17, l18, l19, l20, l21, l22, l23, l24, l25, l33, l34, l40, l42, l50, l58, l99, l100, l700, l999, l4095, l9999, l10000, x_neg1, nI_add, x_pred, x_m1, x_J1, pk_sub, nJ_pos, Nat.add_sub_cancel, nI_leI, nI_ltI, nI_eq, q_leJ, q_Jle, q_ltJ, q_Jlt, q_eqJ, q_Jeq, q_JJ, q_JJle, q_JJlt, Option.bind_some, if_pos, if_neg, ↓reduceIte, l58, zi118_3, a2, g2, zr118_36, za128, e3, x_bit, Nat.add_zero]
        exact h
      · rw [rr_S, if_neg h1, if_neg h2] at h
        simp (disch := omega) only [f_X11_rightOnes_56, f_X11_rightOnes_48, f_X11_rightOnes_47, f_X11_rightOnes_4, f_X11_rightOnes, l0, l1, l2, l3, l4, l5, l6, l7, l8, l9, l10, l11, l12, l13, l14, l15, l16, l17, l18, l19, l20, l21, l22, l23, l24, l25, l33, l34, l40, l42, l50, l58, l99, l100, l700, l999, l4095, l9999, l10000, x_neg1, nI_add, x_pred, x_m1, x_J1, pk_sub, nJ_pos, Nat.add_sub_cancel, nI_leI, nI_ltI, nI_eq, q_leJ, q_Jle, q_ltJ, q_Jlt, q_eqJ, q_Jeq, q_JJ, q_JJle, q_JJlt, Option.bind_some, if_pos, if_neg, ↓reduceIte, l58, zi118_3, a2, g2, zr118_36, za128, e3, x_bit]
        exact h
  · intro k τ fr
    have a2 : τ 118 3 = nI (A 2) := (RV_fr rv0 fr).2.1.1.2.2.1
    dsimp only
    simp (disch := omega) only [f_X11_rightOnes_56, f_X11_rightOnes_48, f_X11_rightOnes_47, f_X11_rightOnes_4, f_X11_rightOnes, l0, l1, l2, l3, l4, l5, l6, l7, l8, l9, l10, l11, l12, l13, l14, l15, l16, l17, l18, l19, l20, l21, l22, l23, l24, l25, l33, l34, l40, l42, l50, l58, l99, l100, l700, l999, l4095, l9999, l10000, x_neg1, nI_add, x_pred, x_m1, x_J1, pk_sub, nJ_pos, Nat.add_sub_cancel, nI_leI, nI_ltI, nI_eq, q_leJ, q_Jle, q_ltJ, q_Jlt, q_eqJ, q_Jeq, q_JJ, q_JJle, q_JJlt, Option.bind_some, if_pos, if_neg, ↓reduceIte, zi118_3, a2]
    exact ⟨τ, fr, rfl⟩
theorem inStep_R (rv : RV σ 0 A P Z om) : RQ (Fr Wr σ) w u (nI (is0 A P Z (mo A om (Z 0)) (A 2))) (f_X11_inStep 118 (mk σ w u)) := by
  have rv0 := rv
  have hT := RV_b rv; have rv2 := rv; obtain ⟨hbb, ⟨⟨hR0, hR1, hR2, hR4, hR3⟩, hmu, hcd⟩, hZ, ⟨hom, hom2⟩, ⟨hB1, hB2, hM8, hR8, hS12, hnm, hmd⟩, ⟨hN2, hW, hD⟩, hP⟩ := rv2
  have hL : ∀ p, he A P Z p (mo A om (Z 0)) < 4096 := fun p => he_lt A P Z p _ hB2
  unfold f_X11_inStep l_X11_inStep_4
  rw [zg118]
  refine lp_S (RQ (Fr Wr σ) w u (nI (is0 A P Z (mo A om (Z 0)) (A 2)))) (fun i τ => (118, nI (is0 A P Z (mo A om (Z 0)) i), nI i, mk τ w u)) (fun _ τ => Fr Wr σ τ) (A 2) ?_ ?_ (A 2) 0 _ σ (by omega) (by omega) (Fr_r _ _)
  · intro i hi k τ fr hk
    have a2 : τ 118 3 = nI (A 2) := (RV_fr rv0 fr).2.1.1.2.2.1
    dsimp only at hk ⊢
    simp (disch := omega) only [f_X11_inStep_4, l0, l1, l2, l3, l4, l5, l6, l7, l8, l9, l10, l11, l12, l13, l14, l15, l16, l17, l18, l19, l20, l21, l22, l23, l24, l25, l33, l34, l40, l42, l50, l58, l99, l100, l700, l999, l4095, l9999, l10000, x_neg1, nI_add, x_pred, x_m1, x_J1, pk_sub, nJ_pos, Nat.add_sub_cancel, nI_leI, nI_ltI, nI_eq, q_leJ, q_Jle, q_ltJ, q_Jlt, q_eqJ, q_Jeq, q_JJ, q_JJle, q_JJlt, Option.bind_some, if_pos, if_neg, ↓reduceIte, zi118_3, a2]
    unfold l_X11_inStep_14
    refine lp_S (RQ (Fr Wr σ) w u (nI (is0 A P Z (mo A om (Z 0)) (A 2)))) (fun j τ => (118, nI (is1 A P Z (mo A om (Z 0)) i (is0 A P Z (mo A om (Z 0)) i) j), nI i, nI j, mk τ w u)) (fun _ τ => Fr Wr σ τ) i ?_ ?_ i 0 _ τ (by omega) (by omega) fr
    · intro j hj k2 τ3 fr3 hk2
      obtain ⟨τ4, g1, g2⟩ := heardOf_f (w := w) (u := u) (RV_fr rv0 fr3) (r := i) hi
      obtain ⟨τ5, g3, g4⟩ := heardOf_f (w := w) (u := u) (RV_fr rv0 (Fr_t fr3 g1)) (r := j) (by omega)
      have h := hk2 τ5 (Fr_t fr3 (Fr_t g1 g3))
      have h1 := hL i
      have h2 := hL j
      have e1 : is1 A P Z (mo A om (Z 0)) i (is0 A P Z (mo A om (Z 0)) i) (j + 1) = is1 A P Z (mo A om (Z 0)) i (is0 A P Z (mo A om (Z 0)) i) j + (if he A P Z i (mo A om (Z 0)) = he A P Z j (mo A om (Z 0)) then 1 else 0) := rfl
      dsimp only at h ⊢
      rw [e1] at h
      by_cases c : he A P Z i (mo A om (Z 0)) = he A P Z j (mo A om (Z 0))
      · rw [if_pos c] at h
        simp (disch := omega) only [f_X11_inStep_14, f_X11_inStep_40, l0, l1, l2, l3, l4, l5, l6, l7, l8, l9, l10, l11, l12, l13, l14, l15, l16, l17, l18, l19, l20, l21, l22, l23, l24, l25, l33, l34, l40, l42, l50, l58, l99, l100, l700, l999, l4095, l9999, l10000, x_neg1, nI_add, x_pred, x_m1, x_J1, pk_sub, nJ_pos, Nat.add_sub_cancel, nI_leI, nI_ltI, nI_eq, q_leJ, q_Jle, q_ltJ, q_Jlt, q_eqJ, q_Jeq, q_JJ, q_JJle, q_JJlt, Option.bind_some, if_pos, if_neg, ↓reduceIte, g2, g4]
        exact h
      · rw [if_neg c] at h
        simp (disch := omega) only [f_X11_inStep_14, f_X11_inStep_40, l0, l1, l2, l3, l4, l5, l6, l7, l8, l9, l10, l11, l12, l13, l14, l15, l16, l17, l18, l19, l20, l21, l22, l23, l24, l25, l33, l34, l40, l42, l50, l58, l99, l100, l700, l999, l4095, l9999, l10000, x_neg1, nI_add, x_pred, x_m1, x_J1, pk_sub, nJ_pos, Nat.add_sub_cancel, nI_leI, nI_ltI, nI_eq, q_leJ, q_Jle, q_ltJ, q_Jlt, q_eqJ, q_Jeq, q_JJ, q_JJle, q_JJlt, Option.bind_some, if_pos, if_neg, ↓reduceIte, g2, g4]
        exact h
    · intro k2 τ3 fr3
      have h := hk τ3 fr3
      dsimp only at h ⊢
      simp (disch := omega) only [f_X11_inStep_14, f_X11_inStep_48, l0, l1, l2, l3, l4, l5, l6, l7, l8, l9, l10, l11, l12, l13, l14, l15, l16, l17, l18, l19, l20, l21, l22, l23, l24, l25, l33, l34, l40, l42, l50, l58, l99, l100, l700, l999, l4095, l9999, l10000, x_neg1, nI_add, x_pred, x_m1, x_J1, pk_sub, nJ_pos, Nat.add_sub_cancel, nI_leI, nI_ltI, nI_eq, q_leJ, q_Jle, q_ltJ, q_Jlt, q_eqJ, q_Jeq, q_JJ, q_JJle, q_JJlt, Option.bind_some, if_pos, if_neg, ↓reduceIte]
      exact h
  · intro k τ fr
    have a2 : τ 118 3 = nI (A 2) := (RV_fr rv0 fr).2.1.1.2.2.1
    dsimp only
    simp (disch := omega) only [f_X11_inStep_4, f_X11_inStep_54, l0, l1, l2, l3, l4, l5, l6, l7, l8, l9, l10, l11, l12, l13, l14, l15, l16, l17, l18, l19, l20, l21, l22, l23, l24, l25, l33, l34, l40, l42, l50, l58, l99, l100, l700, l999, l4095, l9999, l10000, x_neg1, nI_add, x_pred, x_m1, x_J1, pk_sub, nJ_pos, Nat.add_sub_cancel, nI_leI, nI_ltI, nI_eq, q_leJ, q_Jle, q_ltJ, q_Jlt, q_eqJ, q_Jeq, q_JJ, q_JJle, q_JJlt, Option.bind_some, if_pos, if_neg, ↓reduceIte, zi118_3, a2]
    exact ⟨τ, fr, rfl⟩
end RC
