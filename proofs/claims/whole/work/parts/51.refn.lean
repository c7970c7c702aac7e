/-! L3: the reference: who is named; nights -/
def Wn0 (q k : Nat) : Prop := q = 130 ∨ q = 131 ∨ q = 132 ∨ (q = 118 ∧ (k = 42 ∨ k = 43))
def Wn (b q k : Nat) : Prop := q = 130 ∨ q = 131 ∨ q = 132 ∨ (q = 118 ∧ (k = 42 ∨ k = 43)) ∨ (q = 128 ∧ b ≤ k ∧ k < b + 33)
def mbt (A : Nat → Nat) (P : List (Nat × Nat)) (X : Nat → Nat) (w : Nat) : Nat → Nat := it (fun r v => if na A P X r w = 0 then v else if bt (X (25 + r)) (na A P X r w - 1) = 0 then v ||| 2 ^ r else v) 0
theorem mbt_S (A : Nat → Nat) (P : List (Nat × Nat)) (X : Nat → Nat) (w i : Nat) : mbt A P X w (i + 1) = if na A P X i w = 0 then mbt A P X w i else if bt (X (25 + i)) (na A P X i w - 1) = 0 then mbt A P X w i ||| 2 ^ i else mbt A P X w i := rfl
theorem tn_0 {A : Nat → Nat} {P : List (Nat × Nat)} {X : Nat → Nat} {c w : Nat} (hS : A 3 ≤ 12) (h : A 1 < c) : ∀ n, tn A P X c w n = 0 := by
  intro n
  induction n with
  | zero => rfl
  | succ n ih =>
    have h2 := na_le A P X n w hS
    rw [tn_S, ih, if_neg (by omega)]
section RB
variable {σ τ : Nat → Nat → Int32} {w u : Int64} {b om : Nat} {A Z : Nat → Nat} {P : List (Nat × Nat)} {v : Int32}
theorem Wr_0 (h : Fr Wr σ τ) : Fr Wn0 σ τ := Fr_m h (fun q k e => by unfold Wn0; unfold Wr at e; omega)
theorem W0_n (h : Fr Wn0 σ τ) : Fr (Wn b) σ τ := Fr_m h (fun q k e => by unfold Wn; unfold Wn0 at e; omega)
theorem Rr_s (rr : Rr τ b Z) {j k a : Nat} (hj : j = b + k) : Rr (s2 τ 128 j (nI a)) b (un Z k a) := by
  intro i hi
  by_cases h : i = k
  · rw [s2_at rfl (by omega), un_at h]
  · rw [s2_off (by omega), un_off h]
    exact rr i hi
theorem Rr_c {Y : Nat → Nat} (rr : Rr τ b Z) (h : ∀ k, k < 33 → Z k = Y k) : Rr τ b Y := fun k hk => by rw [← h k hk]; exact rr k hk
theorem Rr_F {W : Nat → Nat → Prop} (rr : Rr σ b Z) (fr : Fr W σ τ) (hw : ∀ k, W 128 k → ¬ (b ≤ k ∧ k < b + 33)) : Rr τ b Z := fun k hk => by rw [fr 128 (b + k) (fun e => hw _ e ⟨by omega, by omega⟩)]; exact rr k hk
theorem nearestTo_f (rv : RV σ b A P Z om) {h : Nat} (hh : h < 4096) : f_X11_nearestTo 118 (nI b) (nI h) (mk σ w u) = some (nJ (nmb A Z h (A 1)).1, mk σ w u) := by
  have hT := RV_b rv; have rv2 := rv; obtain ⟨hbb, ⟨⟨hR0, hR1, hR2, hR4, hR3⟩, hmu, hcd⟩, hZ, ⟨hom, hom2⟩, ⟨hB1, hB2, hM8, hR8, hS12, hnm, hmd⟩, ⟨hN2, hW, hD⟩, hP⟩ := rv2
  unfold f_X11_nearestTo
  rw [zg118, zi118_5, Option.bind_some, hR3, nI_1]
  unfold l_X11_nearestTo_13
  refine lp_for (fun i => (118, nI b, nI h, nJ (nmb A Z h i).1, nI (nmb A Z h i).2, nI i, mk σ w u)) (A 1) _ ?_ ?_ (A 1) 0 _ (by omega) (by omega)
  · intro i hi k0
    have h1 := hT i (by omega)
    have h2 := xr12 h1.1 hh
    have h3 := nmb_le A Z h hS12 i
    have h4 := pc_le (Z (1 + i) ^^^ h) 12
    have e1 : nmb A Z h (i + 1) = if (nmb A Z h i).2 ≤ pc (Z (1 + i) ^^^ h) 12 then nmb A Z h i else (i + 1, pc (Z (1 + i) ^^^ h) 12) := rfl
    dsimp only
    by_cases h5 : (nmb A Z h i).2 ≤ pc (Z (1 + i) ^^^ h) 12
    · rw [e1, if_pos h5]
      simp (disch := omega) only [f_X11_nearestTo_13, f_X11_nearestTo_57, l0, l1, l2, l3, l4, l5, l6, l7, l8, l9, l10, l11, l12, l13, l14, l15, l16, l17, l18, l19, l20, l21, l22, l23, l24, l25, l33, l34, l40, l42, l50, l58, l99, l100, l700, l999, l4095, l9999, l10000, x_neg1, nI_add, x_pred, x_m1, x_J1, pk_sub, nJ_pos, Nat.add_sub_cancel, nI_leI, nI_ltI, nI_eq, q_leJ, q_Jle, q_ltJ, q_Jlt, q_eqJ, q_Jeq, q_JJ, q_JJle, q_JJlt, Option.bind_some, if_pos, if_neg, ↓reduceIte, Nat.add_zero, zg118, zi118_0, zi118_1, zi118_2, zi118_3, zi118_4, zi118_5, zi118_6, zr118_7, zr118_8, zr118_36, zr118_39, zr118_40, zi118_41, zr118_44, za128, za119, hR0, hR1, hR2, hR3, hR4, RV_0 rv, RV_t rv, RV_l rv, RV_o rv, RV_s rv, x_xor, bits_f]
    · rw [e1, if_neg h5]
      simp (disch := omega) only [f_X11_nearestTo_13, f_X11_nearestTo_57, l0, l1, l2, l3, l4, l5, l6, l7, l8, l9, l10, l11, l12, l13, l14, l15, l16, l17, l18, l19, l20, l21, l22, l23, l24, l25, l33, l34, l40, l42, l50, l58, l99, l100, l700, l999, l4095, l9999, l10000, x_neg1, nI_add, x_pred, x_m1, x_J1, pk_sub, nJ_pos, Nat.add_sub_cancel, nI_leI, nI_ltI, nI_eq, q_leJ, q_Jle, q_ltJ, q_Jlt, q_eqJ, q_Jeq, q_JJ, q_JJle, q_JJlt, Option.bind_some, if_pos, if_neg, ↓reduceIte, Nat.add_zero, zg118, zi118_0, zi118_1, zi118_2, zi118_3, zi118_4, zi118_5, zi118_6, zr118_7, zr118_8, zr118_36, zr118_39, zr118_40, zi118_41, zr118_44, za128, za119, hR0, hR1, hR2, hR3, hR4, RV_0 rv, RV_t rv, RV_l rv, RV_o rv, RV_s rv, x_xor, bits_f, nJ_S]
  · intro k0
    dsimp only
    simp (disch := omega) only [f_X11_nearestTo_13, f_X11_nearestTo_63, l0, l1, l2, l3, l4, l5, l6, l7, l8, l9, l10, l11, l12, l13, l14, l15, l16, l17, l18, l19, l20, l21, l22, l23, l24, l25, l33, l34, l40, l42, l50, l58, l99, l100, l700, l999, l4095, l9999, l10000, x_neg1, nI_add, x_pred, x_m1, x_J1, pk_sub, nJ_pos, Nat.add_sub_cancel, nI_leI, nI_ltI, nI_eq, q_leJ, q_Jle, q_ltJ, q_Jlt, q_eqJ, q_Jeq, q_JJ, q_JJle, q_JJlt, Option.bind_some, if_pos, if_neg, ↓reduceIte, Nat.add_zero, zg118, zi118_0, zi118_1, zi118_2, zi118_3, zi118_4, zi118_5, zi118_6, zr118_7, zr118_8, zr118_36, zr118_39, zr118_40, zi118_41, zr118_44, za128, za119, hR0, hR1, hR2, hR3, hR4, RV_0 rv, RV_t rv, RV_l rv, RV_o rv, RV_s rv]
theorem namedOf_f (rv : RV σ b A P Z om) {r : Nat} (hr : r < A 2) : RQ (Fr Wr σ) w u (nJ (na A P Z r (mo A om (Z 0)))) (f_X11_namedOf 118 (nI b) (nI r) (mk σ w u)) := by
  obtain ⟨τ, g1, g2⟩ := heardOf_f (w := w) (u := u) rv hr
  refine ⟨τ, g1, ?_⟩
  unfold f_X11_namedOf
  rw [zg118, g2, Option.bind_some]
  dsimp only
  rw [nearestTo_f (RV_fr rv g1) (he_lt A P Z r _ rv.2.2.2.2.1.2.1), Option.bind_some]
  dsimp only
  unfold na
  rfl
/-- what holds behind a night -/
def NQ (σ : Nat → Nat → Int32) (b : Nat) (A : Nat → Nat) (P : List (Nat × Nat)) (Z : Nat → Nat) (W : Nat) (τ : Nat → Nat → Int32) : Prop := Fr (Wn b) σ τ ∧ Rr τ b (ng A P W Z) ∧ τ 118 42 = nI (nbt A P Z W (A 2)) ∧ τ 118 43 = nI (mbt A P Z W (A 2)) ∧ ∀ m, m < 8 → τ 132 m = nI (tn A P Z (m + 1) W (A 2))
theorem ng_a {W : Nat} (rv0 : RV σ b A P Z om) (fr : Fr (Wn b) σ τ) (rr2 : Rr τ b (hu A P Z W (A 2) Z)) (e1 : τ 118 42 = nI (nbt A P Z W (A 2))) (e2 : τ 118 43 = nI (mbt A P Z W (A 2))) (e3 : ∀ m, m < 8 → τ 132 m = nI (tn A P Z (m + 1) W (A 2))) : RN (NQ σ b A P Z W) w u (l_X11_nightGoes_176 118 (nI b) (nI (hu A P Z W (A 2) Z 25)) 1 (mk τ w u)) := by
  have rv := rv0
  have hT := RV_b rv; have rv2 := rv; obtain ⟨hbb, ⟨⟨hR0, hR1, hR2, hR4, hR3⟩, hmu, hcd⟩, hZ, ⟨hom, hom2⟩, ⟨hB1, hB2, hM8, hR8, hS12, hnm, hmd⟩, ⟨hN2, hW, hD⟩, hP⟩ := rv2
  have hRa : ∀ τ, Fr (Wn b) σ τ → Ra τ A P := fun τ fr => Ra_F rv0.2.1 fr (fun q k e => by unfold Wn at e; omega)
  unfold l_X11_nightGoes_176
  refine lp_S (RN (NQ σ b A P Z W) w u) (fun i τ => (118, nI b, nI (hu A P Z W (A 2) Z 25), nI (1 + i), mk τ w u)) (fun i τ => Fr (Wn b) σ τ ∧ Rr τ b (fun k => if 25 ≤ k ∧ k < 25 + i then hu A P Z W (A 2) Z (k + 1) else hu A P Z W (A 2) Z k) ∧ τ 118 42 = nI (nbt A P Z W (A 2)) ∧ τ 118 43 = nI (mbt A P Z W (A 2)) ∧ ∀ m, m < 8 → τ 132 m = nI (tn A P Z (m + 1) W (A 2))) (A 2 - 1) ?_ ?_ (A 2 - 1) 0 _ τ (by omega) (by omega) ⟨fr, Rr_c rr2 (fun k hk => by rw [if_neg (by omega)]), e1, e2, e3⟩
  · intro i hi k τ ⟨fr, rr, e1, e2, e3⟩ hk
    have a2 : τ 118 3 = nI (A 2) := (hRa τ fr).1.2.2.1
    have c1 := rr (25 + (1 + i)) (by omega)
    dsimp only at c1
    rw [if_neg (by omega), ← Nat.add_assoc] at c1
    have h := hk (s2 τ 128 (b + 25 + (1 + i) - 1) (nI (hu A P Z W (A 2) Z (25 + (1 + i))))) ⟨Fr_st fr (by unfold Wn; omega), Rr_c (Rr_s rr (k := 25 + i) (by omega)) (fun k hk => by
      by_cases h : k = 25 + i
      · rw [un_at h, if_pos (by omega), h]
        exact congrArg (hu A P Z W (A 2) Z) (by omega)
      · rw [un_off h]
        by_cases h2 : 25 ≤ k ∧ k < 25 + i
        · rw [if_pos h2, if_pos (by omega)]
        · rw [if_neg h2, if_neg (by omega)]), by rw [s2_off (by omega)]; exact e1, by rw [s2_off (by omega)]; exact e2, fun m hm => by rw [s2_off (by omega)]; exact e3 m hm⟩
    dsimp only at h ⊢
    rw [show 1 + (i + 1) = 1 + i + 1 by omega] at h
    simp (disch := omega) only [f_X11_nightGoes_176, l0, l1, l2, l3, l4, l5, l6, l7, l8, l9, l10, l11, l12, l13, l14, l15, l16, l17, l18, l19, l20, l21, l22, l23, l24, l25, l33, l34, l40, l42, l50, l58, l99, l100, l700, l999, l4095, l9999, l10000, x_neg1, nI_add, x_pred, x_m1, x_J1, pk_sub, nJ_pos, Nat.add_sub_cancel, nI_leI, nI_ltI, nI_eq, q_leJ, q_Jle, q_ltJ, q_Jlt, q_eqJ, q_Jeq, q_JJ, q_JJle, q_JJlt, Option.bind_some, if_pos, if_neg, ↓reduceIte, zi118_3, a2, zr118_36, za128, c1, zb128]
    exact h
  · intro k τ ⟨fr, rr, e1, e2, e3⟩
    have a2 : τ 118 3 = nI (A 2) := (hRa τ fr).1.2.2.1
    have ex : hu A P Z W (A 2) Z 0 = Z 0 := hu_k (by omega)
    dsimp only
    by_cases h0 : A 2 = 0
    · have e5 : τ 128 b = nI (Z 0) := by
        have h := rr 0 (by omega)
        dsimp only at h
        rw [if_neg (by omega), ex] at h
        exact h
      refine ⟨s2 τ 128 b (nI (Z 0 + 1)), ⟨Fr_st fr (by unfold Wn; omega), Rr_c (Rr_s rr (k := 0) rfl) (fun k hk => ?_), by rw [s2_off (by omega)]; exact e1, by rw [s2_off (by omega)]; exact e2, fun m hm => by rw [s2_off (by omega)]; exact e3 m hm⟩, ?_⟩
      · unfold ng rt
        by_cases h : k = 0
        · rw [un_at h, if_pos h, ex]
        · rw [un_off h, if_neg h, if_neg (by omega), if_neg (by omega)]
      · simp (disch := omega) only [f_X11_nightGoes_176, f_X11_nightGoes_214, f_X11_nightGoes_238, l0, l1, l2, l3, l4, l5, l6, l7, l8, l9, l10, l11, l12, l13, l14, l15, l16, l17, l18, l19, l20, l21, l22, l23, l24, l25, l33, l34, l40, l42, l50, l58, l99, l100, l700, l999, l4095, l9999, l10000, x_neg1, nI_add, x_pred, x_m1, x_J1, pk_sub, nJ_pos, Nat.add_sub_cancel, nI_leI, nI_ltI, nI_eq, q_leJ, q_Jle, q_ltJ, q_Jlt, q_eqJ, q_Jeq, q_JJ, q_JJle, q_JJlt, Option.bind_some, if_pos, if_neg, ↓reduceIte, Nat.add_zero, zi118_3, a2, zr118_36, za128, e5, zb128]
    · have e5 : (s2 τ 128 (b + 25 + A 2 - 1) (nI (hu A P Z W (A 2) Z 25))) 128 b = nI (Z 0) := by
        have h := rr 0 (by omega)
        dsimp only at h
        rw [if_neg (by omega), ex] at h
        rw [s2_off (by omega)]
        exact h
      refine ⟨s2 (s2 τ 128 (b + 25 + A 2 - 1) (nI (hu A P Z W (A 2) Z 25))) 128 b (nI (Z 0 + 1)), ⟨Fr_st (Fr_st fr (by unfold Wn; omega)) (by unfold Wn; omega), Rr_c (Rr_s (Rr_s rr (k := 25 + (A 2 - 1)) (by omega)) (k := 0) rfl) (fun k hk => ?_), by rw [s2_off (by omega), s2_off (by omega)]; exact e1, by rw [s2_off (by omega), s2_off (by omega)]; exact e2, fun m hm => by rw [s2_off (by omega), s2_off (by omega)]; exact e3 m hm⟩, ?_⟩
      · unfold ng rt
        by_cases h : k = 0
        · rw [un_at h, if_pos h, ex]
        · rw [un_off h, if_neg h]
          by_cases h2 : 25 ≤ k ∧ k < 25 + A 2
          · rw [if_pos h2]
            by_cases h3 : k = 25 + (A 2 - 1)
            · rw [un_at h3, h3, show 25 + (A 2 - 1) - 25 + 1 = A 2 by omega, Nat.mod_self]
            · rw [un_off h3, if_pos (by omega), Nat.mod_eq_of_lt (by omega)]
              exact congrArg (hu A P Z W (A 2) Z) (by omega)
          · rw [un_off (by omega), if_neg (by omega), if_neg h2]
      · simp (disch := omega) only [f_X11_nightGoes_176, f_X11_nightGoes_214, f_X11_nightGoes_238, l0, l1, l2, l3, l4, l5, l6, l7, l8, l9, l10, l11, l12, l13, l14, l15, l16, l17, l18, l19, l20, l21, l22, l23, l24, l25, l33, l34, l40, l42, l50, l58, l99, l100, l700, l999, l4095, l9999, l10000, x_neg1, nI_add, x_pred, x_m1, x_J1, pk_sub, nJ_pos, Nat.add_sub_cancel, nI_leI, nI_ltI, nI_eq, q_leJ, q_Jle, q_ltJ, q_Jlt, q_eqJ, q_Jeq, q_JJ, q_JJle, q_JJlt, Option.bind_some, if_pos, if_neg, ↓reduceIte, Nat.add_zero, zi118_3, a2, zr118_36, za128, e5, zb128]
theorem ng_b {W : Nat} (rv0 : RV σ b A P Z om) (fr : Fr Wn0 σ τ) (e1 : τ 118 42 = nI (nbt A P Z W (A 2))) (e2 : τ 118 43 = nI (mbt A P Z W (A 2))) (e3 : ∀ m, m < 8 → τ 132 m = nI (tn A P Z (m + 1) W (A 2))) : RN (NQ σ b A P Z W) w u (l_X11_nightGoes_116 118 (nI b) (nI 0) (mk τ w u)) := by
  have rv := rv0
  have hT := RV_b rv; have rv2 := rv; obtain ⟨hbb, ⟨⟨hR0, hR1, hR2, hR4, hR3⟩, hmu, hcd⟩, hZ, ⟨hom, hom2⟩, ⟨hB1, hB2, hM8, hR8, hS12, hnm, hmd⟩, ⟨hN2, hW, hD⟩, hP⟩ := rv2
  have hRV : ∀ τ, Fr Wn0 σ τ → RV τ b A P Z om := fun τ fr => RV_F rv0 fr (fun q k e => by unfold Wn0 at e; omega)
  have hRa : ∀ τ, Fr (Wn b) σ τ → Ra τ A P := fun τ fr => Ra_F rv0.2.1 fr (fun q k e => by unfold Wn at e; omega)
  have rv := hRV τ fr
  unfold l_X11_nightGoes_116
  refine lp_S (RN (NQ σ b A P Z W) w u) (fun i τ => (118, nI b, nI i, mk τ w u)) (fun i τ => Fr (Wn b) σ τ ∧ Rr τ b (fun k => if 17 ≤ k ∧ k < 17 + i then hu A P Z W (A 2) Z k else Z k) ∧ τ 118 42 = nI (nbt A P Z W (A 2)) ∧ τ 118 43 = nI (mbt A P Z W (A 2)) ∧ ∀ m, m < 8 → τ 132 m = nI (tn A P Z (m + 1) W (A 2))) (A 1) ?_ ?_ (A 1) 0 _ τ (by omega) (by omega) ⟨W0_n fr, Rr_c rv.2.2.1 (fun k hk => by rw [if_neg (by omega)]), e1, e2, e3⟩
  · intro i hi k τ ⟨fr, rr, e1, e2, e3⟩ hk
    have a1 : τ 118 2 = nI (A 1) := (hRa τ fr).1.2.1
    have c1 := rr (17 + i) (by omega)
    dsimp only at c1
    rw [if_neg (by omega)] at c1
    have c2 := e3 i (by omega)
    have c3 := tn_le A P Z (i + 1) W (A 2)
    have c4 := (hT i (by omega)).2.2.1
    have h := hk (s2 τ 128 (b + 17 + i) (nI (min 99 (Z (17 + i) + tn A P Z (i + 1) W (A 2))))) ⟨Fr_st fr (by unfold Wn; omega), Rr_c (Rr_s rr (k := 17 + i) (by omega)) (fun k hk => by
      by_cases h : k = 17 + i
      · rw [un_at h, if_pos (by omega), h, hu_h (by omega)]
      · rw [un_off h]
        by_cases h2 : 17 ≤ k ∧ k < 17 + i
        · rw [if_pos h2, if_pos (by omega)]
        · rw [if_neg h2, if_neg (by omega)]), by rw [s2_off (by omega)]; exact e1, by rw [s2_off (by omega)]; exact e2, fun m hm => by rw [s2_off (by omega)]; exact e3 m hm⟩
    rw [← Nat.add_assoc] at c1
    dsimp only at h ⊢
    simp (disch := omega) only [f_X11_nightGoes_116, l0, l1, l2, l3, l4, l5, l6, l7, l8, l9, l10, l11, l12, l13, l14, l15, l16, l17, l18, l19, l20, l21, l22, l23, l24, l25, l33, l34, l40, l42, l50, l58, l99, l100, l700, l999, l4095, l9999, l10000, x_neg1, nI_add, x_pred, x_m1, x_J1, pk_sub, nJ_pos, Nat.add_sub_cancel, nI_leI, nI_ltI, nI_eq, q_leJ, q_Jle, q_ltJ, q_Jlt, q_eqJ, q_Jeq, q_JJ, q_JJle, q_JJlt, Option.bind_some, if_pos, if_neg, ↓reduceIte, zi118_2, a1, zr118_36, zr118_44, za128, za132, c1, c2, lesser_f, zb128]
    exact h
  · intro k τ ⟨fr, rr, e1, e2, e3⟩
    have a1 : τ 118 2 = nI (A 1) := (hRa τ fr).1.2.1
    have rr2 : Rr τ b (hu A P Z W (A 2) Z) := Rr_c rr (fun k hk => by
      by_cases h2 : 17 ≤ k ∧ k < 17 + A 1
      · rw [if_pos h2]
      · rw [if_neg h2]
        unfold hu
        split
        · next h =>
          rw [tn_0 hS12 (by omega)]
          have h5 := (hT (k - 17) (by omega)).2.2.1
          rw [show 17 + (k - 17) = k by omega] at h5
          omega
        · rfl)
    have c0 := rr2 25 (by omega)
    dsimp only
    unfold f_X11_nightGoes_116
    rw [zi118_2, Option.bind_some, a1, if_pos (nI_le (Nat.le_refl _) (by omega))]
    unfold f_X11_nightGoes_164
    rw [zr118_36, Option.bind_some, show nI b + 25 = nI (b + 25) from nI_add b 25, za128 (by omega), Option.bind_some, c0]
    exact ng_a rv0 fr rr2 e1 e2 e3
theorem ng_c {W : Nat} (hW0 : W = mo A om (Z 0)) (rv0 : RV σ b A P Z om) (fr : Fr Wn0 σ τ) (e1 : τ 118 42 = nI 0) (e2 : τ 118 43 = nI 0) (e3 : ∀ m, m < 8 → τ 132 m = nI 0) : RN (NQ σ b A P Z W) w u (l_X11_nightGoes_33 118 (nI b) (nI 0) (mk τ w u)) := by
  have rv := rv0
  have hT := RV_b rv; have rv2 := rv; obtain ⟨hbb, ⟨⟨hR0, hR1, hR2, hR4, hR3⟩, hmu, hcd⟩, hZ, ⟨hom, hom2⟩, ⟨hB1, hB2, hM8, hR8, hS12, hnm, hmd⟩, ⟨hN2, hW, hD⟩, hP⟩ := rv2
  have hRV : ∀ τ, Fr Wn0 σ τ → RV τ b A P Z om := fun τ fr => RV_F rv0 fr (fun q k e => by unfold Wn0 at e; omega)
  unfold l_X11_nightGoes_33
  refine lp_S (RN (NQ σ b A P Z W) w u) (fun i τ => (118, nI b, nI i, mk τ w u)) (fun i τ => Fr Wn0 σ τ ∧ τ 118 42 = nI (nbt A P Z W i) ∧ τ 118 43 = nI (mbt A P Z W i) ∧ ∀ m, m < 8 → τ 132 m = nI (tn A P Z (m + 1) W i)) (A 2) ?_ ?_ (A 2) 0 _ τ (by omega) (by omega) ⟨fr, e1, e2, e3⟩
  · intro i hi k τ ⟨fr, e1, e2, e3⟩ hk
    obtain ⟨τ2, g1, g2⟩ := namedOf_f (w := w) (u := u) (hRV τ fr) (r := i) hi
    rw [← hW0] at g2
    have fr2 := Fr_t fr (Wr_0 g1)
    have hn := na_le A P Z i W hS12
    have rv := hRV τ fr
    have a2 : τ 118 3 = nI (A 2) := rv.2.1.1.2.2.1
    have c1 : τ2 118 42 = nI (nbt A P Z W i) := by rw [g1 118 42 (by unfold Wr; omega)]; exact e1
    have c2 : τ2 118 43 = nI (mbt A P Z W i) := by rw [g1 118 43 (by unfold Wr; omega)]; exact e2
    have c3 : ∀ m, m < 8 → τ2 132 m = nI (tn A P Z (m + 1) W i) := fun m hm => by rw [g1 132 m (by unfold Wr; omega)]; exact e3 m hm
    dsimp only at hk ⊢
    by_cases h1 : na A P Z i W = 0
    · have h := hk τ2 ⟨fr2, by rw [nbt_S, if_pos h1]; exact c1, by rw [mbt_S, if_pos h1]; exact c2, fun m hm => by rw [tn_S, if_neg (by omega)]; exact c3 m hm⟩
      simp (disch := omega) only [f_X11_nightGoes_33, f_X11_nightGoes_108, l0, l1, l2, l3, l4, l5, l6, l7, l8, l9, l10, l11, l12, l13, l14, l15, l16, l17, l18, l19, l20, l21, l22, l23, l24, l25, l33, l34, l40, l42, l50, l58, l99, l100, l700, l999, l4095, l9999, l10000, x_neg1, nI_add, x_pred, x_m1, x_J1, pk_sub, nJ_pos, Nat.add_sub_cancel, nI_leI, nI_ltI, nI_eq, q_leJ, q_Jle, q_ltJ, q_Jlt, q_eqJ, q_Jeq, q_JJ, q_JJle, q_JJlt, Option.bind_some, if_pos, if_neg, ↓reduceIte, zi118_3, a2, g2]
      exact h
    · obtain ⟨c, hc⟩ : ∃ c, na A P Z i W = c + 1 := ⟨na A P Z i W - 1, by omega⟩
      rw [hc, nJ_S] at g2
      have hb7 := hT i (by omega)
      have h7 := bt_lt (Z (25 + i)) c
      have d1 : (s2 τ2 118 42 (nI (nbt A P Z W i ||| 2 ^ c))) 132 c = nI (tn A P Z (c + 1) W i) := by rw [s2_off (by omega)]; exact c3 c (by omega)
      have fr3 : Fr Wn0 σ (s2 (s2 τ2 118 42 (nI (nbt A P Z W i ||| 2 ^ c))) 132 c (nI (tn A P Z (c + 1) W i + 1))) := Fr_st (Fr_st fr2 (by unfold Wn0; omega)) (by unfold Wn0; omega)
      have d2 := RV_s (hRV _ fr3) i (by omega)
      have d3 : (s2 (s2 τ2 118 42 (nI (nbt A P Z W i ||| 2 ^ c))) 132 c (nI (tn A P Z (c + 1) W i + 1))) 118 43 = nI (mbt A P Z W i) := by rw [s2_off (by omega), s2_off (by omega)]; exact c2
      have d4 : ∀ m, m < 8 → (s2 (s2 τ2 118 42 (nI (nbt A P Z W i ||| 2 ^ c))) 132 c (nI (tn A P Z (c + 1) W i + 1))) 132 m = nI (tn A P Z (m + 1) W (i + 1)) := fun m hm => by
        rw [tn_S]
        by_cases hmc : m = c
        · rw [s2_at rfl hmc, if_pos (by omega), hmc]
        · rw [s2_off (by omega), s2_off (by omega), if_neg (by omega)]
          exact c3 m hm
      by_cases h2 : bt (Z (25 + i)) c = 0
      · have h := hk (s2 (s2 (s2 τ2 118 42 (nI (nbt A P Z W i ||| 2 ^ c))) 132 c (nI (tn A P Z (c + 1) W i + 1))) 118 43 (nI (mbt A P Z W i ||| 2 ^ i))) ⟨Fr_st fr3 (by unfold Wn0; omega), by rw [s2_off (by omega), s2_off (by omega), s2_at rfl rfl, nbt_S, if_neg h1, hc, Nat.add_sub_cancel], by rw [s2_at rfl rfl, mbt_S, if_neg h1, hc, Nat.add_sub_cancel, if_pos h2], fun m hm => by rw [s2_off (by omega)]; exact d4 m hm⟩
        simp (disch := omega) only [f_X11_nightGoes_33, f_X11_nightGoes_108, l0, l1, l2, l3, l4, l5, l6, l7, l8, l9, l10, l11, l12, l13, l14, l15, l16, l17, l18, l19, l20, l21, l22, l23, l24, l25, l33, l34, l40, l42, l50, l58, l99, l100, l700, l999, l4095, l9999, l10000, x_neg1, nI_add, x_pred, x_m1, x_J1, pk_sub, nJ_pos, Nat.add_sub_cancel, nI_leI, nI_ltI, nI_eq, q_leJ, q_Jle, q_ltJ, q_Jlt, q_eqJ, q_Jeq, q_JJ, q_JJle, q_JJlt, Option.bind_some, if_pos, if_neg, ↓reduceIte, zi118_3, a2, g2, zi118_42, c1, x_one, x_or, zw118_42, zr118_44, za132, d1, zb132, zr118_36, za128, d2, x_bit, zi118_43, d3, zw118_43]
        exact h
      · have h := hk (s2 (s2 τ2 118 42 (nI (nbt A P Z W i ||| 2 ^ c))) 132 c (nI (tn A P Z (c + 1) W i + 1))) ⟨fr3, by rw [s2_off (by omega), s2_at rfl rfl, nbt_S, if_neg h1, hc, Nat.add_sub_cancel], by rw [d3, mbt_S, if_neg h1, hc, Nat.add_sub_cancel, if_neg h2], d4⟩
        simp (disch := omega) only [f_X11_nightGoes_33, f_X11_nightGoes_108, l0, l1, l2, l3, l4, l5, l6, l7, l8, l9, l10, l11, l12, l13, l14, l15, l16, l17, l18, l19, l20, l21, l22, l23, l24, l25, l33, l34, l40, l42, l50, l58, l99, l100, l700, l999, l4095, l9999, l10000, x_neg1, nI_add, x_pred, x_m1, x_J1, pk_sub, nJ_pos, Nat.add_sub_cancel, nI_leI, nI_ltI, nI_eq, q_leJ, q_Jle, q_ltJ, q_Jlt, q_eqJ, q_Jeq, q_JJ, q_JJle, q_JJlt, Option.bind_some, if_pos, if_neg, ↓reduceIte, zi118_3, a2, g2, zi118_42, c1, x_one, x_or, zw118_42, zr118_44, za132, d1, zb132, zr118_36, za128, d2, x_bit]
        exact h
  · intro k τ ⟨fr, e1, e2, e3⟩
    have rv := hRV τ fr
    have a2 : τ 118 3 = nI (A 2) := rv.2.1.1.2.2.1
    dsimp only
    simp (disch := omega) only [f_X11_nightGoes_33, f_X11_nightGoes_114, l0, l1, l2, l3, l4, l5, l6, l7, l8, l9, l10, l11, l12, l13, l14, l15, l16, l17, l18, l19, l20, l21, l22, l23, l24, l25, l33, l34, l40, l42, l50, l58, l99, l100, l700, l999, l4095, l9999, l10000, x_neg1, nI_add, x_pred, x_m1, x_J1, pk_sub, nJ_pos, Nat.add_sub_cancel, nI_leI, nI_ltI, nI_eq, q_leJ, q_Jle, q_ltJ, q_Jlt, q_eqJ, q_Jeq, q_JJ, q_JJle, q_JJlt, Option.bind_some, if_pos, if_neg, ↓reduceIte, zi118_3, a2]
    exact ng_b rv0 fr e1 e2 e3
theorem nightGoes_f (rv : RV σ b A P Z om) : RN (NQ σ b A P Z (mo A om (Z 0))) w u (f_X11_nightGoes 118 (nI b) (mk σ w u)) := by
  have rv0 := rv
  obtain ⟨W, hW0⟩ : ∃ W, W = mo A om (Z 0) := ⟨_, rfl⟩
  rw [← hW0]
  unfold f_X11_nightGoes
  rw [zg118, zw118_42, Option.bind_some, zw118_43, Option.bind_some]
  unfold l_X11_nightGoes_12
  refine lp_S (RN (NQ σ b A P Z W) w u) (fun i τ => (118, nI b, nI i, mk τ w u)) (fun i τ => Fr Wn0 σ τ ∧ τ 118 42 = nI 0 ∧ τ 118 43 = nI 0 ∧ ∀ m, m < i → τ 132 m = nI 0) 8 ?_ ?_ 8 0 _ _ (by omega) (by omega) ⟨Fr_st (Fr_s (by unfold Wn0; omega)) (by unfold Wn0; omega), by rw [s2_off (by omega), s2_at rfl rfl]; rfl, by rw [s2_at rfl rfl]; rfl, fun m hm => by omega⟩
  · intro i hi k τ ⟨fr, e1, e2, e3⟩ hk
    have h := hk (s2 τ 132 i (nI 0)) ⟨Fr_st fr (by unfold Wn0; omega), by rw [s2_off (by omega)]; exact e1, by rw [s2_off (by omega)]; exact e2, fun m hm => by
      by_cases hmi : m = i
      · rw [s2_at rfl hmi]
      · rw [s2_off (by omega)]; exact e3 m (by omega)⟩
    dsimp only at h ⊢
    simp (disch := omega) only [f_X11_nightGoes_12, l0, l1, l2, l3, l4, l5, l6, l7, l8, l9, l10, l11, l12, l13, l14, l15, l16, l17, l18, l19, l20, l21, l22, l23, l24, l25, l33, l34, l40, l42, l50, l58, l99, l100, l700, l999, l4095, l9999, l10000, x_neg1, nI_add, x_pred, x_m1, x_J1, pk_sub, nJ_pos, Nat.add_sub_cancel, nI_leI, nI_ltI, nI_eq, q_leJ, q_Jle, q_ltJ, q_Jlt, q_eqJ, q_Jeq, q_JJ, q_JJle, q_JJlt, Option.bind_some, if_pos, if_neg, ↓reduceIte, zr118_44, zb132]
    exact h
  · intro k τ ⟨fr, e1, e2, e3⟩
    dsimp only
    simp (disch := omega) only [f_X11_nightGoes_12, f_X11_nightGoes_31, l0, l1, l2, l3, l4, l5, l6, l7, l8, l9, l10, l11, l12, l13, l14, l15, l16, l17, l18, l19, l20, l21, l22, l23, l24, l25, l33, l34, l40, l42, l50, l58, l99, l100, l700, l999, l4095, l9999, l10000, x_neg1, nI_add, x_pred, x_m1, x_J1, pk_sub, nJ_pos, Nat.add_sub_cancel, nI_leI, nI_ltI, nI_eq, q_leJ, q_Jle, q_ltJ, q_Jlt, q_eqJ, q_Jeq, q_JJ, q_JJle, q_JJlt, Option.bind_some, if_pos, if_neg, ↓reduceIte]
    exact ng_c hW0 rv0 fr e1 e2 e3
/-- on trial what is now -/
def Wb (b q k : Nat) : Prop := q = 128 ∧ b ≤ k ∧ k < b + 33
theorem tries_f (rr : Rr σ 0 Z) : RN (fun τ => Fr (Wb 33) σ τ ∧ Rr τ 33 Z) w u (f_X11_tries 118 (mk σ w u)) := by
  unfold f_X11_tries l_X11_tries_2
  rw [zg118]
  refine lp_S (RN (fun τ => Fr (Wb 33) σ τ ∧ Rr τ 33 Z) w u) (fun i τ => (118, nI i, mk τ w u)) (fun i τ => Fr (Wb 33) σ τ ∧ ∀ k, k < i → τ 128 (33 + k) = nI (Z k)) 33 ?_ ?_ 33 0 _ σ (by omega) (by omega) ⟨Fr_r _ _, fun k hk => by omega⟩
  · intro i hi k τ ⟨fr, hI⟩ hk
    have c : τ 128 i = nI (Z i) := by
      rw [fr 128 i (by unfold Wb; omega)]
      have h := rr i hi
      rw [Nat.zero_add] at h
      exact h
    have h := hk (s2 τ 128 (33 + i) (nI (Z i))) ⟨Fr_st fr (by unfold Wb; omega), fun k hk => by
      by_cases h : k = i
      · rw [s2_at rfl (by omega), h]
      · rw [s2_off (by omega)]; exact hI k (by omega)⟩
    dsimp only at h ⊢
    simp (disch := omega) only [f_X11_tries_2, l0, l1, l2, l3, l4, l5, l6, l7, l8, l9, l10, l11, l12, l13, l14, l15, l16, l17, l18, l19, l20, l21, l22, l23, l24, l25, l33, l34, l40, l42, l50, l58, l99, l100, l700, l999, l4095, l9999, l10000, x_neg1, nI_add, x_pred, x_m1, x_J1, pk_sub, nJ_pos, Nat.add_sub_cancel, nI_leI, nI_ltI, nI_eq, q_leJ, q_Jle, q_ltJ, q_Jlt, q_eqJ, q_Jeq, q_JJ, q_JJle, q_JJlt, Option.bind_some, if_pos, if_neg, ↓reduceIte, zr118_36, za128, c, zb128]
    exact h
  · intro k τ ⟨fr, hI⟩
    refine ⟨τ, ⟨fr, hI⟩, ?_⟩
    dsimp only
    simp (disch := omega) only [f_X11_tries_2, l0, l1, l2, l3, l4, l5, l6, l7, l8, l9, l10, l11, l12, l13, l14, l15, l16, l17, l18, l19, l20, l21, l22, l23, l24, l25, l33, l34, l40, l42, l50, l58, l99, l100, l700, l999, l4095, l9999, l10000, x_neg1, nI_add, x_pred, x_m1, x_J1, pk_sub, nJ_pos, Nat.add_sub_cancel, nI_leI, nI_ltI, nI_eq, q_leJ, q_Jle, q_ltJ, q_Jlt, q_eqJ, q_Jeq, q_JJ, q_JJle, q_JJlt, Option.bind_some, if_pos, if_neg, ↓reduceIte]
end RB
