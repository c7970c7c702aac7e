/-! L3: the reference: what is heard -/
def cdR (c : Nat → Int32) : List (Nat × Nat) → Nat → Prop
  | [], o => o < 1400 ∧ c o = nI 0
  | (k, n) :: P, o => o + 1 < 1400 ∧ c o = nI k ∧ (if k ≤ 2 then c (o + 1) = nI n ∧ cdR c P (o + 2) else cdR c P (o + 1))
def mo (A : Nat → Nat) (om n : Nat) : Nat := if om = 0 then mq A n else om - 1
theorem mo_lt {A : Nat → Nat} {om : Nat} (wa : WA A) (h : om ≤ 10) (n : Nat) : mo A om n < 10 := by
  unfold mo
  have := mq_lt wa n
  split <;> omega
def Ra (σ : Nat → Nat → Int32) (A : Nat → Nat) (P : List (Nat × Nat)) : Prop := (σ 118 1 = nI (A 0) ∧ σ 118 2 = nI (A 1) ∧ σ 118 3 = nI (A 2) ∧ σ 118 4 = nI (A 4) ∧ σ 118 5 = nI (A 3)) ∧ (∀ j, j < A 4 → σ 119 j = nI (A (5 + j))) ∧ ((P = [] ∧ σ 118 6 = nJ 0) ∨ (P ≠ [] ∧ σ 118 6 = nI 0 ∧ cdR (σ 120) P 0))
def Rr (σ : Nat → Nat → Int32) (b : Nat) (Z : Nat → Nat) : Prop := ∀ k, k < 33 → σ 128 (b + k) = nI (Z k)
def RV (σ : Nat → Nat → Int32) (b : Nat) (A : Nat → Nat) (P : List (Nat × Nat)) (Z : Nat → Nat) (om : Nat) : Prop := (b = 0 ∨ b = 33) ∧ Ra σ A P ∧ Rr σ b Z ∧ (σ 118 41 = nJ om ∧ om ≤ 10) ∧ WA A ∧ WX A Z ∧ WP P
def Wr (q _k : Nat) : Prop := q = 130 ∨ q = 131
section RA
variable {σ τ : Nat → Nat → Int32} {w u : Int64} {b om : Nat} {A Z : Nat → Nat} {P : List (Nat × Nat)} {v : Int32}
theorem Ra_F {W : Nat → Nat → Prop} (ra : Ra σ A P) (fr : Fr W σ τ) (hw : ∀ q k, W q k → ¬ (q = 118 ∧ 1 ≤ k ∧ k ≤ 6) ∧ q ≠ 119 ∧ q ≠ 120) : Ra τ A P := by
  obtain ⟨⟨a0, a1, a2, a3, a4⟩, am, ac⟩ := ra
  have g : ∀ q k, (q = 118 ∧ 1 ≤ k ∧ k ≤ 6) ∨ q = 119 ∨ q = 120 → τ q k = σ q k := fun q k h => fr q k (fun e => by have := hw q k e; omega)
  have g2 : τ 120 = σ 120 := funext (fun k => g 120 k (by omega))
  refine ⟨⟨?_, ?_, ?_, ?_, ?_⟩, ?_, ?_⟩
  · rw [g _ _ (by omega)]; exact a0
  · rw [g _ _ (by omega)]; exact a1
  · rw [g _ _ (by omega)]; exact a2
  · rw [g _ _ (by omega)]; exact a3
  · rw [g _ _ (by omega)]; exact a4
  · intro j hj; rw [g _ _ (by omega)]; exact am j hj
  · rw [g _ _ (by omega), g2]; exact ac
theorem RV_F {W : Nat → Nat → Prop} (rv : RV σ b A P Z om) (fr : Fr W σ τ) (hw : ∀ q k, W q k → ¬ (q = 118 ∧ 1 ≤ k ∧ k ≤ 6) ∧ q ≠ 119 ∧ q ≠ 120 ∧ ¬ (q = 118 ∧ k = 41) ∧ ¬ (q = 128 ∧ b ≤ k ∧ k < b + 33)) : RV τ b A P Z om := by
  obtain ⟨hb, ra, rr, ⟨o1, o2⟩, r⟩ := rv
  refine ⟨hb, Ra_F ra fr (fun q k e => by have := hw q k e; omega), fun k hk => ?_, ⟨?_, o2⟩, r⟩
  · rw [fr 128 (b + k) (fun e => by have := hw _ _ e; omega)]; exact rr k hk
  · rw [fr 118 41 (fun e => by have := hw _ _ e; omega)]; exact o1
theorem RV_fr (rv : RV σ b A P Z om) (fr : Fr Wr σ τ) : RV τ b A P Z om := RV_F rv fr (fun q k e => by unfold Wr at e; omega)
theorem RV_0 (rv : RV σ b A P Z om) : σ 128 b = nI (Z 0) := rv.2.2.1 0 (by omega)
theorem RV_t (rv : RV σ b A P Z om) : ∀ i, i < 8 → σ 128 (b + 1 + i) = nI (Z (1 + i)) := fun i h => by rw [Nat.add_assoc]; exact rv.2.2.1 (1 + i) (by omega)
theorem RV_l (rv : RV σ b A P Z om) : ∀ i, i < 8 → σ 128 (b + 9 + i) = nI (Z (9 + i)) := fun i h => by rw [Nat.add_assoc]; exact rv.2.2.1 (9 + i) (by omega)
theorem RV_o (rv : RV σ b A P Z om) : ∀ i, i < 8 → σ 128 (b + 17 + i) = nI (Z (17 + i)) := fun i h => by rw [Nat.add_assoc]; exact rv.2.2.1 (17 + i) (by omega)
theorem RV_s (rv : RV σ b A P Z om) : ∀ i, i < 8 → σ 128 (b + 25 + i) = nI (Z (25 + i)) := fun i h => by rw [Nat.add_assoc]; exact rv.2.2.1 (25 + i) (by omega)
theorem RV_b (rv : RV σ b A P Z om) : ∀ i, i < 8 → Z (1 + i) < 4096 ∧ Z (9 + i) ≤ 9 ∧ Z (17 + i) ≤ 99 ∧ Z (25 + i) < 256 := WX_b rv.2.2.2.2.1 rv.2.2.2.2.2.1
theorem lesser_f {a b : Nat} (ha : a < 2 ^ 31) (hb : b < 2 ^ 31) (h : hp_H) : f_X11_lesser (nI a) (nI b) h = some (nI (min a b), h) := by
  by_cases c : b ≤ a
  · simp (disch := omega) only [f_X11_lesser_10, f_X11_lesser, l0, l1, l2, l3, l4, l5, l6, l7, l8, l9, l10, l11, l12, l13, l14, l15, l16, l17, l18, l19, l20, l21, l22, l23, l24, l25, l33, l34, l40, l42, l50, l58, l99, l100, l700, l999, l4095, l9999, l10000, x_neg1, nI_add, x_pred, x_m1, x_J1, pk_sub, nJ_pos, Nat.add_sub_cancel, nI_leI, nI_ltI, nI_eq, q_leJ, q_Jle, q_ltJ, q_Jlt, q_eqJ, q_Jeq, q_JJ, q_JJle, q_JJlt, Option.bind_some, if_pos, if_neg, ↓reduceIte, Nat.min_eq_right]
  · simp (disch := omega) only [f_X11_lesser_10, f_X11_lesser, l0, l1, l2, l3, l4, l5, l6, l7, l8, l9, l10, l11, l12, l13, l14, l15, l16, l17, l18, l19, l20, l21, l22, l23, l24, l25, l33, l34, l40, l42, l50, l58, l99, l100, l700, l999, l4095, l9999, l10000, x_neg1, nI_add, x_pred, x_m1, x_J1, pk_sub, nJ_pos, Nat.add_sub_cancel, nI_leI, nI_ltI, nI_eq, q_leJ, q_Jle, q_ltJ, q_Jlt, q_eqJ, q_Jeq, q_JJ, q_JJle, q_JJlt, Option.bind_some, if_pos, if_neg, ↓reduceIte, Nat.min_eq_left]
theorem mudOf_f (rv : RV σ b A P Z om) {n : Nat} (hn : n < 3000) : f_X11_mudOf 118 (nI n) (mk σ w u) = some (nI (mo A om n), mk σ w u) := by
  have hT := RV_b rv; have rv2 := rv; obtain ⟨hbb, ⟨⟨hR0, hR1, hR2, hR4, hR3⟩, hmu, hcd⟩, hZ, ⟨hom, hom2⟩, ⟨hB1, hB2, hM8, hR8, hS12, hnm, hmd⟩, ⟨hN2, hW, hD⟩, hP⟩ := rv2
  unfold mo
  by_cases h : om = 0
  · rw [if_pos h]
    unfold mq
    by_cases h2 : A 4 = 0
    · simp (disch := omega) only [f_X11_mudOf_35, f_X11_mudOf, l0, l1, l2, l3, l4, l5, l6, l7, l8, l9, l10, l11, l12, l13, l14, l15, l16, l17, l18, l19, l20, l21, l22, l23, l24, l25, l33, l34, l40, l42, l50, l58, l99, l100, l700, l999, l4095, l9999, l10000, x_neg1, nI_add, x_pred, x_m1, x_J1, pk_sub, nJ_pos, Nat.add_sub_cancel, nI_leI, nI_ltI, nI_eq, q_leJ, q_Jle, q_ltJ, q_Jlt, q_eqJ, q_Jeq, q_JJ, q_JJle, q_JJlt, Option.bind_some, if_pos, if_neg, ↓reduceIte, Nat.add_zero, zg118, zi118_0, zi118_1, zi118_2, zi118_3, zi118_4, zi118_5, zi118_6, zr118_7, zr118_8, zr118_36, zr118_39, zr118_40, zi118_41, zr118_44, za128, za119, hR0, hR1, hR2, hR3, hR4, RV_0 rv, RV_t rv, RV_l rv, RV_o rv, RV_s rv, hom]
    · have hl := Nat.mod_lt n (show A 4 > 0 by omega)
      simp (disch := omega) only [f_X11_mudOf_35, f_X11_mudOf, l0, l1, l2, l3, l4, l5, l6, l7, l8, l9, l10, l11, l12, l13, l14, l15, l16, l17, l18, l19, l20, l21, l22, l23, l24, l25, l33, l34, l40, l42, l50, l58, l99, l100, l700, l999, l4095, l9999, l10000, x_neg1, nI_add, x_pred, x_m1, x_J1, pk_sub, nJ_pos, Nat.add_sub_cancel, nI_leI, nI_ltI, nI_eq, q_leJ, q_Jle, q_ltJ, q_Jlt, q_eqJ, q_Jeq, q_JJ, q_JJle, q_JJlt, Option.bind_some, if_pos, if_neg, ↓reduceIte, Nat.add_zero, zg118, zi118_0, zi118_1, zi118_2, zi118_3, zi118_4, zi118_5, zi118_6, zr118_7, zr118_8, zr118_36, zr118_39, zr118_40, zi118_41, zr118_44, za128, za119, hR0, hR1, hR2, hR3, hR4, RV_0 rv, RV_t rv, RV_l rv, RV_o rv, RV_s rv, hom, rem_f, hmu]
  · rw [if_neg h]
    simp (disch := omega) only [f_X11_mudOf_35, f_X11_mudOf, l0, l1, l2, l3, l4, l5, l6, l7, l8, l9, l10, l11, l12, l13, l14, l15, l16, l17, l18, l19, l20, l21, l22, l23, l24, l25, l33, l34, l40, l42, l50, l58, l99, l100, l700, l999, l4095, l9999, l10000, x_neg1, nI_add, x_pred, x_m1, x_J1, pk_sub, nJ_pos, Nat.add_sub_cancel, nI_leI, nI_ltI, nI_eq, q_leJ, q_Jle, q_ltJ, q_Jlt, q_eqJ, q_Jeq, q_JJ, q_JJle, q_JJlt, Option.bind_some, if_pos, if_neg, ↓reduceIte, Nat.add_zero, zg118, zi118_0, zi118_1, zi118_2, zi118_3, zi118_4, zi118_5, zi118_6, zr118_7, zr118_8, zr118_36, zr118_39, zr118_40, zi118_41, zr118_44, za128, za119, hR0, hR1, hR2, hR3, hR4, RV_0 rv, RV_t rv, RV_l rv, RV_o rv, RV_s rv, hom]
theorem ls_0 (X : Nat → Nat) (beat n : Nat) : ls X beat 0 n = 0 := by
  induction n with
  | zero => rfl
  | succ n ih =>
    unfold ls
    rw [ih, if_pos (by unfold bt; simp)]
theorem ls_or {X : Nat → Nat} {beat a b : Nat} (n : Nat) (h : ∀ i, i < n → ¬ (bt a i = 1 ∧ bt b i = 1)) : ls X beat (a ||| b) n = ls X beat a n + ls X beat b n := by
  induction n with
  | zero => rfl
  | succ n ih =>
    have h1 := h n (by omega)
    have e : bt (a ||| b) n = if bt a n = 1 then 1 else bt b n := by
      rw [bt_eq, bt_eq, bt_eq, Nat.testBit_or]
      cases a.testBit n <;> cases b.testBit n <;> rfl
    have ha := bt_lt a n
    have hb := bt_lt b n
    unfold ls
    rw [ih (fun i hi => h i (by omega)), e]
    by_cases c1 : bt a n = 1
    · rw [if_pos c1, if_neg (by decide), if_neg (show ¬ bt a n = 0 by omega), if_pos (show bt b n = 0 by omega)]
      omega
    · rw [if_neg c1, if_pos (show bt a n = 0 by omega)]
      omega
theorem loudOf_f (rv : RV σ b A P Z om) {p beat : Nat} (hp : p < 90) (hbt : beat < 32) : f_X11_loudOf 118 (nI b) (nJ p) (nI beat) (mk σ w u) = some (nI (ls Z beat (rw1 A Z p) (A 1)), mk σ w u) := by
  have hT := RV_b rv; have rv2 := rv; obtain ⟨hbb, ⟨⟨hR0, hR1, hR2, hR4, hR3⟩, hmu, hcd⟩, hZ, ⟨hom, hom2⟩, ⟨hB1, hB2, hM8, hR8, hS12, hnm, hmd⟩, ⟨hN2, hW, hD⟩, hP⟩ := rv2
  by_cases h0 : p = 0
  · have e : rw1 A Z p = 0 := by unfold rw1; rw [if_pos h0]
    rw [e, ls_0]
    simp (disch := omega) only [f_X11_loudOf, f_X11_loudOf_12, l0, l1, l2, l3, l4, l5, l6, l7, l8, l9, l10, l11, l12, l13, l14, l15, l16, l17, l18, l19, l20, l21, l22, l23, l24, l25, l33, l34, l40, l42, l50, l58, l99, l100, l700, l999, l4095, l9999, l10000, x_neg1, nI_add, x_pred, x_m1, x_J1, pk_sub, nJ_pos, Nat.add_sub_cancel, nI_leI, nI_ltI, nI_eq, q_leJ, q_Jle, q_ltJ, q_Jlt, q_eqJ, q_Jeq, q_JJ, q_JJle, q_JJlt, Option.bind_some, if_pos, if_neg, ↓reduceIte, Nat.add_zero, zg118, zi118_0, zi118_1, zi118_2, zi118_3, zi118_4, zi118_5, zi118_6, zr118_7, zr118_8, zr118_36, zr118_39, zr118_40, zi118_41, zr118_44, za128, za119, hR0, hR1, hR2, hR3, hR4, RV_0 rv, RV_t rv, RV_l rv, RV_o rv, RV_s rv]
  · by_cases h1 : A 2 < p
    · have e : rw1 A Z p = 0 := by unfold rw1; rw [if_neg h0, if_pos h1]
      rw [e, ls_0]
      simp (disch := omega) only [f_X11_loudOf, f_X11_loudOf_12, l0, l1, l2, l3, l4, l5, l6, l7, l8, l9, l10, l11, l12, l13, l14, l15, l16, l17, l18, l19, l20, l21, l22, l23, l24, l25, l33, l34, l40, l42, l50, l58, l99, l100, l700, l999, l4095, l9999, l10000, x_neg1, nI_add, x_pred, x_m1, x_J1, pk_sub, nJ_pos, Nat.add_sub_cancel, nI_leI, nI_ltI, nI_eq, q_leJ, q_Jle, q_ltJ, q_Jlt, q_eqJ, q_Jeq, q_JJ, q_JJle, q_JJlt, Option.bind_some, if_pos, if_neg, ↓reduceIte, Nat.add_zero, zg118, zi118_0, zi118_1, zi118_2, zi118_3, zi118_4, zi118_5, zi118_6, zr118_7, zr118_8, zr118_36, zr118_39, zr118_40, zi118_41, zr118_44, za128, za119, hR0, hR1, hR2, hR3, hR4, RV_0 rv, RV_t rv, RV_l rv, RV_o rv, RV_s rv]
    · obtain ⟨r, rfl⟩ : ∃ r, p = r + 1 := ⟨p - 1, by omega⟩
      rw [rw1_i (by omega), nJ_S]
      simp (disch := omega) only [f_X11_loudOf, l0, l1, l2, l3, l4, l5, l6, l7, l8, l9, l10, l11, l12, l13, l14, l15, l16, l17, l18, l19, l20, l21, l22, l23, l24, l25, l33, l34, l40, l42, l50, l58, l99, l100, l700, l999, l4095, l9999, l10000, x_neg1, nI_add, x_pred, x_m1, x_J1, pk_sub, nJ_pos, Nat.add_sub_cancel, nI_leI, nI_ltI, nI_eq, q_leJ, q_Jle, q_ltJ, q_Jlt, q_eqJ, q_Jeq, q_JJ, q_JJle, q_JJlt, Option.bind_some, if_pos, if_neg, ↓reduceIte, Nat.add_zero, zg118, zi118_0, zi118_1, zi118_2, zi118_3, zi118_4, zi118_5, zi118_6, zr118_7, zr118_8, zr118_36, zr118_39, zr118_40, zi118_41, zr118_44, za128, za119, hR0, hR1, hR2, hR3, hR4, RV_0 rv, RV_t rv, RV_l rv, RV_o rv, RV_s rv]
      unfold l_X11_loudOf_20
      have hb3 := hT r (by omega)
      refine lp_for (fun i => (118, nI b, nI r, nI beat, nI (ls Z beat (Z (25 + r)) i), nI i, mk σ w u)) (A 1) _ ?_ ?_ (A 1) 0 _ (by omega) (by omega)
      · intro i hi k0
        have hb2 := hT i (by omega)
        have h1 := bt_lt (Z (25 + r)) i
        have h2 := bt_lt (Z (1 + i)) beat
        have e1 : ls Z beat (Z (25 + r)) (i + 1) = ls Z beat (Z (25 + r)) i + (if bt (Z (25 + r)) i = 0 then 0 else if bt (Z (1 + i)) beat = 0 then 0 else Z (9 + i)) := rfl
        rw [e1]
        dsimp only
        by_cases h3 : bt (Z (25 + r)) i = 0
        · simp (disch := omega) only [f_X11_loudOf_20, f_X11_loudOf_86, f_X11_loudOf_85, l0, l1, l2, l3, l4, l5, l6, l7, l8, l9, l10, l11, l12, l13, l14, l15, l16, l17, l18, l19, l20, l21, l22, l23, l24, l25, l33, l34, l40, l42, l50, l58, l99, l100, l700, l999, l4095, l9999, l10000, x_neg1, nI_add, x_pred, x_m1, x_J1, pk_sub, nJ_pos, Nat.add_sub_cancel, nI_leI, nI_ltI, nI_eq, q_leJ, q_Jle, q_ltJ, q_Jlt, q_eqJ, q_Jeq, q_JJ, q_JJle, q_JJlt, Option.bind_some, if_pos, if_neg, ↓reduceIte, Nat.add_zero, zg118, zi118_0, zi118_1, zi118_2, zi118_3, zi118_4, zi118_5, zi118_6, zr118_7, zr118_8, zr118_36, zr118_39, zr118_40, zi118_41, zr118_44, za128, za119, hR0, hR1, hR2, hR3, hR4, RV_0 rv, RV_t rv, RV_l rv, RV_o rv, RV_s rv, x_bit]
        · by_cases h4 : bt (Z (1 + i)) beat = 0
          · simp (disch := omega) only [f_X11_loudOf_20, f_X11_loudOf_86, f_X11_loudOf_85, l0, l1, l2, l3, l4, l5, l6, l7, l8, l9, l10, l11, l12, l13, l14, l15, l16, l17, l18, l19, l20, l21, l22, l23, l24, l25, l33, l34, l40, l42, l50, l58, l99, l100, l700, l999, l4095, l9999, l10000, x_neg1, nI_add, x_pred, x_m1, x_J1, pk_sub, nJ_pos, Nat.add_sub_cancel, nI_leI, nI_ltI, nI_eq, q_leJ, q_Jle, q_ltJ, q_Jlt, q_eqJ, q_Jeq, q_JJ, q_JJle, q_JJlt, Option.bind_some, if_pos, if_neg, ↓reduceIte, Nat.add_zero, zg118, zi118_0, zi118_1, zi118_2, zi118_3, zi118_4, zi118_5, zi118_6, zr118_7, zr118_8, zr118_36, zr118_39, zr118_40, zi118_41, zr118_44, za128, za119, hR0, hR1, hR2, hR3, hR4, RV_0 rv, RV_t rv, RV_l rv, RV_o rv, RV_s rv, x_bit]
          · simp (disch := omega) only [f_X11_loudOf_20, f_X11_loudOf_86, f_X11_loudOf_85, l0, l1, l2, l3, l4, l5, l6, l7, l8, l9, l10, l11, l12, l13, l14, l15, l16, l17, l18, l19, l20, l21, l22, l23, l24, l25, l33, l34, l40, l42, l50, l58, l99, l100, l700, l999, l4095, l9999, l10000, x_neg1, nI_add, x_pred, x_m1, x_J1, pk_sub, nJ_pos, Nat.add_sub_cancel, nI_leI, nI_ltI, nI_eq, q_leJ, q_Jle, q_ltJ, q_Jlt, q_eqJ, q_Jeq, q_JJ, q_JJle, q_JJlt, Option.bind_some, if_pos, if_neg, ↓reduceIte, Nat.add_zero, zg118, zi118_0, zi118_1, zi118_2, zi118_3, zi118_4, zi118_5, zi118_6, zr118_7, zr118_8, zr118_36, zr118_39, zr118_40, zi118_41, zr118_44, za128, za119, hR0, hR1, hR2, hR3, hR4, RV_0 rv, RV_t rv, RV_l rv, RV_o rv, RV_s rv, x_bit]
      · intro k0
        dsimp only
        simp (disch := omega) only [f_X11_loudOf_20, f_X11_loudOf_95, l0, l1, l2, l3, l4, l5, l6, l7, l8, l9, l10, l11, l12, l13, l14, l15, l16, l17, l18, l19, l20, l21, l22, l23, l24, l25, l33, l34, l40, l42, l50, l58, l99, l100, l700, l999, l4095, l9999, l10000, x_neg1, nI_add, x_pred, x_m1, x_J1, pk_sub, nJ_pos, Nat.add_sub_cancel, nI_leI, nI_ltI, nI_eq, q_leJ, q_Jle, q_ltJ, q_Jlt, q_eqJ, q_Jeq, q_JJ, q_JJle, q_JJlt, Option.bind_some, if_pos, if_neg, ↓reduceIte, Nat.add_zero, zg118, zi118_0, zi118_1, zi118_2, zi118_3, zi118_4, zi118_5, zi118_6, zr118_7, zr118_8, zr118_36, zr118_39, zr118_40, zi118_41, zr118_44, za128, za119, hR0, hR1, hR2, hR3, hR4, RV_0 rv, RV_t rv, RV_l rv, RV_o rv, RV_s rv]
theorem works_f {k : Nat} (h1 : 4 ≤ k) (h2 : k ≤ 11) (a b : Int32) (h : hp_H) : f_X11_works (nI k) a b h = some (jn k a b, h) := by
  rcases (show k = 4 ∨ k = 5 ∨ k = 6 ∨ k = 7 ∨ k = 8 ∨ k = 9 ∨ k = 10 ∨ k = 11 by omega) with e | e | e | e | e | e | e | e <;> subst e
  · unfold f_X11_works
    rw [if_pos (by decide), show jn 4 a b = (if a = 0 then 0 else if b = 0 then 0 else 1) from rfl]
    split
    · rfl
    · split <;> rfl
  · unfold f_X11_works
    rw [if_neg (by decide), if_pos (by decide), show jn 5 a b = (if a = 0 then (if b = 0 then 0 else 1) else 1) from rfl]
    split
    · split <;> rfl
    · rfl
  · unfold f_X11_works
    rw [if_neg (by decide), if_neg (by decide), if_pos (by decide), show jn 6 a b = (if a < b then 1 else 0) from rfl]
    by_cases hc : b ≤ a
    · rw [if_pos hc, if_neg (Int32.not_lt.mpr hc)]; rfl
    · rw [if_neg hc, if_pos (Int32.not_le.mp hc)]; rfl
  · unfold f_X11_works
    rw [if_neg (by decide), if_neg (by decide), if_neg (by decide), if_pos (by decide), show jn 7 a b = (if a = b then 1 else 0) from rfl]
    split <;> rfl
  · unfold f_X11_works
    rw [if_neg (by decide), if_neg (by decide), if_neg (by decide), if_neg (by decide), if_pos (by decide)]
    rfl
  · unfold f_X11_works
    rw [if_neg (by decide), if_neg (by decide), if_neg (by decide), if_neg (by decide), if_neg (by decide), if_pos (by decide)]
    rfl
  · unfold f_X11_works
    rw [if_neg (by decide), if_neg (by decide), if_neg (by decide), if_neg (by decide), if_neg (by decide), if_neg (by decide), if_pos (by decide)]
    rfl
  · unfold f_X11_works
    rw [if_neg (by decide), if_neg (by decide), if_neg (by decide), if_neg (by decide), if_neg (by decide), if_neg (by decide), if_neg (by decide), show jn 11 a b = (if b = 0 then 0 else a / b) from rfl]
    by_cases hc : b = 0
    · rw [if_pos hc, if_pos hc]; rfl
    · rw [if_neg hc, if_neg hc]
      unfold hp_div
      rw [if_neg hc]
      rfl
def W31 (q _k : Nat) : Prop := q = 131
theorem s2_31 (σ : Nat → Nat → Int32) (k : Nat) (v : Int32) : s2 σ 131 k v 131 = upd (σ 131) k v := by
  funext j
  unfold s2 upd
  by_cases h : j = k <;> simp [h]
theorem reckons_f {vl : Nat → Int32} (hc : cdR (σ 120) P 0) (hP : okP P 0) (hv : ∀ k, k < 6 → σ 130 k = vl k) (hl : P.length < 90000) : RQ (Fr W31 σ) w u (ev P vl) (f_X11_reckons 118 (nI 0) (mk σ w u)) := by
  unfold f_X11_reckons l_X11_reckons_4
  rw [zg118]
  refine lp_G (RQ (Fr W31 σ) w u (ev P vl)) (fun i s => ∃ τ d o, s = (118, nI d, nI o, mk τ w u) ∧ Fr W31 σ τ ∧ cdR (σ 120) (P.drop i) o ∧ okP (P.drop i) d ∧ d ≤ 64 ∧ ex vl (P.drop i) (τ 131) d = ev P vl) P.length ?_ ?_ P.length 0 100000 (118, 0, nI 0, mk σ w u) (by omega) (by omega) ⟨σ, 0, 0, rfl, Fr_r _ _, hc, hP, by omega, ex_c vl P 0 _ _ hP (fun j hj => by omega)⟩
  · intro i hi K s ⟨τ, d, o, e, fr, cd, ok, hd, hex⟩ hk
    subst e
    obtain ⟨k, n, hp⟩ : ∃ k n, P[i] = (k, n) := ⟨P[i].1, P[i].2, rfl⟩
    have hdr : P.drop i = (k, n) :: P.drop (i + 1) := by rw [List.drop_eq_getElem_cons hi, hp]
    rw [hdr] at cd ok hex
    have g20 : ∀ j, τ 120 j = σ 120 j := fun j => fr 120 j (by unfold W31; omega)
    have g30 : ∀ j, j < 6 → τ 130 j = vl j := fun j hj => by rw [fr 130 j (by unfold W31; omega)]; exact hv j hj
    obtain ⟨o1, c1, c2⟩ := cd
    rw [← g20] at c1
    unfold ex at hex
    dsimp only
    rcases ok with ⟨e, hn, hd2, ok2⟩ | ⟨e, hn, hd2, ok2⟩ | ⟨e, hd2, ok2⟩ | ⟨e, e2, hd2, ok2⟩
    · subst e
      rw [if_pos (by decide), ← g20] at c2
      rw [if_pos rfl, ← s2_31] at hex
      have h := hk _ ⟨_, d + 1, o + 1 + 1, rfl, Fr_st fr rfl, c2.2, ok2, by omega, hex⟩
      simp (disch := omega) only [f_X11_reckons_143, f_X11_reckons_140, f_X11_reckons_67, f_X11_reckons_36, f_X11_reckons_106, f_X11_reckons_4, f_X11_reckons, l0, l1, l2, l3, l4, l5, l6, l7, l8, l9, l10, l11, l12, l13, l14, l15, l16, l17, l18, l19, l20, l21, l22, l23, l24, l25, l33, l34, l40, l42, l50, l58, l99, l100, l700, l999, l4095, l9999, l10000, x_neg1, nI_add, x_pred, x_m1, x_J1, pk_sub, nJ_pos, Nat.add_sub_cancel, nI_leI, nI_ltI, nI_eq, q_leJ, q_Jle, q_ltJ, q_Jlt, q_eqJ, q_Jeq, q_JJ, q_JJle, q_JJlt, Option.bind_some, if_pos, if_neg, ↓reduceIte, zr118_8, zr118_40, za120, c1, c2.1, zb131]
      exact h
    · subst e
      rw [if_pos (by decide), ← g20] at c2
      rw [if_neg (by decide), if_pos rfl, ← g30 n hn, ← s2_31] at hex
      have h := hk _ ⟨_, d + 1, o + 1 + 1, rfl, Fr_st fr rfl, c2.2, ok2, by omega, hex⟩
      simp (disch := omega) only [f_X11_reckons_143, f_X11_reckons_140, f_X11_reckons_67, f_X11_reckons_36, f_X11_reckons_106, f_X11_reckons_4, f_X11_reckons, l0, l1, l2, l3, l4, l5, l6, l7, l8, l9, l10, l11, l12, l13, l14, l15, l16, l17, l18, l19, l20, l21, l22, l23, l24, l25, l33, l34, l40, l42, l50, l58, l99, l100, l700, l999, l4095, l9999, l10000, x_neg1, nI_add, x_pred, x_m1, x_J1, pk_sub, nJ_pos, Nat.add_sub_cancel, nI_leI, nI_ltI, nI_eq, q_leJ, q_Jle, q_ltJ, q_Jlt, q_eqJ, q_Jeq, q_JJ, q_JJle, q_JJlt, Option.bind_some, if_pos, if_neg, ↓reduceIte, zr118_8, zr118_39, zr118_40, za120, c1, c2.1, za130, zb131]
      exact h
    · subst e
      rw [if_neg (by decide)] at c2
      rw [if_neg (by decide), if_neg (by decide), if_pos rfl, ← s2_31] at hex
      have h := hk _ ⟨_, d, o + 1, rfl, Fr_st fr rfl, c2, ok2, hd, hex⟩
      by_cases c0 : τ 131 (d - 1) = 0
      · rw [if_pos c0] at h
        rw [l0] at c0
        simp (disch := omega) only [f_X11_reckons_143, f_X11_reckons_140, f_X11_reckons_67, f_X11_reckons_36, f_X11_reckons_106, f_X11_reckons_4, f_X11_reckons, l0, l1, l2, l3, l4, l5, l6, l7, l8, l9, l10, l11, l12, l13, l14, l15, l16, l17, l18, l19, l20, l21, l22, l23, l24, l25, l33, l34, l40, l42, l50, l58, l99, l100, l700, l999, l4095, l9999, l10000, x_neg1, nI_add, x_pred, x_m1, x_J1, pk_sub, nJ_pos, Nat.add_sub_cancel, nI_leI, nI_ltI, nI_eq, q_leJ, q_Jle, q_ltJ, q_Jlt, q_eqJ, q_Jeq, q_JJ, q_JJle, q_JJlt, Option.bind_some, if_pos, if_neg, ↓reduceIte, zr118_8, zr118_39, zr118_40, za120, c1, za131, c0, zb131]
        exact h
      · rw [if_neg c0] at h
        rw [l0] at c0
        simp (disch := omega) only [f_X11_reckons_143, f_X11_reckons_140, f_X11_reckons_67, f_X11_reckons_36, f_X11_reckons_106, f_X11_reckons_4, f_X11_reckons, l0, l1, l2, l3, l4, l5, l6, l7, l8, l9, l10, l11, l12, l13, l14, l15, l16, l17, l18, l19, l20, l21, l22, l23, l24, l25, l33, l34, l40, l42, l50, l58, l99, l100, l700, l999, l4095, l9999, l10000, x_neg1, nI_add, x_pred, x_m1, x_J1, pk_sub, nJ_pos, Nat.add_sub_cancel, nI_leI, nI_ltI, nI_eq, q_leJ, q_Jle, q_ltJ, q_Jlt, q_eqJ, q_Jeq, q_JJ, q_JJle, q_JJlt, Option.bind_some, if_pos, if_neg, ↓reduceIte, zr118_8, zr118_39, zr118_40, za120, c1, za131, if_neg c0, zb131]
        exact h
    · rw [if_neg (by omega)] at c2
      rw [if_neg (by omega), if_neg (by omega), if_neg (by omega), ← s2_31] at hex
      have h := hk _ ⟨_, d - 1, o + 1, rfl, Fr_st fr rfl, c2, ok2, by omega, hex⟩
      rw [show d - 2 = d - 1 - 1 by omega] at h
      simp (disch := omega) only [f_X11_reckons_143, f_X11_reckons_140, f_X11_reckons_67, f_X11_reckons_36, f_X11_reckons_106, f_X11_reckons_4, f_X11_reckons, l0, l1, l2, l3, l4, l5, l6, l7, l8, l9, l10, l11, l12, l13, l14, l15, l16, l17, l18, l19, l20, l21, l22, l23, l24, l25, l33, l34, l40, l42, l50, l58, l99, l100, l700, l999, l4095, l9999, l10000, x_neg1, nI_add, x_pred, x_m1, x_J1, pk_sub, nJ_pos, Nat.add_sub_cancel, nI_leI, nI_ltI, nI_eq, q_leJ, q_Jle, q_ltJ, q_Jlt, q_eqJ, q_Jeq, q_JJ, q_JJle, q_JJlt, Option.bind_some, if_pos, if_neg, ↓reduceIte, zr118_8, zr118_39, zr118_40, za120, c1, za131, works_f, zb131]
      exact h
  · intro K s ⟨τ, d, o, e, fr, cd, ok, hd, hex⟩
    subst e
    rw [List.drop_length] at cd ok hex
    have g20 : ∀ j, τ 120 j = σ 120 j := fun j => fr 120 j (by unfold W31; omega)
    obtain ⟨o1, c1⟩ := cd
    rw [← g20] at c1
    refine ⟨τ, fr, ?_⟩
    dsimp only
    simp (disch := omega) only [f_X11_reckons_143, f_X11_reckons_140, f_X11_reckons_67, f_X11_reckons_36, f_X11_reckons_106, f_X11_reckons_4, f_X11_reckons, l0, l1, l2, l3, l4, l5, l6, l7, l8, l9, l10, l11, l12, l13, l14, l15, l16, l17, l18, l19, l20, l21, l22, l23, l24, l25, l33, l34, l40, l42, l50, l58, l99, l100, l700, l999, l4095, l9999, l10000, x_neg1, nI_add, x_pred, x_m1, x_J1, pk_sub, nJ_pos, Nat.add_sub_cancel, nI_leI, nI_ltI, nI_eq, q_leJ, q_Jle, q_ltJ, q_Jlt, q_eqJ, q_Jeq, q_JJ, q_JJle, q_JJlt, Option.bind_some, if_pos, if_neg, ↓reduceIte, zr118_8, zr118_39, zr118_40, za120, c1, za131]
    rw [← hex]
    rfl
theorem okP_len : ∀ (P : List (Nat × Nat)) (c : Nat → Int32) (o : Nat), cdR c P o → P.length + o < 1401 := by
  intro P
  induction P with
  | nil => intro c o h; have := h.1; simp; omega
  | cons p P ih =>
    intro c o h
    obtain ⟨k, n⟩ := p
    obtain ⟨h1, h2, h3⟩ := h
    split at h3
    · have := ih c _ h3.2; simp; omega
    · have := ih c _ h3; simp; omega
theorem rw1_d {A Z : Nat → Nat} (wx : WX A Z) (wa : WA A) {p q : Nat} (hpq : p ≠ q) (i : Nat) : ¬ (bt (rw1 A Z p) i = 1 ∧ bt (rw1 A Z q) i = 1) := by
  intro ⟨h1, h2⟩
  have h0 : bt 0 i = 0 := by unfold bt; simp
  have hR := wa.2.2.2.1
  unfold rw1 at h1 h2
  by_cases a1 : p = 0
  · rw [if_pos a1] at h1; omega
  · rw [if_neg a1] at h1
    by_cases a2 : A 2 < p
    · rw [if_pos a2] at h1; omega
    · rw [if_neg a2] at h1
      by_cases b1 : q = 0
      · rw [if_pos b1] at h2; omega
      · rw [if_neg b1] at h2
        by_cases b2 : A 2 < q
        · rw [if_pos b2] at h2; omega
        · rw [if_neg b2] at h2
          have h := wx.2.2.1 (p - 1) (q - 1) i (by omega) (by omega) (by rw [show 25 + (p - 1) = 24 + p by omega]; exact h1) (by rw [show 25 + (q - 1) = 24 + q by omega]; exact h2)
          omega
theorem hearsOf_f (rv : RV σ b A P Z om) {r beat mud last i4 : Nat} {K : Nat → Int32 → Int32 → Int32 → Int32 → Int32 → Int32 → hp_H → Option (Int32 × hp_H)} (hr : r < A 2) (hbt : beat < 13) (hmd : mud < 1000) : ∃ τ, Fr Wr σ τ ∧ f_X11_heardOf_22 K 118 (nI b) (nI r) (nI mud) (nI i4) (nI last) (nI beat) (mk σ w u) = if A 0 ≤ beat then some (nI i4, mk σ w u) else K 118 (nI b) (nI r) (nI mud) (nI (i4 ||| hb A P Z (rw1 A Z (r + 1)) (rw1 A Z r ||| rw1 A Z (r + 2)) mud beat last * 2 ^ beat)) (nI (hb A P Z (rw1 A Z (r + 1)) (rw1 A Z r ||| rw1 A Z (r + 2)) mud beat last)) (nI (beat + 1)) (mk τ w u) := by
  have rv0 := rv
  have hT := RV_b rv; have rv2 := rv; obtain ⟨hbb, ⟨⟨hR0, hR1, hR2, hR4, hR3⟩, hmu, hcd⟩, hZ, ⟨hom, hom2⟩, ⟨hB1, hB2, hM8, hR8, hS12, hnm, hmd⟩, ⟨hN2, hW, hD⟩, hP⟩ := rv2
  by_cases hend : A 0 ≤ beat
  · refine ⟨σ, Fr_r _ _, ?_⟩
    rw [if_pos hend]
    simp (disch := omega) only [f_X11_heardOf_22, f_X11_heardOf_186, l0, l1, l2, l3, l4, l5, l6, l7, l8, l9, l10, l11, l12, l13, l14, l15, l16, l17, l18, l19, l20, l21, l22, l23, l24, l25, l33, l34, l40, l42, l50, l58, l99, l100, l700, l999, l4095, l9999, l10000, x_neg1, nI_add, x_pred, x_m1, x_J1, pk_sub, nJ_pos, Nat.add_sub_cancel, nI_leI, nI_ltI, nI_eq, q_leJ, q_Jle, q_ltJ, q_Jlt, q_eqJ, q_Jeq, q_JJ, q_JJle, q_JJlt, Option.bind_some, if_pos, if_neg, ↓reduceIte, Nat.add_zero, zg118, zi118_0, zi118_1, zi118_2, zi118_3, zi118_4, zi118_5, zi118_6, zr118_7, zr118_8, zr118_36, zr118_39, zr118_40, zi118_41, zr118_44, za128, za119, hR0, hR1, hR2, hR3, hR4, RV_0 rv, RV_t rv, RV_l rv, RV_o rv, RV_s rv]
  · simp only [if_neg hend]
    have hlo := loudOf_f (w := w) (u := u) rv (p := r + 1) (beat := beat) (by omega) (by omega)
    rw [nJ_S] at hlo
    have hl9 : ls Z beat (rw1 A Z (r + 1)) (A 1) ≤ 72 := Nat.le_trans (ls_le (fun i hi => (hT i (by omega)).2.1)) (by omega)
    have hbt2 : beat < 12 := by omega
    have hpw : 2 ^ beat < 2 ^ 12 := Nat.pow_lt_pow_right (by decide) hbt2
    unfold hb
    by_cases h0 : P = []
    · refine ⟨σ, Fr_r _ _, ?_⟩
      have h6 : σ 118 6 = nJ 0 := by
        rcases hcd with h | h
        · exact h.2
        · exact absurd h0 h.1
      simp only [if_pos h0]
      by_cases h1 : ls Z beat (rw1 A Z (r + 1)) (A 1) ≤ mud
      · rw [if_pos h1, Nat.zero_mul]
        simp (disch := omega) only [f_X11_heardOf_22, f_X11_heardOf_52, f_X11_heardOf_158, f_X11_heardOf_168, l0, l1, l2, l3, l4, l5, l6, l7, l8, l9, l10, l11, l12, l13, l14, l15, l16, l17, l18, l19, l20, l21, l22, l23, l24, l25, l33, l34, l40, l42, l50, l58, l99, l100, l700, l999, l4095, l9999, l10000, x_neg1, nI_add, x_pred, x_m1, x_J1, pk_sub, nJ_pos, Nat.add_sub_cancel, nI_leI, nI_ltI, nI_eq, q_leJ, q_Jle, q_ltJ, q_Jlt, q_eqJ, q_Jeq, q_JJ, q_JJle, q_JJlt, Option.bind_some, if_pos, if_neg, ↓reduceIte, Nat.add_zero, zg118, zi118_0, zi118_1, zi118_2, zi118_3, zi118_4, zi118_5, zi118_6, zr118_7, zr118_8, zr118_36, zr118_39, zr118_40, zi118_41, zr118_44, za128, za119, hR0, hR1, hR2, hR3, hR4, RV_0 rv, RV_t rv, RV_l rv, RV_o rv, RV_s rv, hlo, h6, shl_nI, Nat.zero_mul, x_or]
      · rw [if_neg h1, Nat.one_mul]
        simp (disch := omega) only [f_X11_heardOf_22, f_X11_heardOf_52, f_X11_heardOf_158, f_X11_heardOf_168, l0, l1, l2, l3, l4, l5, l6, l7, l8, l9, l10, l11, l12, l13, l14, l15, l16, l17, l18, l19, l20, l21, l22, l23, l24, l25, l33, l34, l40, l42, l50, l58, l99, l100, l700, l999, l4095, l9999, l10000, x_neg1, nI_add, x_pred, x_m1, x_J1, pk_sub, nJ_pos, Nat.add_sub_cancel, nI_leI, nI_ltI, nI_eq, q_leJ, q_Jle, q_ltJ, q_Jlt, q_eqJ, q_Jeq, q_JJ, q_JJle, q_JJlt, Option.bind_some, if_pos, if_neg, ↓reduceIte, Nat.add_zero, zg118, zi118_0, zi118_1, zi118_2, zi118_3, zi118_4, zi118_5, zi118_6, zr118_7, zr118_8, zr118_36, zr118_39, zr118_40, zi118_41, zr118_44, za128, za119, hR0, hR1, hR2, hR3, hR4, RV_0 rv, RV_t rv, RV_l rv, RV_o rv, RV_s rv, hlo, h6, x_one, x_or]
    · have h6 : σ 118 6 = nI 0 ∧ cdR (σ 120) P 0 := by
        rcases hcd with h | h
        · exact absurd h.1 h0
        · exact h.2
      have hok : okP P 0 := by
        rcases hP with h | h
        · exact absurd h h0
        · exact h
      simp only [if_neg h0]
      have rv1 : RV (s2 σ 130 0 (nI (ls Z beat (rw1 A Z (r + 1)) (A 1)))) b A P Z om := RV_fr rv (Fr_s (Or.inl rfl))
      have f6 : Fr Wr σ (s2 (s2 (s2 (s2 (s2 (s2 σ 130 0 (nI (ls Z beat (rw1 A Z (r + 1)) (A 1)))) 130 1 (nI (ls Z beat (rw1 A Z r) (A 1) + ls Z beat (rw1 A Z (r + 2)) (A 1)))) 130 2 (nI mud)) 130 3 (nI beat)) 130 4 (nI (pc (Z (25 + r)) 12))) 130 5 (nI last)) := Fr_st (Fr_st (Fr_st (Fr_st (Fr_st (Fr_s (Or.inl rfl)) (Or.inl rfl)) (Or.inl rfl)) (Or.inl rfl)) (Or.inl rfl)) (Or.inl rfl)
      have rv6 := RV_fr rv f6
      have hl1 := loudOf_f (w := w) (u := u) rv1 (p := r) (beat := beat) (by omega) (by omega)
      have hl2 := loudOf_f (w := w) (u := u) rv1 (p := r + 2) (beat := beat) (by omega) (by omega)
      rw [show r + 2 = r + 1 + 1 from rfl, nJ_S] at hl2
      have hb4 := hT r (by omega)
      have hs4 : ∀ (τ : Nat → Nat → Int32), RV τ b A P Z om → τ 128 (b + 25 + r) = nI (Z (25 + r)) := fun τ c => RV_s c r (by omega)
      obtain ⟨τ, h1, h2⟩ := reckons_f (w := w) (u := u) (vl := vals A Z (rw1 A Z (r + 1)) (rw1 A Z r ||| rw1 A Z (r + 2)) mud beat last) (P := P) (σ := s2 (s2 (s2 (s2 (s2 (s2 σ 130 0 (nI (ls Z beat (rw1 A Z (r + 1)) (A 1)))) 130 1 (nI (ls Z beat (rw1 A Z r) (A 1) + ls Z beat (rw1 A Z (r + 2)) (A 1)))) 130 2 (nI mud)) 130 3 (nI beat)) 130 4 (nI (pc (Z (25 + r)) 12))) 130 5 (nI last)) (by
          have h := rv6.2.1.2.2
          rcases h with h | h
          · exact absurd h.1 h0
          · exact h.2.2) hok (by
          intro k hk
          unfold vals
          rw [ls_or (A 1) (fun i _ => rw1_d rv0.2.2.2.2.2.1 rv0.2.2.2.2.1 (by omega) i), rw1_i hr]
          rcases (show k = 0 ∨ k = 1 ∨ k = 2 ∨ k = 3 ∨ k = 4 ∨ k = 5 by omega) with e | e | e | e | e | e <;> subst e <;> simp (disch := omega) only [s2_at, s2_off, if_pos, if_neg, ↓reduceIte]) (by have := okP_len P (σ 120) 0 h6.2; omega)
      refine ⟨τ, Fr_t f6 (Fr_m h1 (fun q k e => Or.inr e)), ?_⟩
      have hs5 := hs4 _ (RV_fr rv (Fr_st (Fr_st (Fr_st (Fr_s (W := Wr) (q := 130) (k := 0) (v := (nI (ls Z beat (rw1 A Z (r + 1)) (A 1)))) (Or.inl rfl)) (q := 130) (k := 1) (v := (nI (ls Z beat (rw1 A Z r) (A 1) + ls Z beat (rw1 A Z (r + 2)) (A 1)))) (Or.inl rfl)) (q := 130) (k := 2) (v := nI mud) (Or.inl rfl)) (q := 130) (k := 3) (v := nI beat) (Or.inl rfl)))
      have h66 : (s2 (s2 (s2 (s2 (s2 (s2 σ 130 0 (nI (ls Z beat (rw1 A Z (r + 1)) (A 1)))) 130 1 (nI (ls Z beat (rw1 A Z r) (A 1) + ls Z beat (rw1 A Z (r + 2)) (A 1)))) 130 2 (nI mud)) 130 3 (nI beat)) 130 4 (nI (pc (Z (25 + r)) 12))) 130 5 (nI last)) 118 6 = nI 0 := by rw [f6 118 6 (by unfold Wr; omega)]; exact h6.1
      have hpre : f_X11_heardOf_22 K 118 (nI b) (nI r) (nI mud) (nI i4) (nI last) (nI beat) (mk σ w u) = (f_X11_reckons 118 (nI 0) (mk (s2 (s2 (s2 (s2 (s2 (s2 σ 130 0 (nI (ls Z beat (rw1 A Z (r + 1)) (A 1)))) 130 1 (nI (ls Z beat (rw1 A Z r) (A 1) + ls Z beat (rw1 A Z (r + 2)) (A 1)))) 130 2 (nI mud)) 130 3 (nI beat)) 130 4 (nI (pc (Z (25 + r)) 12))) 130 5 (nI last)) w u)).bind fun r20 => if r20.1 ≤ nI 0 then (f_X11_heardOf_156 K 118 (nI b) (nI r) (nI mud) (nI i4) (nI beat) (nI 0) r20.2) else (f_X11_heardOf_156 K 118 (nI b) (nI r) (nI mud) (nI i4) (nI beat) (nI 1) r20.2) := by
        by_cases h1 : ls Z beat (rw1 A Z (r + 1)) (A 1) ≤ mud
        · simp (disch := omega) only [f_X11_heardOf_22, f_X11_heardOf_52, l0, l1, l2, l3, l4, l5, l6, l7, l8, l9, l10, l11, l12, l13, l14, l15, l16, l17, l18, l19, l20, l21, l22, l23, l24, l25, l33, l34, l40, l42, l50, l58, l99, l100, l700, l999, l4095, l9999, l10000, x_neg1, nI_add, x_pred, x_m1, x_J1, pk_sub, nJ_pos, Nat.add_sub_cancel, nI_leI, nI_ltI, nI_eq, q_leJ, q_Jle, q_ltJ, q_Jlt, q_eqJ, q_Jeq, q_JJ, q_JJle, q_JJlt, Option.bind_some, if_pos, if_neg, ↓reduceIte, Nat.add_zero, zg118, zi118_0, zi118_1, zi118_2, zi118_3, zi118_4, zi118_5, zi118_6, zr118_7, zr118_8, zr118_36, zr118_39, zr118_40, zi118_41, zr118_44, za128, za119, hR0, hR1, hR2, hR3, hR4, RV_0 rv, RV_t rv, RV_l rv, RV_o rv, RV_s rv, hlo, h6.1, zb130, x_pred, hl1, hl2, hs5, bits_f, h66]
          rfl
        · simp (disch := omega) only [f_X11_heardOf_22, f_X11_heardOf_52, l0, l1, l2, l3, l4, l5, l6, l7, l8, l9, l10, l11, l12, l13, l14, l15, l16, l17, l18, l19, l20, l21, l22, l23, l24, l25, l33, l34, l40, l42, l50, l58, l99, l100, l700, l999, l4095, l9999, l10000, x_neg1, nI_add, x_pred, x_m1, x_J1, pk_sub, nJ_pos, Nat.add_sub_cancel, nI_leI, nI_ltI, nI_eq, q_leJ, q_Jle, q_ltJ, q_Jlt, q_eqJ, q_Jeq, q_JJ, q_JJle, q_JJlt, Option.bind_some, if_pos, if_neg, ↓reduceIte, Nat.add_zero, zg118, zi118_0, zi118_1, zi118_2, zi118_3, zi118_4, zi118_5, zi118_6, zr118_7, zr118_8, zr118_36, zr118_39, zr118_40, zi118_41, zr118_44, za128, za119, hR0, hR1, hR2, hR3, hR4, RV_0 rv, RV_t rv, RV_l rv, RV_o rv, RV_s rv, hlo, h6.1, zb130, x_pred, hl1, hl2, hs5, bits_f, h66]
          rfl
      rw [hpre, h2, Option.bind_some]
      dsimp only
      by_cases hc : ev P (vals A Z (rw1 A Z (r + 1)) (rw1 A Z r ||| rw1 A Z (r + 2)) mud beat last) ≤ 0
      · rw [if_pos hc, if_pos (show _ ≤ nI 0 from hc), Nat.zero_mul]
        simp (disch := omega) only [f_X11_heardOf_156, f_X11_heardOf_158, f_X11_heardOf_168, l0, l1, l2, l3, l4, l5, l6, l7, l8, l9, l10, l11, l12, l13, l14, l15, l16, l17, l18, l19, l20, l21, l22, l23, l24, l25, l33, l34, l40, l42, l50, l58, l99, l100, l700, l999, l4095, l9999, l10000, x_neg1, nI_add, x_pred, x_m1, x_J1, pk_sub, nJ_pos, Nat.add_sub_cancel, nI_leI, nI_ltI, nI_eq, q_leJ, q_Jle, q_ltJ, q_Jlt, q_eqJ, q_Jeq, q_JJ, q_JJle, q_JJlt, Option.bind_some, if_pos, if_neg, ↓reduceIte, shl_nI, Nat.zero_mul, x_or]
      · rw [if_neg hc, if_neg (show ¬ _ ≤ nI 0 from hc), Nat.one_mul]
        simp (disch := omega) only [f_X11_heardOf_156, f_X11_heardOf_158, f_X11_heardOf_168, l0, l1, l2, l3, l4, l5, l6, l7, l8, l9, l10, l11, l12, l13, l14, l15, l16, l17, l18, l19, l20, l21, l22, l23, l24, l25, l33, l34, l40, l42, l50, l58, l99, l100, l700, l999, l4095, l9999, l10000, x_neg1, nI_add, x_pred, x_m1, x_J1, pk_sub, nJ_pos, Nat.add_sub_cancel, nI_leI, nI_ltI, nI_eq, q_leJ, q_Jle, q_ltJ, q_Jlt, q_eqJ, q_Jeq, q_JJ, q_JJle, q_JJlt, Option.bind_some, if_pos, if_neg, ↓reduceIte, x_one, x_or]
theorem heardOf_f (rv : RV σ b A P Z om) {r : Nat} (hr : r < A 2) : RQ (Fr Wr σ) w u (nI (he A P Z r (mo A om (Z 0)))) (f_X11_heardOf 118 (nI b) (nI r) (mk σ w u)) := by
  have rv0 := rv
  have hT := RV_b rv; have rv2 := rv; obtain ⟨hbb, ⟨⟨hR0, hR1, hR2, hR4, hR3⟩, hmu, hcd⟩, hZ, ⟨hom, hom2⟩, ⟨hB1, hB2, hM8, hR8, hS12, hnm, hmd⟩, ⟨hN2, hW, hD⟩, hP⟩ := rv2
  have hmo := mo_lt rv.2.2.2.2.1 hom2 (Z 0)
  have hmd := mudOf_f (w := w) (u := u) rv (n := Z 0) (by omega)
  unfold f_X11_heardOf
  simp (disch := omega) only [l0, l1, l2, l3, l4, l5, l6, l7, l8, l9, l10, l11, l12, l13, l14, l15, l16, l17, l18, l19, l20, l21, l22, l23, l24, l25, l33, l34, l40, l42, l50, l58, l99, l100, l700, l999, l4095, l9999, l10000, x_neg1, nI_add, x_pred, x_m1, x_J1, pk_sub, nJ_pos, Nat.add_sub_cancel, nI_leI, nI_ltI, nI_eq, q_leJ, q_Jle, q_ltJ, q_Jlt, q_eqJ, q_Jeq, q_JJ, q_JJle, q_JJlt, Option.bind_some, if_pos, if_neg, ↓reduceIte, Nat.add_zero, zg118, zi118_0, zi118_1, zi118_2, zi118_3, zi118_4, zi118_5, zi118_6, zr118_7, zr118_8, zr118_36, zr118_39, zr118_40, zi118_41, zr118_44, za128, za119, hR0, hR1, hR2, hR3, hR4, RV_0 rv, RV_t rv, RV_l rv, RV_o rv, RV_s rv, hmd]
  unfold l_X11_heardOf_22
  refine lp_S (RQ (Fr Wr σ) w u (nI (he A P Z r (mo A om (Z 0))))) (fun i τ => (118, nI b, nI r, nI (mo A om (Z 0)), nI (hd A P Z (rw1 A Z (r + 1)) (rw1 A Z r ||| rw1 A Z (r + 2)) (mo A om (Z 0)) i).1, nI (hd A P Z (rw1 A Z (r + 1)) (rw1 A Z r ||| rw1 A Z (r + 2)) (mo A om (Z 0)) i).2, nI i, mk τ w u)) (fun _ τ => Fr Wr σ τ) (A 0) ?_ ?_ (A 0) 0 _ σ (by omega) (by omega) (Fr_r _ _)
  · intro i hi k τ fr hk
    obtain ⟨τ2, g1, g2⟩ := hearsOf_f (w := w) (u := u) (RV_fr rv0 fr) (r := r) (beat := i) (mud := mo A om (Z 0)) (last := (hd A P Z (rw1 A Z (r + 1)) (rw1 A Z r ||| rw1 A Z (r + 2)) (mo A om (Z 0)) i).2) (i4 := (hd A P Z (rw1 A Z (r + 1)) (rw1 A Z r ||| rw1 A Z (r + 2)) (mo A om (Z 0)) i).1) (K := fun a0 a1 a2 a3 a4 a5 a6 a7 => k (a0, a1, a2, a3, a4, a5, a6, a7)) hr (by omega) (by omega)
    have h := hk τ2 (Fr_t fr g1)
    dsimp only at h ⊢
    rw [g2, if_neg (by omega)]
    exact h
  · intro k τ fr
    obtain ⟨τ2, g1, g2⟩ := hearsOf_f (w := w) (u := u) (RV_fr rv0 fr) (r := r) (beat := A 0) (mud := mo A om (Z 0)) (last := (hd A P Z (rw1 A Z (r + 1)) (rw1 A Z r ||| rw1 A Z (r + 2)) (mo A om (Z 0)) (A 0)).2) (i4 := (hd A P Z (rw1 A Z (r + 1)) (rw1 A Z r ||| rw1 A Z (r + 2)) (mo A om (Z 0)) (A 0)).1) (K := fun a0 a1 a2 a3 a4 a5 a6 a7 => k (a0, a1, a2, a3, a4, a5, a6, a7)) hr (by omega) (by omega)
    dsimp only
    rw [g2, if_pos (by omega)]
    exact ⟨τ, fr, rfl⟩
end RA
