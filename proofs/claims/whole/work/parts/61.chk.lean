/-! L3: arguments looked at -/
theorem arg_d (x : Int32) {n : Nat} (hn : n < 2 ^ 31) : (∃ j, j < n ∧ x = nI j) ∨ (x < 0 ∨ nI n ≤ x) := by
  by_cases h : x < 0
  · exact Or.inr (Or.inl h)
  · obtain ⟨j, h1, h2⟩ := nI_of h
    by_cases h3 : j < n
    · exact Or.inl ⟨j, h3, h2⟩
    · exact Or.inr (Or.inr (by rw [h2]; exact nI_le (by omega) h1))
theorem arg_w (x : Int32) {a b : Nat} (ha : a < 2 ^ 31) (hb : b < 2 ^ 31) : (∃ j, a ≤ j ∧ j ≤ b ∧ x = nI j) ∨ (x < nI a ∨ (¬ x < nI a ∧ ¬ x ≤ nI b ∧ nI b < x)) := by
  by_cases h : x < nI a
  · exact Or.inr (Or.inl h)
  · have h0 : ¬ x < 0 := by
      intro h2
      apply h
      rw [Int32.lt_iff_toInt_lt] at h2 ⊢
      rw [nI_toInt ha]
      have e : (0 : Int32).toInt = 0 := rfl
      omega
    obtain ⟨j, h1, h2⟩ := nI_of h0
    subst h2
    by_cases h3 : j ≤ b
    · exact Or.inl ⟨j, by rw [nI_ltI h1 ha] at h; omega, h3, rfl⟩
    · refine Or.inr (Or.inr ⟨h, ?_, ?_⟩)
      · rw [nI_leI h1 hb]; exact h3
      · rw [nI_ltI hb h1]; omega
theorem xb_s {β : Type} (x : Nat × hp_H) (f : Option β) (F : β → Option (Nat × hp_H)) : xb (some x) f F = some x := rfl
theorem xb_n {β : Type} (h : β) (F : β → Option (Nat × hp_H)) : xb none (some h) F = F h := rfl
theorem hx_0 (a : Int32) (b : Option Int32) (h : hp_H) : hx_c (some a) b (0, h) = some (a, h) := rfl
theorem hx_1 (a : Option Int32) (b : Int32) (h : hp_H) : hx_c a (some b) (1, h) = some (b, h) := rfl
theorem eh_n (f : Option (Int32 × hp_H)) : eh none f = f := rfl
theorem eh_s (r : Int32 × hp_H) (f : Option (Int32 × hp_H)) : eh (some r) f = some r := rfl
theorem bd_n {α β : Type} (F : α → Option β) : (none : Option α).bind F = none := rfl
section CK
variable {σ : Nat → Nat → Int32} {w u : Int64} {A X : Nat → Nat} {P : List (Nat × Nat)} {j n : Nat} {x : Int32}
theorem needMan_f (cv : CV σ 34 A P X) (h : j < A 1) : f_X10_needMan 0 (nI j) (mk σ w u) = some (mk σ w u) := by
  have hM := CV_M cv; have hT := CV_b cv; have cv2 := cv; obtain ⟨hm, ⟨⟨hA0, hA1, hA2, hA3, hA4⟩, hA7, hrl, hrn, hrc⟩, ⟨hN, hX⟩, ⟨hB1, hB2, hM8, hR8, hS12, hnm, hmd⟩, ⟨hN2, hW, hD⟩, hP⟩ := cv2
  simp (disch := omega) only [f_X10_needMan_15, f_X10_needMan, l0, l1, l2, l3, l4, l5, l6, l7, l8, l9, l10, l11, l12, l13, l14, l15, l16, l17, l18, l19, l20, l21, l22, l23, l24, l25, l33, l34, l40, l42, l50, l58, l99, l100, l700, l999, l4095, l9999, l10000, x_neg1, nI_add, x_pred, x_m1, x_J1, pk_sub, nJ_pos, Nat.add_sub_cancel, nI_leI, nI_ltI, nI_eq, q_leJ, q_Jle, q_ltJ, q_Jlt, q_eqJ, q_Jeq, q_JJ, q_JJle, q_JJlt, Option.bind_some, if_pos, if_neg, ↓reduceIte, zg0, zr0_4, zi5_1, hA1]
theorem needMan_g (cv : CV σ 34 A P X) (h : j < A 1) : g_X10_needMan 0 (nI j) (mk σ w u) = none := by
  have hM := CV_M cv; have hT := CV_b cv; have cv2 := cv; obtain ⟨hm, ⟨⟨hA0, hA1, hA2, hA3, hA4⟩, hA7, hrl, hrn, hrc⟩, ⟨hN, hX⟩, ⟨hB1, hB2, hM8, hR8, hS12, hnm, hmd⟩, ⟨hN2, hW, hD⟩, hP⟩ := cv2
  simp (disch := omega) only [g_X10_needMan, g_X10_needMan_15, l0, l1, l2, l3, l4, l5, l6, l7, l8, l9, l10, l11, l12, l13, l14, l15, l16, l17, l18, l19, l20, l21, l22, l23, l24, l25, l33, l34, l40, l42, l50, l58, l99, l100, l700, l999, l4095, l9999, l10000, x_neg1, nI_add, x_pred, x_m1, x_J1, pk_sub, nJ_pos, Nat.add_sub_cancel, nI_leI, nI_ltI, nI_eq, q_leJ, q_Jle, q_ltJ, q_Jlt, q_eqJ, q_Jeq, q_JJ, q_JJle, q_JJlt, Option.bind_some, if_pos, if_neg, ↓reduceIte, zg0, zr0_4, zi5_1, hA1]
theorem needMan_b (cv : CV σ 34 A P X) (h : x < 0 ∨ nI (A 1) ≤ x) : g_X10_needMan 0 x (mk σ w u) = some (0, mk σ w u) := by
  have hM := CV_M cv; have hT := CV_b cv; have cv2 := cv; obtain ⟨hm, ⟨⟨hA0, hA1, hA2, hA3, hA4⟩, hA7, hrl, hrn, hrc⟩, ⟨hN, hX⟩, ⟨hB1, hB2, hM8, hR8, hS12, hnm, hmd⟩, ⟨hN2, hW, hD⟩, hP⟩ := cv2
  unfold g_X10_needMan g_X10_needMan_15
  rw [zg0]
  by_cases c : x < 0
  · rw [if_pos c]
  · rw [if_neg c, zr0_4, Option.bind_some, zi5_1, Option.bind_some, hA1, if_neg (Int32.not_lt.mpr (by rcases h with h | h; exact absurd h c; exact h))]
theorem needRow_f (cv : CV σ 34 A P X) (h : j < A 2) : f_X10_needRow 0 (nI j) (mk σ w u) = some (mk σ w u) := by
  have hM := CV_M cv; have hT := CV_b cv; have cv2 := cv; obtain ⟨hm, ⟨⟨hA0, hA1, hA2, hA3, hA4⟩, hA7, hrl, hrn, hrc⟩, ⟨hN, hX⟩, ⟨hB1, hB2, hM8, hR8, hS12, hnm, hmd⟩, ⟨hN2, hW, hD⟩, hP⟩ := cv2
  simp (disch := omega) only [f_X10_needRow_15, f_X10_needRow, l0, l1, l2, l3, l4, l5, l6, l7, l8, l9, l10, l11, l12, l13, l14, l15, l16, l17, l18, l19, l20, l21, l22, l23, l24, l25, l33, l34, l40, l42, l50, l58, l99, l100, l700, l999, l4095, l9999, l10000, x_neg1, nI_add, x_pred, x_m1, x_J1, pk_sub, nJ_pos, Nat.add_sub_cancel, nI_leI, nI_ltI, nI_eq, q_leJ, q_Jle, q_ltJ, q_Jlt, q_eqJ, q_Jeq, q_JJ, q_JJle, q_JJlt, Option.bind_some, if_pos, if_neg, ↓reduceIte, zg0, zr0_4, zi5_2, hA2]
theorem needRow_g (cv : CV σ 34 A P X) (h : j < A 2) : g_X10_needRow 0 (nI j) (mk σ w u) = none := by
  have hM := CV_M cv; have hT := CV_b cv; have cv2 := cv; obtain ⟨hm, ⟨⟨hA0, hA1, hA2, hA3, hA4⟩, hA7, hrl, hrn, hrc⟩, ⟨hN, hX⟩, ⟨hB1, hB2, hM8, hR8, hS12, hnm, hmd⟩, ⟨hN2, hW, hD⟩, hP⟩ := cv2
  simp (disch := omega) only [g_X10_needRow, g_X10_needRow_15, l0, l1, l2, l3, l4, l5, l6, l7, l8, l9, l10, l11, l12, l13, l14, l15, l16, l17, l18, l19, l20, l21, l22, l23, l24, l25, l33, l34, l40, l42, l50, l58, l99, l100, l700, l999, l4095, l9999, l10000, x_neg1, nI_add, x_pred, x_m1, x_J1, pk_sub, nJ_pos, Nat.add_sub_cancel, nI_leI, nI_ltI, nI_eq, q_leJ, q_Jle, q_ltJ, q_Jlt, q_eqJ, q_Jeq, q_JJ, q_JJle, q_JJlt, Option.bind_some, if_pos, if_neg, ↓reduceIte, zg0, zr0_4, zi5_2, hA2]
theorem needRow_b (cv : CV σ 34 A P X) (h : x < 0 ∨ nI (A 2) ≤ x) : g_X10_needRow 0 x (mk σ w u) = some (0, mk σ w u) := by
  have hM := CV_M cv; have hT := CV_b cv; have cv2 := cv; obtain ⟨hm, ⟨⟨hA0, hA1, hA2, hA3, hA4⟩, hA7, hrl, hrn, hrc⟩, ⟨hN, hX⟩, ⟨hB1, hB2, hM8, hR8, hS12, hnm, hmd⟩, ⟨hN2, hW, hD⟩, hP⟩ := cv2
  unfold g_X10_needRow g_X10_needRow_15
  rw [zg0]
  by_cases c : x < 0
  · rw [if_pos c]
  · rw [if_neg c, zr0_4, Option.bind_some, zi5_2, Option.bind_some, hA2, if_neg (Int32.not_lt.mpr (by rcases h with h | h; exact absurd h c; exact h))]
theorem needBeat_f (cv : CV σ 34 A P X) (h : j < A 0) : f_X10_needBeat 0 (nI j) (mk σ w u) = some (mk σ w u) := by
  have hM := CV_M cv; have hT := CV_b cv; have cv2 := cv; obtain ⟨hm, ⟨⟨hA0, hA1, hA2, hA3, hA4⟩, hA7, hrl, hrn, hrc⟩, ⟨hN, hX⟩, ⟨hB1, hB2, hM8, hR8, hS12, hnm, hmd⟩, ⟨hN2, hW, hD⟩, hP⟩ := cv2
  simp (disch := omega) only [f_X10_needBeat_15, f_X10_needBeat, l0, l1, l2, l3, l4, l5, l6, l7, l8, l9, l10, l11, l12, l13, l14, l15, l16, l17, l18, l19, l20, l21, l22, l23, l24, l25, l33, l34, l40, l42, l50, l58, l99, l100, l700, l999, l4095, l9999, l10000, x_neg1, nI_add, x_pred, x_m1, x_J1, pk_sub, nJ_pos, Nat.add_sub_cancel, nI_leI, nI_ltI, nI_eq, q_leJ, q_Jle, q_ltJ, q_Jlt, q_eqJ, q_Jeq, q_JJ, q_JJle, q_JJlt, Option.bind_some, if_pos, if_neg, ↓reduceIte, zg0, zr0_4, zi5_0, hA0]
theorem needBeat_g (cv : CV σ 34 A P X) (h : j < A 0) : g_X10_needBeat 0 (nI j) (mk σ w u) = none := by
  have hM := CV_M cv; have hT := CV_b cv; have cv2 := cv; obtain ⟨hm, ⟨⟨hA0, hA1, hA2, hA3, hA4⟩, hA7, hrl, hrn, hrc⟩, ⟨hN, hX⟩, ⟨hB1, hB2, hM8, hR8, hS12, hnm, hmd⟩, ⟨hN2, hW, hD⟩, hP⟩ := cv2
  simp (disch := omega) only [g_X10_needBeat, g_X10_needBeat_15, l0, l1, l2, l3, l4, l5, l6, l7, l8, l9, l10, l11, l12, l13, l14, l15, l16, l17, l18, l19, l20, l21, l22, l23, l24, l25, l33, l34, l40, l42, l50, l58, l99, l100, l700, l999, l4095, l9999, l10000, x_neg1, nI_add, x_pred, x_m1, x_J1, pk_sub, nJ_pos, Nat.add_sub_cancel, nI_leI, nI_ltI, nI_eq, q_leJ, q_Jle, q_ltJ, q_Jlt, q_eqJ, q_Jeq, q_JJ, q_JJle, q_JJlt, Option.bind_some, if_pos, if_neg, ↓reduceIte, zg0, zr0_4, zi5_0, hA0]
theorem needBeat_b (cv : CV σ 34 A P X) (h : x < 0 ∨ nI (A 0) ≤ x) : g_X10_needBeat 0 x (mk σ w u) = some (0, mk σ w u) := by
  have hM := CV_M cv; have hT := CV_b cv; have cv2 := cv; obtain ⟨hm, ⟨⟨hA0, hA1, hA2, hA3, hA4⟩, hA7, hrl, hrn, hrc⟩, ⟨hN, hX⟩, ⟨hB1, hB2, hM8, hR8, hS12, hnm, hmd⟩, ⟨hN2, hW, hD⟩, hP⟩ := cv2
  unfold g_X10_needBeat g_X10_needBeat_15
  rw [zg0]
  by_cases c : x < 0
  · rw [if_pos c]
  · rw [if_neg c, zr0_4, Option.bind_some, zi5_0, Option.bind_some, hA0, if_neg (Int32.not_lt.mpr (by rcases h with h | h; exact absurd h c; exact h))]
theorem needWhat_f {b : Nat} (h : j ≤ b) (hb : b < 2 ^ 31) : f_X10_needWhat (nI j) (nI b) (mk σ w u) = some (mk σ w u) := by
  simp (disch := omega) only [f_X10_needWhat_9, f_X10_needWhat, l0, l1, l2, l3, l4, l5, l6, l7, l8, l9, l10, l11, l12, l13, l14, l15, l16, l17, l18, l19, l20, l21, l22, l23, l24, l25, l33, l34, l40, l42, l50, l58, l99, l100, l700, l999, l4095, l9999, l10000, x_neg1, nI_add, x_pred, x_m1, x_J1, pk_sub, nJ_pos, Nat.add_sub_cancel, nI_leI, nI_ltI, nI_eq, q_leJ, q_Jle, q_ltJ, q_Jlt, q_eqJ, q_Jeq, q_JJ, q_JJle, q_JJlt, Option.bind_some, if_pos, if_neg, ↓reduceIte]
theorem needWhat_g {b : Nat} (h : j ≤ b) (hb : b < 2 ^ 31) : g_X10_needWhat (nI j) (nI b) (mk σ w u) = none := by
  simp (disch := omega) only [g_X10_needWhat, g_X10_needWhat_9, l0, l1, l2, l3, l4, l5, l6, l7, l8, l9, l10, l11, l12, l13, l14, l15, l16, l17, l18, l19, l20, l21, l22, l23, l24, l25, l33, l34, l40, l42, l50, l58, l99, l100, l700, l999, l4095, l9999, l10000, x_neg1, nI_add, x_pred, x_m1, x_J1, pk_sub, nJ_pos, Nat.add_sub_cancel, nI_leI, nI_ltI, nI_eq, q_leJ, q_Jle, q_ltJ, q_Jlt, q_eqJ, q_Jeq, q_JJ, q_JJle, q_JJlt, Option.bind_some, if_pos, if_neg, ↓reduceIte]
theorem needWhat_b {b : Nat} (h : x < nI 0 ∨ (¬ x < nI 0 ∧ ¬ x ≤ nI b ∧ nI b < x)) : g_X10_needWhat x (nI b) (mk σ w u) = some (0, mk σ w u) := by
  unfold g_X10_needWhat g_X10_needWhat_9
  rcases h with h | ⟨h1, h2, -⟩
  · rw [if_pos (show x < 0 from h)]
  · rw [if_neg (show ¬ x < 0 from h1), if_neg h2]
theorem needWithin_f {a b : Nat} (ha : a ≤ j) (h : j ≤ b) (hb : b < 2 ^ 31) : f_X10_needWithin (nI j) (nI a) (nI b) (mk σ w u) = some (mk σ w u) := by
  simp (disch := omega) only [f_X10_needWithin_10, f_X10_needWithin, l0, l1, l2, l3, l4, l5, l6, l7, l8, l9, l10, l11, l12, l13, l14, l15, l16, l17, l18, l19, l20, l21, l22, l23, l24, l25, l33, l34, l40, l42, l50, l58, l99, l100, l700, l999, l4095, l9999, l10000, x_neg1, nI_add, x_pred, x_m1, x_J1, pk_sub, nJ_pos, Nat.add_sub_cancel, nI_leI, nI_ltI, nI_eq, q_leJ, q_Jle, q_ltJ, q_Jlt, q_eqJ, q_Jeq, q_JJ, q_JJle, q_JJlt, Option.bind_some, if_pos, if_neg, ↓reduceIte]
theorem needWithin_g {a b : Nat} (ha : a ≤ j) (h : j ≤ b) (hb : b < 2 ^ 31) : g_X10_needWithin (nI j) (nI a) (nI b) (mk σ w u) = none := by
  simp (disch := omega) only [g_X10_needWithin, g_X10_needWithin_10, l0, l1, l2, l3, l4, l5, l6, l7, l8, l9, l10, l11, l12, l13, l14, l15, l16, l17, l18, l19, l20, l21, l22, l23, l24, l25, l33, l34, l40, l42, l50, l58, l99, l100, l700, l999, l4095, l9999, l10000, x_neg1, nI_add, x_pred, x_m1, x_J1, pk_sub, nJ_pos, Nat.add_sub_cancel, nI_leI, nI_ltI, nI_eq, q_leJ, q_Jle, q_ltJ, q_Jlt, q_eqJ, q_Jeq, q_JJ, q_JJle, q_JJlt, Option.bind_some, if_pos, if_neg, ↓reduceIte]
theorem needWithin_b {a b : Nat} (h : x < nI a ∨ (¬ x < nI a ∧ ¬ x ≤ nI b ∧ nI b < x)) : g_X10_needWithin x (nI a) (nI b) (mk σ w u) = some (1, mk σ w u) := by
  unfold g_X10_needWithin g_X10_needWithin_10
  rcases h with h | ⟨h1, h2, -⟩
  · rw [if_pos h]
  · rw [if_neg h1, if_neg h2]
/-- the reference's own looks -/
theorem right_1 {c : Int32} (h : σ 118 0 = nI 0) : f_X11_right 118 (nI 1) c (mk σ w u) = some (nI 1, mk σ w u) := by
  unfold f_X11_right f_X11_right_16 f_X11_right_28
  rw [zg118, zi118_0, Option.bind_some, h, if_pos (by decide), if_neg (by decide), Option.bind_some, if_pos (by decide)]
  rfl
theorem right_0 {c : Nat} (hc : c = 1 ∨ c = 2) (h : σ 118 0 = nI 0) : f_X11_right 118 (nI 0) (nI c) (mk σ w u) = some (nI 0, mk (s2 σ 118 0 (nI c)) w u) := by
  unfold f_X11_right f_X11_right_16 f_X11_right_28
  rw [zg118, zi118_0, Option.bind_some, h, if_pos (by decide), if_pos (by decide), zw118_0, Option.bind_some, zi118_0, Option.bind_some, s2_at rfl rfl]
  rcases hc with e | e <;> subst e <;> rfl
theorem within_1 {a b : Nat} (ha : a ≤ j) (h : j ≤ b) (hb : b < 2 ^ 31) (h0 : hp_H) : f_X11_within (nI j) (nI a) (nI b) h0 = some (nI 1, h0) := by
  unfold f_X11_within f_X11_within_15
  rw [if_neg (nI_nlt ha (by omega)), if_neg (nI_nlt h hb)]
  rfl
theorem within_0 {a b : Nat} (h : x < nI a ∨ (¬ x < nI a ∧ ¬ x ≤ nI b ∧ nI b < x)) (h0 : hp_H) : f_X11_within x (nI a) (nI b) h0 = some (nI 0, h0) := by
  unfold f_X11_within f_X11_within_14 f_X11_within_15
  rcases h with h | ⟨h1, -, h2⟩
  · rw [if_pos h]; rfl
  · rw [if_neg h1, if_pos h2]; rfl
theorem isMan_1 (hm : σ 118 2 = nI n) (hn : n < 2 ^ 31) (h : j < n) (h0 : σ 118 0 = nI 0) : f_X11_isMan 118 (nI j) (mk σ w u) = some (nI 1, mk σ w u) := by
  unfold f_X11_isMan f_X11_isMan_18
  rw [zg118, if_neg (nI_pos (by omega)), zi118_2, Option.bind_some, hm, if_neg (nI_ge h hn), show (1 : Int32) = nI 1 from rfl, right_1 h0, Option.bind_some]
  dsimp only
  rw [if_pos (by decide)]
theorem isMan_0 (hm : σ 118 2 = nI n) (h : x < 0 ∨ nI n ≤ x) (h0 : σ 118 0 = nI 0) : f_X11_isMan 118 x (mk σ w u) = some (nI 0, mk (s2 σ 118 0 (nI 1)) w u) := by
  have e : f_X11_isMan_17 118 (mk σ w u) = some (nI 0, mk (s2 σ 118 0 (nI 1)) w u) := by
    unfold f_X11_isMan_17 f_X11_isMan_18
    rw [show (0 : Int32) = nI 0 from rfl, show (1 : Int32) = nI 1 from rfl, right_0 (Or.inl rfl) h0, Option.bind_some]
    dsimp only
    rw [if_pos (by decide)]
  unfold f_X11_isMan
  rw [zg118]
  by_cases c : x < 0
  · rw [if_pos c, e]
  · rw [if_neg c, zi118_2, Option.bind_some, hm, if_pos (by rcases h with h | h; exact absurd h c; exact h), e]
theorem isRow_1 (hm : σ 118 3 = nI n) (hn : n < 2 ^ 31) (h : j < n) (h0 : σ 118 0 = nI 0) : f_X11_isRow 118 (nI j) (mk σ w u) = some (nI 1, mk σ w u) := by
  unfold f_X11_isRow f_X11_isRow_18
  rw [zg118, if_neg (nI_pos (by omega)), zi118_3, Option.bind_some, hm, if_neg (nI_ge h hn), show (1 : Int32) = nI 1 from rfl, right_1 h0, Option.bind_some]
  dsimp only
  rw [if_pos (by decide)]
theorem isRow_0 (hm : σ 118 3 = nI n) (h : x < 0 ∨ nI n ≤ x) (h0 : σ 118 0 = nI 0) : f_X11_isRow 118 x (mk σ w u) = some (nI 0, mk (s2 σ 118 0 (nI 1)) w u) := by
  have e : f_X11_isRow_17 118 (mk σ w u) = some (nI 0, mk (s2 σ 118 0 (nI 1)) w u) := by
    unfold f_X11_isRow_17 f_X11_isRow_18
    rw [show (0 : Int32) = nI 0 from rfl, show (1 : Int32) = nI 1 from rfl, right_0 (Or.inl rfl) h0, Option.bind_some]
    dsimp only
    rw [if_pos (by decide)]
  unfold f_X11_isRow
  rw [zg118]
  by_cases c : x < 0
  · rw [if_pos c, e]
  · rw [if_neg c, zi118_3, Option.bind_some, hm, if_pos (by rcases h with h | h; exact absurd h c; exact h), e]
theorem isWhat_1 {b : Nat} (h : j ≤ b) (hb : b < 2 ^ 31) (h0 : σ 118 0 = nI 0) : f_X11_isWhat 118 (nI j) (nI b) (mk σ w u) = some (nI 1, mk σ w u) := by
  unfold f_X11_isWhat
  rw [zg118, show (0 : Int32) = nI 0 from rfl, within_1 (Nat.zero_le _) h hb, Option.bind_some]
  dsimp only
  rw [right_1 h0, Option.bind_some]
  dsimp only
  rw [if_pos (by decide)]
theorem isWhat_0 {b : Nat} (h : x < nI 0 ∨ (¬ x < nI 0 ∧ ¬ x ≤ nI b ∧ nI b < x)) (h0 : σ 118 0 = nI 0) : f_X11_isWhat 118 x (nI b) (mk σ w u) = some (nI 0, mk (s2 σ 118 0 (nI 1)) w u) := by
  unfold f_X11_isWhat
  rw [zg118, show (0 : Int32) = nI 0 from rfl, within_0 h, Option.bind_some]
  dsimp only
  rw [show (1 : Int32) = nI 1 from rfl, right_0 (Or.inl rfl) h0, Option.bind_some]
  dsimp only
  rw [if_pos (by decide)]
theorem isNights_1 {a : Nat} {c : Int32} (ha : a ≤ j) (h : j ≤ 40) (h0 : σ 118 0 = nI 0) : f_X11_isNights 118 (nI j) (nI a) c (mk σ w u) = some (nI 1, mk σ w u) := by
  unfold f_X11_isNights
  rw [zg118, show (40 : Int32) = nI 40 from rfl, within_1 ha h (by decide), Option.bind_some]
  dsimp only
  rw [right_1 h0, Option.bind_some]
  dsimp only
  rw [if_pos (by decide)]
theorem isNights_0 {a c : Nat} (h : x < nI a ∨ (¬ x < nI a ∧ ¬ x ≤ nI 40 ∧ nI 40 < x)) (hc : c = 1 ∨ c = 2) (h0 : σ 118 0 = nI 0) : f_X11_isNights 118 x (nI a) (nI c) (mk σ w u) = some (nI 0, mk (s2 σ 118 0 (nI c)) w u) := by
  unfold f_X11_isNights
  rw [zg118, show (40 : Int32) = nI 40 from rfl, within_0 h, Option.bind_some]
  dsimp only
  rw [right_0 hc h0, Option.bind_some]
  dsimp only
  rw [if_pos (by decide)]
theorem thrown_R : f_X11_thrown 118 (mk σ w u) = some (σ 118 0, mk σ w u) := by
  unfold f_X11_thrown
  rw [zg118, zi118_0, Option.bind_some]
end CK
