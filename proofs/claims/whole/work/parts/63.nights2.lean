/-! L3: observers that look at nights, more -/
theorem mbt_c {A X Y : Nat → Nat} {P : List (Nat × Nat)} (hM : A 1 ≤ 8) (h : hq X Y) (w n : Nat) : mbt A P X w n = mbt A P Y w n := by
  unfold mbt
  exact it_c (fun i _ v => by rw [na_c hM h, h _ (by omega) (Or.inr (by omega))])
def us (A : Nat → Nat) (P : List (Nat × Nat)) (X : Nat → Nat) : Nat → Nat := it (fun i v => an v (nbt A P (rt A i X) (wfn A X i) (A 2))) (2 ^ A 1 - 1)
theorem us_S (A : Nat → Nat) (P : List (Nat × Nat)) (X : Nat → Nat) (i : Nat) : us A P X (i + 1) = an (us A P X i) (nbt A P (rt A i X) (wfn A X i) (A 2)) := rfl
def ofn (A : Nat → Nat) (P : List (Nat × Nat)) (X : Nat → Nat) (q : Nat) : Nat → Nat := it (fun i v => v + (if q = 0 then tn A P (rt A i X) 0 (wfn A X i) (A 2) else rr A P (rt A i X) (wfn A X i) (A 2))) 0
theorem ofn_S (A : Nat → Nat) (P : List (Nat × Nat)) (X : Nat → Nat) (q i : Nat) : ofn A P X q (i + 1) = ofn A P X q i + (if q = 0 then tn A P (rt A i X) 0 (wfn A X i) (A 2) else rr A P (rt A i X) (wfn A X i) (A 2)) := rfl
/-- honours in so many nights, all else as it is -/
def py (A : Nat → Nat) (P : List (Nat × Nat)) (X : Nat → Nat) (n : Nat) : Nat → Nat := fun k => if 17 ≤ k ∧ k < 25 then min 99 (hsw A P X (wfn A X) (k - 17) n) else X k
theorem py_h {A X : Nat → Nat} {P : List (Nat × Nat)} {m n : Nat} (h : m < 8) : py A P X n (17 + m) = min 99 (hsw A P X (wfn A X) m n) := by
  unfold py
  rw [if_pos (by omega), show 17 + m - 17 = m by omega]
theorem py_k {A X : Nat → Nat} {P : List (Nat × Nat)} {k n : Nat} (h : k < 17 ∨ 25 ≤ k) : py A P X n k = X k := by
  unfold py
  rw [if_neg (by omega)]
theorem py_q (A : Nat → Nat) (P : List (Nat × Nat)) (X : Nat → Nat) (n : Nat) : hq (py A P X n) X := fun k _ h => py_k h
theorem py_W {A X : Nat → Nat} {P : List (Nat × Nat)} {n : Nat} (wx : WX A X) : WX A (py A P X n) := by
  obtain ⟨h0, h1, h2, h3⟩ := wx
  refine ⟨by rw [py_k (by omega)]; exact h0, ?_, ?_, fun r h4 h5 => by rw [py_k (by omega)]; exact h3 r h4 h5⟩
  · intro i hi
    obtain ⟨a, b, c, d, e⟩ := h1 i hi
    rw [py_k (by omega), py_k (by omega), py_h hi, py_k (by omega)]
    exact ⟨a, b, Nat.min_le_left _ _, d, e⟩
  · intro r q i hr hq
    rw [py_k (by omega), py_k (by omega)]
    exact h2 r q i hr hq
theorem py_0 {A X : Nat → Nat} {P : List (Nat × Nat)} (wx : WX A X) (k : Nat) : py A P X 0 k = X k := by
  unfold py
  split
  · next h =>
    have h5 := (wx.2.1 (k - 17) (by omega)).2.2.1
    rw [show 17 + (k - 17) = k by omega] at h5
    show min 99 (X (17 + (k - 17))) = X k
    rw [show 17 + (k - 17) = k by omega]
    omega
  · rfl
theorem mh_c {X Y : Nat → Nat} {n : Nat} (h : ∀ i, i < n → X (17 + i) = Y (17 + i)) : mh X n = mh Y n := by
  induction n with
  | zero => rfl
  | succ n ih => rw [mh_S, mh_S, ih (fun i hi => h i (by omega)), h n (by omega)]
theorem mh_2 (X : Nat → Nat) : ∀ n, ((mh X n).1 = 0 ∧ (mh X n).2 = 0) ∨ (∃ c, c < n ∧ (mh X n).1 = c + 1 ∧ (mh X n).2 = X (17 + c) + 1) := by
  intro n
  induction n with
  | zero => exact Or.inl ⟨rfl, rfl⟩
  | succ n ih =>
    rw [mh_S]
    split
    · rcases ih with h | ⟨c, h1, h2⟩
      · exact Or.inl h
      · exact Or.inr ⟨c, by omega, h2⟩
    · exact Or.inr ⟨n, by omega, rfl, rfl⟩
section OC
variable {σ : Nat → Nat → Int32} {w u : Int64} {A X Z : Nat → Nat} {P : List (Nat × Nat)} {b om : Nat}
theorem cl_mistaken (cv : CV σ 34 A P X) (hx : X 0 ≤ 999) {n : Nat} (hn1 : 1 ≤ n) (hn : n ≤ 40) : RQ (Fr Ws σ) w u (nI (mbt A P (rt A (n - 1) X) (wfn A X (n - 1)) (A 2))) (f_X10_mistaken 0 (nI n) (mk σ w u)) := by
  have hR8 := cv.2.2.2.1.2.2.2.1
  have hmu := mq_lt cv.2.2.2.1 (X 0 + (n - 1))
  have e1 : nI n - 1 = nI (n - 1) := pk_sub (b := 1) hn1
  unfold f_X10_mistaken
  rw [zg0]
  rw [show f_X10_needWithin (nI n) 1 40 (mk σ w u) = some (mk σ w u) from needWithin_f (a := 1) (b := 40) (by omega) (by omega) (by decide), Option.bind_some]
  rw [zr0_8, Option.bind_some, e1, mudIn_f cv (by omega), Option.bind_some]
  dsimp only
  unfold l_X10_mistaken_23
  refine lp_S (RQ (Fr Ws σ) w u (nI (mbt A P (rt A (n - 1) X) (wfn A X (n - 1)) (A 2)))) (fun i τ => (0, nI n, nI (wfn A X (n - 1)), nI (mbt A P (rt A (n - 1) X) (wfn A X (n - 1)) i), nI i, mk τ w u)) (fun i τ => Fr Ws σ τ ∧ CV τ 34 A P X) (A 2) ?_ ?_ (A 2) 0 _ σ (by omega) (by omega) ⟨Fr_r _ _, cv⟩
  · intro i hi k τ ⟨fr, cv1⟩ hk
    have cv := cv1
    obtain ⟨τ2, g1, g2⟩ := namedAt_f (w := w) (u := u) cv (p := i) (n := n - 1) (mud := wfn A X (n - 1)) (by omega) (by omega) (by show mq A (X 0 + (n - 1)) < 1000; omega)
    have cv3 := CV_fr cv g1
    have hM := CV_M cv; have hT := CV_b cv; have cv2 := cv; obtain ⟨hm, ⟨⟨hA0, hA1, hA2, hA3, hA4⟩, hA7, hrl, hrn, hrc⟩, ⟨hN, hX⟩, ⟨hB1, hB2, hM8, hR8, hS12, hnm, hmd⟩, ⟨hN2, hW, hD⟩, hP⟩ := cv2
    have h8 := rw1_lt cv.2.2.2.1 (rt_W (n := n - 1) cv.2.2.2.1 cv.2.2.2.2.1 (by omega)) (i + 1)
    rw [rw1_i (by omega)] at h8
    have h9 := na_le A P (rt A (n - 1) X) i (wfn A X (n - 1)) hS12
    have h := hk τ2 ⟨Fr_t fr (Wc_s g1), cv3⟩
    have e8 := menAt_I (w := w) (u := u) cv3 (p := i) (n := n - 1) (by omega) (by omega)
    rw [rw1_i (by omega)] at e8
    dsimp only at h ⊢
    by_cases h1 : na A P (rt A (n - 1) X) i (wfn A X (n - 1)) = 0
    · rw [mbt_S, if_pos h1] at h
      simp (disch := omega) only [f_X10_mistaken_23, f_X10_mistaken_83, l0, l1, l2, l3, l4, l5, l6, l7, l8, l9, l10, l11, l12, l13, l14, l15, l16, l17, l18, l19, l20, l21, l22, l23, l24, l25, l33, l34, l40, l42, l50, l58, l99, l100, l700, l999, l4095, l9999, l10000, x_neg1, nI_add, x_pred, x_m1, x_J1, pk_sub, nJ_pos, Nat.add_sub_cancel, nI_leI, nI_ltI, nI_eq, q_leJ, q_Jle, q_ltJ, q_Jlt, q_eqJ, q_Jeq, q_JJ, q_JJle, q_JJlt, Option.bind_some, if_pos, if_neg, ↓reduceIte, zr0_4, zr0_8, zi5_2, hA2, e1, g2]
      exact h
    · have h7 := bt_lt (rt A (n - 1) X (25 + i)) (na A P (rt A (n - 1) X) i (wfn A X (n - 1)) - 1)
      by_cases h2 : bt (rt A (n - 1) X (25 + i)) (na A P (rt A (n - 1) X) i (wfn A X (n - 1)) - 1) = 0
      · rw [mbt_S, if_neg h1, if_pos h2] at h
        simp (disch := omega) only [f_X10_mistaken_23, f_X10_mistaken_83, l0, l1, l2, l3, l4, l5, l6, l7, l8, l9, l10, l11, l12, l13, l14, l15, l16, l17, l18, l19, l20, l21, l22, l23, l24, l25, l33, l34, l40, l42, l50, l58, l99, l100, l700, l999, l4095, l9999, l10000, x_neg1, nI_add, x_pred, x_m1, x_J1, pk_sub, nJ_pos, Nat.add_sub_cancel, nI_leI, nI_ltI, nI_eq, q_leJ, q_Jle, q_ltJ, q_Jlt, q_eqJ, q_Jeq, q_JJ, q_JJle, q_JJlt, Option.bind_some, if_pos, if_neg, ↓reduceIte, zr0_4, zr0_8, zi5_2, hA2, g2, e8, holds_f, x_one, x_or]
        exact h
      · rw [mbt_S, if_neg h1, if_neg h2] at h
        simp (disch := omega) only [f_X10_mistaken_23, f_X10_mistaken_83, l0, l1, l2, l3, l4, l5, l6, l7, l8, l9, l10, l11, l12, l13, l14, l15, l16, l17, l18, l19, l20, l21, l22, l23, l24, l25, l33, l34, l40, l42, l50, l58, l99, l100, l700, l999, l4095, l9999, l10000, x_neg1, nI_add, x_pred, x_m1, x_J1, pk_sub, nJ_pos, Nat.add_sub_cancel, nI_leI, nI_ltI, nI_eq, q_leJ, q_Jle, q_ltJ, q_Jlt, q_eqJ, q_Jeq, q_JJ, q_JJle, q_JJlt, Option.bind_some, if_pos, if_neg, ↓reduceIte, zr0_4, zr0_8, zi5_2, hA2, g2, e8, holds_f]
        exact h
  · intro k τ ⟨fr, cv1⟩
    have cv := cv1
    have hM := CV_M cv; have hT := CV_b cv; have cv2 := cv; obtain ⟨hm, ⟨⟨hA0, hA1, hA2, hA3, hA4⟩, hA7, hrl, hrn, hrc⟩, ⟨hN, hX⟩, ⟨hB1, hB2, hM8, hR8, hS12, hnm, hmd⟩, ⟨hN2, hW, hD⟩, hP⟩ := cv2
    dsimp only
    simp (disch := omega) only [f_X10_mistaken_23, f_X10_mistaken_89, l0, l1, l2, l3, l4, l5, l6, l7, l8, l9, l10, l11, l12, l13, l14, l15, l16, l17, l18, l19, l20, l21, l22, l23, l24, l25, l33, l34, l40, l42, l50, l58, l99, l100, l700, l999, l4095, l9999, l10000, x_neg1, nI_add, x_pred, x_m1, x_J1, pk_sub, nJ_pos, Nat.add_sub_cancel, nI_leI, nI_ltI, nI_eq, q_leJ, q_Jle, q_ltJ, q_Jlt, q_eqJ, q_Jeq, q_JJ, q_JJle, q_JJlt, Option.bind_some, if_pos, if_neg, ↓reduceIte, zr0_4, zi5_2, hA2]
    exact RQ_i fr
theorem re_mistaken (rv : RV σ 0 A P X 0) (hx : X 0 ≤ 999) {n : Nat} (hn1 : 1 ≤ n) (hn : n ≤ 40) : RQ (fun τ => Fr Wq (s2 σ 118 0 0) τ) w u (nI (mbt A P (rt A (n - 1) X) (wfn A X (n - 1)) (A 2))) (f_X11_mistaken 118 (nI n) (mk σ w u)) := by
  have t0 : (s2 σ 118 0 0) 118 0 = nI 0 := by rw [s2_at rfl rfl]; rfl
  have rv0 : RV (s2 σ 118 0 0) 0 A P X 0 := RV_F rv (Fr_s (W := fun q k => q = 118 ∧ k = 0) ⟨rfl, rfl⟩) (fun q k e => by omega)
  have tm := rv0.2.1.1.2.1; have tr := rv0.2.1.1.2.2.1; have tb := rv0.2.1.1.1; have hB1 := rv.2.2.2.2.1.1; have hB2 := rv.2.2.2.2.1.2.1; have hM8 := rv.2.2.2.2.1.2.2.1; have hR8 := rv.2.2.2.2.1.2.2.2.1; have hS12 := rv.2.2.2.2.1.2.2.2.2.1; have hT := RV_b rv
  unfold f_X11_mistaken
  rw [zg118, zw118_0, Option.bind_some]
  rw [show f_X11_isNights 118 (nI n) 1 1 (mk (s2 σ 118 0 0) w u) = some (nI 1, mk (s2 σ 118 0 0) w u) from isNights_1 (a := 1) (by omega) (by omega) t0, Option.bind_some]
  dsimp only
  rw [if_neg (show ¬ nI 1 = 0 by decide)]
  obtain ⟨τ1, f1, r1, m1, e1⟩ := goesTo_R (w := w) (u := u) rv0 hx hn
  have m2 := m1 (n - 1) (by omega)
  rw [mbt_c hM8 (ny_q (n - 1))] at m2
  rw [e1, Option.bind_some, zi118_43, Option.bind_some, m2]
  exact RQ_i (Wn_q f1)
theorem cl_unsung (cv : CV σ 34 A P X) (hx : X 0 ≤ 999) {n : Nat} (hn1 : 1 ≤ n) (hn : n ≤ 40) : RQ (Fr Ws σ) w u (nI (us A P X n)) (f_X10_unsung 0 (nI n) (mk σ w u)) := by
  have cv0 := cv
  have hp := Nat.two_pow_pos (A 1)
  have hM := CV_M cv; have hT := CV_b cv; have cv2 := cv; obtain ⟨hm, ⟨⟨hA0, hA1, hA2, hA3, hA4⟩, hA7, hrl, hrn, hrc⟩, ⟨hN, hX⟩, ⟨hB1, hB2, hM8, hR8, hS12, hnm, hmd⟩, ⟨hN2, hW, hD⟩, hP⟩ := cv2
  unfold f_X10_unsung
  rw [zg0]
  rw [show f_X10_needWithin (nI n) 1 40 (mk σ w u) = some (mk σ w u) from needWithin_f (a := 1) (b := 40) (by omega) (by omega) (by decide), Option.bind_some]
  simp (disch := omega) only [f_X1_allMen, l0, l1, l2, l3, l4, l5, l6, l7, l8, l9, l10, l11, l12, l13, l14, l15, l16, l17, l18, l19, l20, l21, l22, l23, l24, l25, l33, l34, l40, l42, l50, l58, l99, l100, l700, l999, l4095, l9999, l10000, x_neg1, nI_add, x_pred, x_m1, x_J1, pk_sub, nJ_pos, Nat.add_sub_cancel, nI_leI, nI_ltI, nI_eq, q_leJ, q_Jle, q_ltJ, q_Jlt, q_eqJ, q_Jeq, q_JJ, q_JJle, q_JJlt, Option.bind_some, if_pos, if_neg, ↓reduceIte, zg5, zr0_4, zi5_1, hA1, x_one]
  unfold l_X10_unsung_17
  refine lp_S (RQ (Fr Ws σ) w u (nI (us A P X n))) (fun i τ => (0, nI n, nI (us A P X i), nI i, mk τ w u)) (fun i τ => Fr Ws σ τ ∧ CV τ 34 A P X) n ?_ ?_ n 0 _ σ (by omega) (by omega) ⟨Fr_r _ _, cv⟩
  · intro i hi k τ ⟨fr, cv1⟩ hk
    obtain ⟨τ2, g1, g2⟩ := namedBits_f (w := w) (u := u) cv1 (n := i) (by omega)
    have h := hk τ2 ⟨Fr_t fr (Wc_s g1), CV_fr cv1 g1⟩
    dsimp only at h ⊢
    rw [us_S] at h
    simp (disch := omega) only [f_X10_unsung_17, l0, l1, l2, l3, l4, l5, l6, l7, l8, l9, l10, l11, l12, l13, l14, l15, l16, l17, l18, l19, l20, l21, l22, l23, l24, l25, l33, l34, l40, l42, l50, l58, l99, l100, l700, l999, l4095, l9999, l10000, x_neg1, nI_add, x_pred, x_m1, x_J1, pk_sub, nJ_pos, Nat.add_sub_cancel, nI_leI, nI_ltI, nI_eq, q_leJ, q_Jle, q_ltJ, q_Jlt, q_eqJ, q_Jeq, q_JJ, q_JJle, q_JJlt, Option.bind_some, if_pos, if_neg, ↓reduceIte, zr0_8, g2, x_andn]
    exact h
  · intro k τ ⟨fr, cv1⟩
    dsimp only
    simp (disch := omega) only [f_X10_unsung_17, f_X10_unsung_41, l0, l1, l2, l3, l4, l5, l6, l7, l8, l9, l10, l11, l12, l13, l14, l15, l16, l17, l18, l19, l20, l21, l22, l23, l24, l25, l33, l34, l40, l42, l50, l58, l99, l100, l700, l999, l4095, l9999, l10000, x_neg1, nI_add, x_pred, x_m1, x_J1, pk_sub, nJ_pos, Nat.add_sub_cancel, nI_leI, nI_ltI, nI_eq, q_leJ, q_Jle, q_ltJ, q_Jlt, q_eqJ, q_Jeq, q_JJ, q_JJle, q_JJlt, Option.bind_some, if_pos, if_neg, ↓reduceIte]
    exact RQ_i fr
theorem re_unsung (rv : RV σ 0 A P X 0) (hx : X 0 ≤ 999) {n : Nat} (hn1 : 1 ≤ n) (hn : n ≤ 40) : RQ (fun τ => Fr Wq (s2 σ 118 0 0) τ) w u (nI (us A P X n)) (f_X11_unsung 118 (nI n) (mk σ w u)) := by
  have t0 : (s2 σ 118 0 0) 118 0 = nI 0 := by rw [s2_at rfl rfl]; rfl
  have rv0 : RV (s2 σ 118 0 0) 0 A P X 0 := RV_F rv (Fr_s (W := fun q k => q = 118 ∧ k = 0) ⟨rfl, rfl⟩) (fun q k e => by omega)
  have tm := rv0.2.1.1.2.1; have tr := rv0.2.1.1.2.2.1; have tb := rv0.2.1.1.1; have hB1 := rv.2.2.2.2.1.1; have hB2 := rv.2.2.2.2.1.2.1; have hM8 := rv.2.2.2.2.1.2.2.1; have hR8 := rv.2.2.2.2.1.2.2.2.1; have hS12 := rv.2.2.2.2.1.2.2.2.2.1; have hT := RV_b rv
  have hp := Nat.two_pow_pos (A 1)
  unfold f_X11_unsung
  rw [zg118, zw118_0, Option.bind_some]
  rw [show f_X11_isNights 118 (nI n) 1 1 (mk (s2 σ 118 0 0) w u) = some (nI 1, mk (s2 σ 118 0 0) w u) from isNights_1 (a := 1) (by omega) (by omega) t0, Option.bind_some]
  dsimp only
  rw [if_neg (show ¬ nI 1 = 0 by decide)]
  obtain ⟨τ1, f1, r1, -, e1⟩ := tries_V (w := w) (u := u) rv0
  have e5 : ((1 : Int32) <<< (nI (A 1) &&& 31)) - 1 = nI (2 ^ A 1 - 1) := by
    rw [show (1 : Int32) = nI 1 from rfl, x_one (by omega), pk_sub (by omega)]
  rw [zi118_2, Option.bind_some, tm, e1, Option.bind_some, e5]
  unfold l_X11_unsung_32
  refine lp_S (RQ (fun τ => Fr Wq (s2 σ 118 0 0) τ) w u (nI (us A P X n))) (fun i τ => (118, nI n, nI (us A P X i), nI i, mk τ w u)) (fun i τ => Fr Wq (s2 σ 118 0 0) τ ∧ RV τ 33 A P (ny A P (wfn A X) X i) 0) n ?_ ?_ n 0 _ τ1 (by omega) (by omega) ⟨Wb_q f1, r1⟩
  · intro i hi k τ ⟨fr, rv1⟩ hk
    obtain ⟨τ2, f2, r2, m2, -, -, e2⟩ := nightI (w := w) (u := u) i rv1 hx (by omega)
    have h := hk τ2 ⟨Fr_t fr (Wn_q f2), r2⟩
    rw [nbt_c hM8 (ny_q i)] at m2
    dsimp only at h ⊢
    rw [us_S] at h
    unfold f_X11_unsung_32
    rw [if_neg (nI_ge hi (by omega)), e2, Option.bind_some, zi118_42, Option.bind_some, m2, show ((-1) : Int32) = nJ 0 from rfl, x_andn, nI_1]
    exact h
  · intro k τ ⟨fr, rv1⟩
    dsimp only
    unfold f_X11_unsung_32
    rw [if_pos (nI_le (Nat.le_refl _) (by omega))]
    exact RQ_i fr
theorem cl_often (cv : CV σ 34 A P X) (hx : X 0 ≤ 999) {n q : Nat} (hn1 : 1 ≤ n) (hn : n ≤ 40) (hq : q ≤ 1) : RQ (Fr Ws σ) w u (nI (ofn A P X q n)) (f_X10_often 0 (nI n) (nI q) (mk σ w u)) := by
  have cv0 := cv
  have hmu : ∀ k, mq A k < 1000 := fun k => by have := mq_lt cv.2.2.2.1 k; omega
  unfold f_X10_often
  rw [zg0]
  rw [show f_X10_needWhat (nI q) 1 (mk σ w u) = some (mk σ w u) from needWhat_f (b := 1) hq (by decide), Option.bind_some]
  rw [show f_X10_needWithin (nI n) 1 40 (mk σ w u) = some (mk σ w u) from needWithin_f (a := 1) (b := 40) (by omega) (by omega) (by decide), Option.bind_some]
  unfold l_X10_often_17
  refine lp_S (RQ (Fr Ws σ) w u (nI (ofn A P X q n))) (fun i τ => (0, nI n, nI q, nI (ofn A P X q i), nI i, mk τ w u)) (fun i τ => Fr Ws σ τ ∧ CV τ 34 A P X) n ?_ ?_ n 0 _ σ (by omega) (by omega) ⟨Fr_r _ _, cv⟩
  · intro i hi k τ ⟨fr, cv1⟩ hk
    by_cases h0 : q = 0
    · obtain ⟨τ2, g1, g2⟩ := timesNamed_f (w := w) (u := u) cv1 (c := 0) (n := i) (mud := mq A (X 0 + i)) (by omega) (by omega) (hmu _)
      have h := hk τ2 ⟨Fr_t fr (Wc_s g1), CV_fr cv1 g1⟩
      dsimp only at h ⊢
      rw [ofn_S, if_pos h0] at h
      simp (disch := omega) only [f_X10_often_17, f_X10_often_59, l0, l1, l2, l3, l4, l5, l6, l7, l8, l9, l10, l11, l12, l13, l14, l15, l16, l17, l18, l19, l20, l21, l22, l23, l24, l25, l33, l34, l40, l42, l50, l58, l99, l100, l700, l999, l4095, l9999, l10000, x_neg1, nI_add, x_pred, x_m1, x_J1, pk_sub, nJ_pos, Nat.add_sub_cancel, nI_leI, nI_ltI, nI_eq, q_leJ, q_Jle, q_ltJ, q_Jlt, q_eqJ, q_Jeq, q_JJ, q_JJle, q_JJlt, Option.bind_some, if_pos, if_neg, ↓reduceIte, zr0_8, mudIn_f cv1, g2]
      exact h
    · obtain ⟨τ2, g1, g2⟩ := rightRows_f (w := w) (u := u) cv1 (n := i) (by omega)
      have h := hk τ2 ⟨Fr_t fr (Wc_s g1), CV_fr cv1 g1⟩
      dsimp only at h ⊢
      rw [ofn_S, if_neg h0] at h
      simp (disch := omega) only [f_X10_often_17, f_X10_often_59, l0, l1, l2, l3, l4, l5, l6, l7, l8, l9, l10, l11, l12, l13, l14, l15, l16, l17, l18, l19, l20, l21, l22, l23, l24, l25, l33, l34, l40, l42, l50, l58, l99, l100, l700, l999, l4095, l9999, l10000, x_neg1, nI_add, x_pred, x_m1, x_J1, pk_sub, nJ_pos, Nat.add_sub_cancel, nI_leI, nI_ltI, nI_eq, q_leJ, q_Jle, q_ltJ, q_Jlt, q_eqJ, q_Jeq, q_JJ, q_JJle, q_JJlt, Option.bind_some, if_pos, if_neg, ↓reduceIte, zr0_8, g2]
      exact h
  · intro k τ ⟨fr, cv1⟩
    dsimp only
    simp (disch := omega) only [f_X10_often_17, f_X10_often_67, l0, l1, l2, l3, l4, l5, l6, l7, l8, l9, l10, l11, l12, l13, l14, l15, l16, l17, l18, l19, l20, l21, l22, l23, l24, l25, l33, l34, l40, l42, l50, l58, l99, l100, l700, l999, l4095, l9999, l10000, x_neg1, nI_add, x_pred, x_m1, x_J1, pk_sub, nJ_pos, Nat.add_sub_cancel, nI_leI, nI_ltI, nI_eq, q_leJ, q_Jle, q_ltJ, q_Jlt, q_eqJ, q_Jeq, q_JJ, q_JJle, q_JJlt, Option.bind_some, if_pos, if_neg, ↓reduceIte]
    exact RQ_i fr
theorem re_often (rv : RV σ 0 A P X 0) (hx : X 0 ≤ 999) {n q : Nat} (hn1 : 1 ≤ n) (hn : n ≤ 40) (hq : q ≤ 1) : RQ (fun τ => Fr Wq (s2 σ 118 0 0) τ) w u (nI (ofn A P X q n)) (f_X11_often 118 (nI n) (nI q) (mk σ w u)) := by
  have t0 : (s2 σ 118 0 0) 118 0 = nI 0 := by rw [s2_at rfl rfl]; rfl
  have rv0 : RV (s2 σ 118 0 0) 0 A P X 0 := RV_F rv (Fr_s (W := fun q k => q = 118 ∧ k = 0) ⟨rfl, rfl⟩) (fun q k e => by omega)
  have tm := rv0.2.1.1.2.1; have tr := rv0.2.1.1.2.2.1; have tb := rv0.2.1.1.1; have hB1 := rv.2.2.2.2.1.1; have hB2 := rv.2.2.2.2.1.2.1; have hM8 := rv.2.2.2.2.1.2.2.1; have hR8 := rv.2.2.2.2.1.2.2.2.1; have hS12 := rv.2.2.2.2.1.2.2.2.2.1; have hT := RV_b rv
  unfold f_X11_often
  rw [zg118, zw118_0, Option.bind_some]
  rw [show f_X11_isWhat 118 (nI q) 1 (mk (s2 σ 118 0 0) w u) = some (nI 1, mk (s2 σ 118 0 0) w u) from isWhat_1 (b := 1) hq (by decide) t0, Option.bind_some]
  dsimp only
  rw [if_neg (show ¬ nI 1 = 0 by decide)]
  rw [show f_X11_isNights 118 (nI n) 1 2 (mk (s2 σ 118 0 0) w u) = some (nI 1, mk (s2 σ 118 0 0) w u) from isNights_1 (a := 1) (by omega) (by omega) t0, Option.bind_some]
  dsimp only
  rw [if_neg (show ¬ nI 1 = 0 by decide)]
  obtain ⟨τ1, f1, r1, -, e1⟩ := tries_V (w := w) (u := u) rv0
  rw [e1, Option.bind_some]
  unfold l_X11_often_35
  refine lp_S (RQ (fun τ => Fr Wq (s2 σ 118 0 0) τ) w u (nI (ofn A P X q n))) (fun i τ => (118, nI n, nI q, nI (ofn A P X q i), nI i, mk τ w u)) (fun i τ => Fr Wq (s2 σ 118 0 0) τ ∧ RV τ 33 A P (ny A P (wfn A X) X i) 0) n ?_ ?_ n 0 _ τ1 (by omega) (by omega) ⟨Wb_q f1, r1⟩
  · intro i hi k τ ⟨fr, rv1⟩ hk
    dsimp only at hk ⊢
    unfold f_X11_often_35
    have e7 : ofn A P X q i = ofn A P X q i + (if q = 0 then tn A P (rt A i X) 0 (wfn A X i) 0 else rr A P (rt A i X) (wfn A X i) 0) := by split <;> rfl
    rw [if_neg (nI_ge hi (by omega)), e7]
    unfold l_X11_often_44
    have e0 := ny_0 (A := A) (P := P) (wf := wfn A X) (X := X) i
    refine lp_S (RQ (fun τ => Fr Wq (s2 σ 118 0 0) τ) w u (nI (ofn A P X q n))) (fun j τ => (118, nI n, nI q, nI (ofn A P X q i + (if q = 0 then tn A P (rt A i X) 0 (wfn A X i) j else rr A P (rt A i X) (wfn A X i) j)), nI i, nI j, mk τ w u)) (fun j τ => Fr Wq (s2 σ 118 0 0) τ ∧ RV τ 33 A P (ny A P (wfn A X) X i) 0) (A 2) ?_ ?_ (A 2) 0 _ τ (by omega) (by omega) ⟨fr, rv1⟩
    · intro j hj k2 τ2 ⟨fr2, rv2⟩ hk2
      obtain ⟨τ3, g1, g2⟩ := namedOf_f (w := w) (u := u) rv2 (r := j) hj
      rw [mo_0, e0, na_c hM8 (ny_q i)] at g2
      have rv3 := RV_fr rv2 g1
      have a2 : τ2 118 3 = nI (A 2) := rv2.2.1.1.2.2.1
      have e3 := RV_3s rv3 j (by omega)
      rw [ny_q i (25 + j) (by omega) (by omega)] at e3
      have hn9 := na_le A P (rt A i X) j (mq A (X 0 + i)) hS12
      have hb7 := (rt_W (n := i) rv.2.2.2.2.1 rv.2.2.2.2.2.1 (by omega)).2.1 j (by omega)
      have hb8 := tw8 hb7.2.2.2.1 hM8
      have h := hk2 τ3 ⟨Fr_t fr2 (Wr_q g1), rv3⟩
      dsimp only at h ⊢
      by_cases h0 : q = 0
      · rw [if_pos h0] at h ⊢
        by_cases h1 : na A P (rt A i X) j (mq A (X 0 + i)) = 0
        · rw [tn_S, if_pos (show na A P (rt A i X) j (wfn A X i) = 0 from h1), ← Nat.add_assoc] at h
          simp (disch := omega) only [f_X11_often_44, f_X11_often_112, l0, l1, l2, l3, l4, l5, l6, l7, l8, l9, l10, l11, l12, l13, l14, l15, l16, l17, l18, l19, l20, l21, l22, l23, l24, l25, l33, l34, l40, l42, l50, l58, l99, l100, l700, l999, l4095, l9999, l10000, x_neg1, nI_add, x_pred, x_m1, x_J1, pk_sub, nJ_pos, Nat.add_sub_cancel, nI_leI, nI_ltI, nI_eq, q_leJ, q_Jle, q_ltJ, q_Jlt, q_eqJ, q_Jeq, q_JJ, q_JJle, q_JJlt, Option.bind_some, if_pos, if_neg, ↓reduceIte, zi118_3, a2, g2]
          exact h
        · rw [tn_S, if_neg (show ¬ na A P (rt A i X) j (wfn A X i) = 0 from h1), Nat.add_zero] at h
          simp (disch := omega) only [f_X11_often_44, f_X11_often_112, l0, l1, l2, l3, l4, l5, l6, l7, l8, l9, l10, l11, l12, l13, l14, l15, l16, l17, l18, l19, l20, l21, l22, l23, l24, l25, l33, l34, l40, l42, l50, l58, l99, l100, l700, l999, l4095, l9999, l10000, x_neg1, nI_add, x_pred, x_m1, x_J1, pk_sub, nJ_pos, Nat.add_sub_cancel, nI_leI, nI_ltI, nI_eq, q_leJ, q_Jle, q_ltJ, q_Jlt, q_eqJ, q_Jeq, q_JJ, q_JJle, q_JJlt, Option.bind_some, if_pos, if_neg, ↓reduceIte, zi118_3, a2, g2, Nat.add_zero]
          exact h
      · rw [if_neg h0] at h ⊢
        by_cases h1 : na A P (rt A i X) j (mq A (X 0 + i)) = 0
        · rw [rr_S, if_pos (show na A P (rt A i X) j (wfn A X i) = 0 from h1)] at h
          simp (disch := omega) only [f_X11_often_44, f_X11_often_111, f_X11_often_112, l0, l1, l2, l3, l4, l5, l6, l7, l8, l9, l10, l11, l12, l13, l14, l15, l16, l17, l18, l19, l20, l21, l22, l23, l24, l25, l33, l34, l40, l42, l50, l58, l99, l100, l700, l999, l4095, l9999, l10000, x_neg1, nI_add, x_pred, x_m1, x_J1, pk_sub, nJ_pos, Nat.add_sub_cancel, nI_leI, nI_ltI, nI_eq, q_leJ, q_Jle, q_ltJ, q_Jlt, q_eqJ, q_Jeq, q_JJ, q_JJle, q_JJlt, Option.bind_some, if_pos, if_neg, ↓reduceIte, zi118_3, a2, g2, Nat.add_zero]
          exact h
        · have h7 := bt_lt (rt A i X (25 + j)) (na A P (rt A i X) j (mq A (X 0 + i)) - 1)
          by_cases h2 : bt (rt A i X (25 + j)) (na A P (rt A i X) j (mq A (X 0 + i)) - 1) = 0
          · rw [rr_S, if_neg (show ¬ na A P (rt A i X) j (wfn A X i) = 0 from h1), if_pos (show bt (rt A i X (25 + j)) (na A P (rt A i X) j (wfn A X i) - 1) = 0 from h2)] at h
            simp (disch := omega) only [f_X11_often_44, f_X11_often_111, f_X11_often_112, l0, l1, l2, l3, l4, l5, l6, l7, l8, l9, l10, l11, l12, l13, l14, l15, l16, l17, l18, l19, l20, l21, l22, l23, l24, l25, l33, l34, l40, l42, l50, l58, l99, l100, l700, l999, l4095, l9999, l10000, x_neg1, nI_add, x_pred, x_m1, x_J1, pk_sub, nJ_pos, Nat.add_sub_cancel, nI_leI, nI_ltI, nI_eq, q_leJ, q_Jle, q_ltJ, q_Jlt, q_eqJ, q_Jeq, q_JJ, q_JJle, q_JJlt, Option.bind_some, if_pos, if_neg, ↓reduceIte, zi118_3, a2, g2, zr118_36, za128, e3, x_bit, Nat.add_zero]
            exact h
          · rw [rr_S, if_neg (show ¬ na A P (rt A i X) j (wfn A X i) = 0 from h1), if_neg (show ¬ bt (rt A i X (25 + j)) (na A P (rt A i X) j (wfn A X i) - 1) = 0 from h2), ← Nat.add_assoc] at h
            simp (disch := omega) only [f_X11_often_44, f_X11_often_111, f_X11_often_112, l0, l1, l2, l3, l4, l5, l6, l7, l8, l9, l10, l11, l12, l13, l14, l15, l16, l17, l18, l19, l20, l21, l22, l23, l24, l25, l33, l34, l40, l42, l50, l58, l99, l100, l700, l999, l4095, l9999, l10000, x_neg1, nI_add, x_pred, x_m1, x_J1, pk_sub, nJ_pos, Nat.add_sub_cancel, nI_leI, nI_ltI, nI_eq, q_leJ, q_Jle, q_ltJ, q_Jlt, q_eqJ, q_Jeq, q_JJ, q_JJle, q_JJlt, Option.bind_some, if_pos, if_neg, ↓reduceIte, zi118_3, a2, g2, zr118_36, za128, e3, x_bit]
            exact h
    · intro k2 τ2 ⟨fr2, rv2⟩
      have a2 : τ2 118 3 = nI (A 2) := rv2.2.1.1.2.2.1
      obtain ⟨τ3, f3, r3, -, -, -, e2⟩ := nightI (w := w) (u := u) i rv2 hx (by omega)
      have h := hk τ3 ⟨Fr_t fr2 (Wn_q f3), r3⟩
      rw [ofn_S] at h
      dsimp only
      unfold f_X11_often_44
      rw [zi118_3, Option.bind_some, a2, if_pos (nI_le (Nat.le_refl _) (by omega))]
      unfold f_X11_often_120
      rw [e2, Option.bind_some, nI_1]
      exact h
  · intro k τ ⟨fr, rv1⟩
    dsimp only
    unfold f_X11_often_35
    rw [if_pos (nI_le (Nat.le_refl _) (by omega))]
    exact RQ_i fr
theorem cl_most (cv : CV σ 34 A P X) (hx : X 0 ≤ 999) {n : Nat} (hn1 : 1 ≤ n) (hn : n ≤ 40) : RQ (Fr Ws σ) w u (nJ (mh (py A P X n) (A 1)).1) (f_X10_most 0 (nI n) (mk σ w u)) := by
  obtain ⟨τ1, f1, c71, c34, e1⟩ := trial_f (w := w) (u := u) cv
  have hM8 := cv.2.2.2.1.2.2.1
  have wx := cv.2.2.2.2.1
  unfold f_X10_most
  rw [zg0]
  rw [show f_X10_needWithin (nI n) 1 40 (mk σ w u) = some (mk σ w u) from needWithin_f (a := 1) (b := 40) (by omega) (by omega) (by decide), Option.bind_some]
  rw [zr0_9, Option.bind_some, zr0_8, Option.bind_some, e1, Option.bind_some]
  unfold l_X10_most_20
  refine lp_S (RQ (Fr Ws σ) w u (nJ (mh (py A P X n) (A 1)).1)) (fun i τ => (0, nI n, nI i, mk τ w u)) (fun i τ => Fr Ws σ τ ∧ CV τ 71 A P (py A P X i)) n ?_ ?_ n 0 _ τ1 (by omega) (by omega) ⟨Wm_s f1, CV_mk c71 (Fr_r _ _) (Mv_c c71.2.2.1 (fun k _ => (py_0 wx k).symm)) (py_W wx)⟩
  · intro i hi k τ ⟨fr, cv1⟩ hk
    have e0 : py A P X i 0 = X 0 := py_k (by omega)
    have em := mudIn_f (w := w) (u := u) cv1 (n := i) (by omega)
    rw [e0] at em
    obtain ⟨τ2, ⟨g1, m1⟩, g2⟩ := parade_f (w := w) (u := u) cv1 (n := i) (mud := mq A (X 0 + i)) (by omega) (by have := mq_lt cv.2.2.2.1 (X 0 + i); omega)
    have h := hk τ2 ⟨Fr_t fr (Wm_s g1), CV_mk cv1 g1 (Mv_c m1 (fun k _ => by
      unfold hu
      split
      · next h =>
        rw [tn_c hM8 (rt_h i (py_q A P X i))]
        obtain ⟨m, rfl⟩ : ∃ m, k = 17 + m := ⟨k - 17, by omega⟩
        rw [py_h (by omega), py_h (by omega), hsw_S, show 17 + m - 16 = m + 1 by omega]
        show min 99 (min 99 (hsw A P X (wfn A X) m i) + tn A P (rt A i X) (m + 1) (wfn A X i) (A 2)) = _
        omega
      · next h => rw [py_k (by omega), py_k (by omega)])) (py_W wx)⟩
    dsimp only at h ⊢
    unfold f_X10_most_20
    rw [if_neg (nI_ge hi (by omega)), zr0_9, Option.bind_some, Option.bind_some, em, Option.bind_some]
    dsimp only
    rw [g2, Option.bind_some]
    dsimp only
    rw [nI_1]
    exact h
  · intro k τ ⟨fr, cv1⟩
    dsimp only
    unfold f_X10_most_20
    rw [if_pos (nI_le (Nat.le_refl _) (by omega))]
    unfold f_X10_most_48
    rw [zr0_9, Option.bind_some, mostHonoured_f cv1, Option.bind_some]
    dsimp only
    exact RQ_i fr
/-- the reference's own look for the most honoured on trial -/
theorem most_R {τ : Nat → Nat → Int32} (rv : RV τ 33 A P Z om) : l_X11_most_26 118 (-1) 0 (mk τ w u) = some (nJ (mh Z (A 1)).1, mk τ w u) := by
  have hT := RV_b rv; have rv2 := rv; obtain ⟨hbb, ⟨⟨hR0, hR1, hR2, hR4, hR3⟩, hmu, hcd⟩, hZ, ⟨hom, hom2⟩, ⟨hB1, hB2, hM8, hR8, hS12, hnm, hmd⟩, ⟨hN2, hW, hD⟩, hP⟩ := rv2
  unfold l_X11_most_26
  refine lp_for (fun i => (118, nJ (mh Z i).1, nI i, mk τ w u)) (A 1) _ ?_ ?_ (A 1) 0 _ (by omega) (by omega)
  · intro i hi k0
    have h1 := hT i (by omega)
    have e3 := RV_3o rv i (by omega)
    dsimp only
    rcases mh_2 Z i with ⟨h2, h3⟩ | ⟨c, hc, h2, h3⟩
    · rw [mh_S, if_neg (by omega), h2]
      unfold f_X11_most_26
      rw [zi118_2, Option.bind_some, hR1, if_neg (nI_ge hi (by omega)), if_pos (by decide)]
      unfold f_X11_most_60 f_X11_most_62
      rw [nI_1, nJ_S]
    · have hb := hT c (by omega)
      have e4 := RV_3o rv c (by omega)
      by_cases h5 : Z (17 + i) + 1 ≤ (mh Z i).2
      · rw [mh_S, if_pos h5, h2, nJ_S]
        unfold f_X11_most_26
        rw [zi118_2, Option.bind_some, hR1, if_neg (nI_ge hi (by omega)), if_neg (show ¬ nI c = -1 from fun e => by have e2 : nI c = nJ 0 := e; rw [q_eqJ (by omega) (by omega)] at e2; omega), zr118_36, Option.bind_some, show (50 : Int32) + nI i = nI (50 + i) from nI_add 50 i, za128 (by omega), Option.bind_some, Option.bind_some, show (50 : Int32) + nI c = nI (50 + c) from nI_add 50 c, za128 (by omega), Option.bind_some, e3, e4, if_pos (nI_le (by omega) (by omega))]
        unfold f_X11_most_62
        rw [nI_1]
      · rw [mh_S, if_neg h5, h2, nJ_S]
        unfold f_X11_most_26
        rw [zi118_2, Option.bind_some, hR1, if_neg (nI_ge hi (by omega)), if_neg (show ¬ nI c = -1 from fun e => by have e2 : nI c = nJ 0 := e; rw [q_eqJ (by omega) (by omega)] at e2; omega), zr118_36, Option.bind_some, show (50 : Int32) + nI i = nI (50 + i) from nI_add 50 i, za128 (by omega), Option.bind_some, Option.bind_some, show (50 : Int32) + nI c = nI (50 + c) from nI_add 50 c, za128 (by omega), Option.bind_some, e3, e4, if_neg (nI_ge (by omega) (by omega))]
        unfold f_X11_most_60 f_X11_most_62
        rw [nI_1, nJ_S]
  · intro k0
    dsimp only
    unfold f_X11_most_26
    rw [zi118_2, Option.bind_some, hR1, if_pos (nI_le (Nat.le_refl _) (by omega))]
    rfl
theorem re_most (rv : RV σ 0 A P X 0) (hx : X 0 ≤ 999) {n : Nat} (hn1 : 1 ≤ n) (hn : n ≤ 40) : RQ (fun τ => Fr Wq (s2 σ 118 0 0) τ) w u (nJ (mh (py A P X n) (A 1)).1) (f_X11_most 118 (nI n) (mk σ w u)) := by
  have t0 : (s2 σ 118 0 0) 118 0 = nI 0 := by rw [s2_at rfl rfl]; rfl
  have rv0 : RV (s2 σ 118 0 0) 0 A P X 0 := RV_F rv (Fr_s (W := fun q k => q = 118 ∧ k = 0) ⟨rfl, rfl⟩) (fun q k e => by omega)
  have tm := rv0.2.1.1.2.1; have tr := rv0.2.1.1.2.2.1; have tb := rv0.2.1.1.1; have hB1 := rv.2.2.2.2.1.1; have hB2 := rv.2.2.2.2.1.2.1; have hM8 := rv.2.2.2.2.1.2.2.1; have hR8 := rv.2.2.2.2.1.2.2.2.1; have hS12 := rv.2.2.2.2.1.2.2.2.2.1; have hT := RV_b rv
  unfold f_X11_most
  rw [zg118, zw118_0, Option.bind_some]
  rw [show f_X11_isNights 118 (nI n) 1 1 (mk (s2 σ 118 0 0) w u) = some (nI 1, mk (s2 σ 118 0 0) w u) from isNights_1 (a := 1) (by omega) (by omega) t0, Option.bind_some]
  dsimp only
  rw [if_neg (show ¬ nI 1 = 0 by decide)]
  obtain ⟨τ1, f1, r1, -, e1⟩ := goesTo_R (w := w) (u := u) rv0 hx hn
  rw [e1, Option.bind_some, most_R r1, mh_c (X := ny A P (wfn A X) X n) (Y := py A P X n) (fun i hi => by rw [ny_h hM8 (by omega) (hT i (by omega)).2.2.1, py_h (by omega)])]
  exact RQ_i (Wn_q f1)
end OC
