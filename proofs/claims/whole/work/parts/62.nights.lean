/-! L3: observers that look at nights -/
def Wq (q k : Nat) : Prop := (123 ≤ q ∧ q ≤ 127) ∨ q = 130 ∨ q = 131 ∨ q = 132 ∨ q = 134 ∨ (q = 128 ∧ 33 ≤ k) ∨ (q = 118 ∧ (k = 42 ∨ k = 43 ∨ k = 48))
theorem Wn_q {σ τ : Nat → Nat → Int32} (h : Fr (Wn 33) σ τ) : Fr Wq σ τ := Fr_m h (fun q k e => by unfold Wq; unfold Wn at e; omega)
theorem Wr_q {σ τ : Nat → Nat → Int32} (h : Fr Wr σ τ) : Fr Wq σ τ := Fr_m h (fun q k e => by unfold Wq; unfold Wr at e; omega)
theorem Wb_q {σ τ : Nat → Nat → Int32} (h : Fr (Wb 33) σ τ) : Fr Wq σ τ := Fr_m h (fun q k e => by unfold Wq; unfold Wb at e; omega)
theorem Wc_s {σ τ : Nat → Nat → Int32} (h : Fr Wc σ τ) : Fr Ws σ τ := Fr_m h (fun q k e => by unfold Ws; unfold Wc at e; omega)
theorem Wm_s {σ τ : Nat → Nat → Int32} (h : Fr (Wm 71) σ τ) : Fr Ws σ τ := Fr_m h (fun q k e => by unfold Ws; unfold Wm at e; omega)
theorem RQ_i {Q : (Nat → Nat → Int32) → Prop} {w u : Int64} {v : Int32} {τ : Nat → Nat → Int32} (h : Q τ) : RQ Q w u v (some (v, mk τ w u)) := ⟨τ, h, rfl⟩
theorem fi_1 (p : Nat → Nat) (d i : Nat) : fi p (d + 1) i = if p i = 0 then fi p d (i + 1) else i + 1 := rfl
section OB
variable {σ : Nat → Nat → Int32} {w u : Int64} {A X Z : Nat → Nat} {P : List (Nat × Nat)} {b om : Nat}
/-- the muds of the nights ahead -/
def wfn (A X : Nat → Nat) : Nat → Nat := fun i => mq A (X 0 + i)
theorem mo_0 (A : Nat → Nat) (n : Nat) : mo A 0 n = mq A n := rfl
theorem nightV (rv : RV σ b A P Z om) (hz : Z 0 + 1 < 2000) : ∃ τ, Fr (Wn b) σ τ ∧ RV τ b A P (ng A P (mo A om (Z 0)) Z) om ∧ τ 118 42 = nI (nbt A P Z (mo A om (Z 0)) (A 2)) ∧ τ 118 43 = nI (mbt A P Z (mo A om (Z 0)) (A 2)) ∧ (∀ m, m < 8 → τ 132 m = nI (tn A P Z (m + 1) (mo A om (Z 0)) (A 2))) ∧ f_X11_nightGoes 118 (nI b) (mk σ w u) = some (mk τ w u) := by
  obtain ⟨τ, ⟨h1, h2, h3, h4, h5⟩, e⟩ := nightGoes_f (w := w) (u := u) rv
  exact ⟨τ, h1, RV_mk rv h1 h2 (ng_W rv.2.2.2.2.1 rv.2.2.2.2.2.1 hz), h3, h4, h5, e⟩
/-- .. the i-th of the nights ahead -/
theorem nightI (i : Nat) (rv : RV σ 33 A P (ny A P (wfn A X) X i) 0) (hx : X 0 ≤ 999) (hi : i ≤ 40) : ∃ τ, Fr (Wn 33) σ τ ∧ RV τ 33 A P (ny A P (wfn A X) X (i + 1)) 0 ∧ τ 118 42 = nI (nbt A P (ny A P (wfn A X) X i) (wfn A X i) (A 2)) ∧ τ 118 43 = nI (mbt A P (ny A P (wfn A X) X i) (wfn A X i) (A 2)) ∧ (∀ m, m < 8 → τ 132 m = nI (tn A P (ny A P (wfn A X) X i) (m + 1) (wfn A X i) (A 2))) ∧ f_X11_nightGoes 118 33 (mk σ w u) = some (mk τ w u) := by
  have e0 := ny_0 (A := A) (P := P) (wf := wfn A X) (X := X) i
  obtain ⟨τ, h1, h2, h3, h4, h5, e⟩ := nightV (w := w) (u := u) rv (by omega)
  rw [e0] at h2 h3 h4 h5
  exact ⟨τ, h1, h2, h3, h4, h5, e⟩
theorem goesTo_R (rv : RV σ 0 A P X 0) (hx : X 0 ≤ 999) {n : Nat} (hn : n ≤ 40) : ∃ τ, Fr (Wn 33) σ τ ∧ RV τ 33 A P (ny A P (wfn A X) X n) 0 ∧ (∀ k, n = k + 1 → τ 118 43 = nI (mbt A P (ny A P (wfn A X) X k) (wfn A X k) (A 2))) ∧ f_X11_goesTo 118 (nI n) (mk σ w u) = some (mk τ w u) := by
  obtain ⟨τ1, f1, r1, -, e1⟩ := tries_V (w := w) (u := u) rv
  unfold f_X11_goesTo
  rw [zg118, e1, Option.bind_some]
  have key : RN (fun τ => Fr (Wn 33) σ τ ∧ RV τ 33 A P (ny A P (wfn A X) X n) 0 ∧ ∀ k, n = k + 1 → τ 118 43 = nI (mbt A P (ny A P (wfn A X) X k) (wfn A X k) (A 2))) w u (f_X11_nightsGo 118 (nI n) (mk τ1 w u)) := by
    unfold f_X11_nightsGo l_X11_nightsGo_2
    rw [zg118]
    refine lp_S (RN (fun τ => Fr (Wn 33) σ τ ∧ RV τ 33 A P (ny A P (wfn A X) X n) 0 ∧ ∀ k, n = k + 1 → τ 118 43 = nI (mbt A P (ny A P (wfn A X) X k) (wfn A X k) (A 2))) w u) (fun i τ => (118, nI n, nI i, mk τ w u)) (fun i τ => Fr (Wn 33) σ τ ∧ RV τ 33 A P (ny A P (wfn A X) X i) 0 ∧ ∀ k, i = k + 1 → τ 118 43 = nI (mbt A P (ny A P (wfn A X) X k) (wfn A X k) (A 2))) n ?_ ?_ n 0 _ τ1 (by omega) (by omega) ⟨Wb_n f1, r1, fun k hk => by omega⟩
    · intro i hi k τ ⟨fr, rv1, _⟩ hk
      obtain ⟨τ2, f2, r2, -, m2, -, e2⟩ := nightI (w := w) (u := u) i rv1 hx (by omega)
      have h := hk τ2 ⟨Fr_t fr f2, r2, fun k hk => by
        have e : i = k := by omega
        subst e
        exact m2⟩
      dsimp only at h ⊢
      unfold f_X11_nightsGo_2
      rw [if_neg (nI_ge hi (by omega)), e2, Option.bind_some, nI_1]
      exact h
    · intro k τ h
      dsimp only
      unfold f_X11_nightsGo_2
      rw [if_pos (nI_le (Nat.le_refl _) (by omega))]
      exact ⟨τ, h, rfl⟩
  obtain ⟨τ, ⟨h1, h2, h3⟩, e⟩ := key
  rw [e, Option.bind_some]
  exact ⟨τ, h1, h2, h3, rfl⟩
theorem cl_then (cv : CV σ 34 A P X) (hx : X 0 ≤ 999) {r n q : Nat} (hr : r < A 2) (hn : n ≤ 40) (hq : q ≤ 1) : RQ (Fr Ws σ) w u (if q = 0 then nI (he A P (rt A n X) r (mq A (X 0 + n))) else nJ (na A P (rt A n X) r (mq A (X 0 + n)))) (f_X10_then 0 (nI r) (nI n) (nI q) (mk σ w u)) := by
  have hR8 := cv.2.2.2.1.2.2.2.1
  unfold f_X10_then
  rw [zg0]
  rw [needRow_f cv hr, Option.bind_some]
  rw [show f_X10_needWhat (nI q) 1 (mk σ w u) = some (mk σ w u) from needWhat_f (b := 1) hq (by decide), Option.bind_some]
  rw [show f_X10_needWithin (nI n) 0 40 (mk σ w u) = some (mk σ w u) from needWithin_f (a := 0) (b := 40) (by omega) (by omega) (by decide), Option.bind_some]
  by_cases h : q = 0
  · obtain ⟨τ, g1, g2⟩ := heardAt_f (w := w) (u := u) cv (p := r) (n := n) (by omega) (by omega)
    subst h
    rw [if_pos (show nI 0 = 0 from rfl), if_pos rfl, zr0_8, Option.bind_some, g2, Option.bind_some]
    unfold f_X10_then_50
    dsimp only
    exact RQ_i (Wc_s g1)
  · obtain ⟨τ, g1, g2⟩ := namedAt_f (w := w) (u := u) cv (p := r) (n := n) (mud := mq A (X 0 + n)) (by omega) (by omega) (by have := mq_lt cv.2.2.2.1 (X 0 + n); omega)
    rw [if_neg (show ¬ nI q = 0 from nI_ne0 (by omega) (by omega)), if_neg h, zr0_8, Option.bind_some, Option.bind_some, mudIn_f cv (by omega), Option.bind_some]
    dsimp only
    rw [g2, Option.bind_some]
    unfold f_X10_then_50
    dsimp only
    exact RQ_i (Wc_s g1)
theorem re_then (rv : RV σ 0 A P X 0) (hx : X 0 ≤ 999) {r n q : Nat} (hr : r < A 2) (hn : n ≤ 40) (hq : q ≤ 1) : RQ (fun τ => Fr Wq (s2 σ 118 0 0) τ) w u (if q = 0 then nI (he A P (rt A n X) r (mq A (X 0 + n))) else nJ (na A P (rt A n X) r (mq A (X 0 + n)))) (f_X11_then 118 (nI r) (nI n) (nI q) (mk σ w u)) := by
  have t0 : (s2 σ 118 0 0) 118 0 = nI 0 := by rw [s2_at rfl rfl]; rfl
  have rv0 : RV (s2 σ 118 0 0) 0 A P X 0 := RV_F rv (Fr_s (W := fun q k => q = 118 ∧ k = 0) ⟨rfl, rfl⟩) (fun q k e => by omega)
  have tm := rv0.2.1.1.2.1; have tr := rv0.2.1.1.2.2.1; have tb := rv0.2.1.1.1; have hB1 := rv.2.2.2.2.1.1; have hB2 := rv.2.2.2.2.1.2.1; have hM8 := rv.2.2.2.2.1.2.2.1; have hR8 := rv.2.2.2.2.1.2.2.2.1; have hS12 := rv.2.2.2.2.1.2.2.2.2.1; have hT := RV_b rv
  unfold f_X11_then
  rw [zg118, zw118_0, Option.bind_some]
  rw [show f_X11_isRow 118 (nI r) (mk (s2 σ 118 0 0) w u) = some (nI 1, mk (s2 σ 118 0 0) w u) from isRow_1 tr (by omega) hr t0, Option.bind_some]
  dsimp only
  rw [if_neg (show ¬ nI 1 = 0 by decide)]
  rw [show f_X11_isWhat 118 (nI q) 1 (mk (s2 σ 118 0 0) w u) = some (nI 1, mk (s2 σ 118 0 0) w u) from isWhat_1 (b := 1) hq (by decide) t0, Option.bind_some]
  dsimp only
  rw [if_neg (show ¬ nI 1 = 0 by decide)]
  rw [show f_X11_isNights 118 (nI n) 0 2 (mk (s2 σ 118 0 0) w u) = some (nI 1, mk (s2 σ 118 0 0) w u) from isNights_1 (a := 0) (by omega) (by omega) t0, Option.bind_some]
  dsimp only
  rw [if_neg (show ¬ nI 1 = 0 by decide)]
  obtain ⟨τ1, f1, r1, -, e1⟩ := goesTo_R (w := w) (u := u) rv0 hx hn
  have e0 := ny_0 (A := A) (P := P) (wf := wfn A X) (X := X) n
  rw [e1, Option.bind_some]
  by_cases h : q = 0
  · obtain ⟨τ, g1, g2⟩ := heardOf_f (w := w) (u := u) r1 hr
    rw [mo_0, e0, he_c hM8 (ny_q n)] at g2
    subst h
    rw [if_pos (show nI 0 = 0 from rfl), if_pos rfl, show (33 : Int32) = nI 33 from rfl, g2, Option.bind_some]
    unfold f_X11_then_60
    dsimp only
    exact RQ_i (Fr_t (Wn_q f1) (Wr_q g1))
  · obtain ⟨τ, g1, g2⟩ := namedOf_f (w := w) (u := u) r1 hr
    rw [mo_0, e0, na_c hM8 (ny_q n)] at g2
    rw [if_neg (show ¬ nI q = 0 from nI_ne0 (by omega) (by omega)), if_neg h, show (33 : Int32) = nI 33 from rfl, g2, Option.bind_some]
    unfold f_X11_then_60
    dsimp only
    exact RQ_i (Fr_t (Wn_q f1) (Wr_q g1))
theorem cl_honour (cv : CV σ 34 A P X) (hx : X 0 ≤ 999) {m n : Nat} (hm : m < A 1) (hn : n ≤ 40) : RQ (Fr Ws σ) w u (nI (min 99 (hs A P X m n))) (f_X10_honour 0 (nI m) (nI n) (mk σ w u)) := by
  have hM8 := cv.2.2.2.1.2.2.1
  unfold f_X10_honour
  rw [zg0]
  rw [needMan_f cv hm, Option.bind_some]
  rw [show f_X10_needWithin (nI n) 0 40 (mk σ w u) = some (mk σ w u) from needWithin_f (a := 0) (b := 40) (by omega) (by omega) (by decide), Option.bind_some]
  obtain ⟨τ, g1, g2⟩ := honourAfter_f (w := w) (u := u) cv (man := m) (n := n) (by omega) hn (by omega)
  rw [zr0_8, Option.bind_some, g2, Option.bind_some]
  dsimp only
  exact RQ_i (Wc_s g1)
theorem re_honour (rv : RV σ 0 A P X 0) (hx : X 0 ≤ 999) {m n : Nat} (hm : m < A 1) (hn : n ≤ 40) : RQ (fun τ => Fr Wq (s2 σ 118 0 0) τ) w u (nI (min 99 (hs A P X m n))) (f_X11_honour 118 (nI m) (nI n) (mk σ w u)) := by
  have t0 : (s2 σ 118 0 0) 118 0 = nI 0 := by rw [s2_at rfl rfl]; rfl
  have rv0 : RV (s2 σ 118 0 0) 0 A P X 0 := RV_F rv (Fr_s (W := fun q k => q = 118 ∧ k = 0) ⟨rfl, rfl⟩) (fun q k e => by omega)
  have tm := rv0.2.1.1.2.1; have tr := rv0.2.1.1.2.2.1; have tb := rv0.2.1.1.1; have hB1 := rv.2.2.2.2.1.1; have hB2 := rv.2.2.2.2.1.2.1; have hM8 := rv.2.2.2.2.1.2.2.1; have hR8 := rv.2.2.2.2.1.2.2.2.1; have hS12 := rv.2.2.2.2.1.2.2.2.2.1; have hT := RV_b rv
  unfold f_X11_honour
  rw [zg118, zw118_0, Option.bind_some]
  rw [show f_X11_isMan 118 (nI m) (mk (s2 σ 118 0 0) w u) = some (nI 1, mk (s2 σ 118 0 0) w u) from isMan_1 tm (by omega) hm t0, Option.bind_some]
  dsimp only
  rw [if_neg (show ¬ nI 1 = 0 by decide)]
  rw [show f_X11_isNights 118 (nI n) 0 2 (mk (s2 σ 118 0 0) w u) = some (nI 1, mk (s2 σ 118 0 0) w u) from isNights_1 (a := 0) (by omega) (by omega) t0, Option.bind_some]
  dsimp only
  rw [if_neg (show ¬ nI 1 = 0 by decide)]
  obtain ⟨τ1, f1, r1, -, e1⟩ := goesTo_R (w := w) (u := u) rv0 hx hn
  have e3 := RV_3o r1 m (by omega)
  rw [ny_h hM8 (by omega) (hT m (by omega)).2.2.1] at e3
  rw [e1, Option.bind_some, zr118_36, Option.bind_some, show (50 : Int32) + nI m = nI (50 + m) from nI_add 50 m, za128 (by omega), Option.bind_some, e3]
  exact RQ_i (Wn_q f1)
theorem cl_first (cv : CV σ 34 A P X) (hx : X 0 ≤ 999) {m : Nat} (hm : m < A 1) : RQ (Fr Ws σ) w u (nJ (if fi (fun i => tn A P (rt A i X) (m + 1) (wfn A X i) (A 2)) 40 0 = 0 then 0 else fi (fun i => tn A P (rt A i X) (m + 1) (wfn A X i) (A 2)) 40 0 + 1)) (f_X10_first 0 (nI m) (mk σ w u)) := by
  have hM8 := cv.2.2.2.1.2.2.1
  have hR8 := cv.2.2.2.1.2.2.2.1
  obtain ⟨p, hp⟩ : ∃ p, p = fun i => tn A P (rt A i X) (m + 1) (wfn A X i) (A 2) := ⟨_, rfl⟩
  rw [← hp]
  obtain ⟨F, hF⟩ : ∃ F, F = fi p 40 0 := ⟨_, rfl⟩
  rw [← hF]
  unfold f_X10_first
  rw [zg0]
  rw [needMan_f cv hm, Option.bind_some]
  unfold l_X10_first_7
  refine lp_S (RQ (Fr Ws σ) w u (nJ (if F = 0 then 0 else F + 1))) (fun i τ => (0, nI m, nI i, mk τ w u)) (fun i τ => Fr Ws σ τ ∧ CV τ 34 A P X ∧ F = fi p (40 - i) i) 40 ?_ ?_ 40 0 _ σ (by omega) (by omega) ⟨Fr_r _ _, cv, hF⟩
  · intro i hi k τ ⟨fr, cv1, hf⟩ hk
    obtain ⟨τ2, g1, g2⟩ := timesNamed_f (w := w) (u := u) cv1 (c := m + 1) (n := i) (mud := mq A (X 0 + i)) (by omega) (by omega) (by have := mq_lt cv.2.2.2.1 (X 0 + i); omega)
    rw [nJ_S] at g2
    have hl := tn_le A P (rt A i X) (m + 1) (mq A (X 0 + i)) (A 2)
    have hpi : p i = tn A P (rt A i X) (m + 1) (mq A (X 0 + i)) (A 2) := by rw [hp]; rfl
    rw [show 40 - i = 40 - (i + 1) + 1 by omega, fi_1] at hf
    dsimp only at hk ⊢
    by_cases h : p i = 0
    · rw [if_pos h] at hf
      have h2 := hk τ2 ⟨Fr_t fr (Wc_s g1), CV_fr cv1 g1, hf⟩
      rw [hpi] at h
      simp (disch := omega) only [f_X10_first_7, l0, l1, l2, l3, l4, l5, l6, l7, l8, l9, l10, l11, l12, l13, l14, l15, l16, l17, l18, l19, l20, l21, l22, l23, l24, l25, l33, l34, l40, l42, l50, l58, l99, l100, l700, l999, l4095, l9999, l10000, x_neg1, nI_add, x_pred, x_m1, x_J1, pk_sub, nJ_pos, Nat.add_sub_cancel, nI_leI, nI_ltI, nI_eq, q_leJ, q_Jle, q_ltJ, q_Jlt, q_eqJ, q_Jeq, q_JJ, q_JJle, q_JJlt, Option.bind_some, if_pos, if_neg, ↓reduceIte, zr0_8, mudIn_f cv1, g2]
      exact h2
    · rw [if_neg h] at hf
      rw [hpi] at h
      rw [hf, if_neg (show ¬ i + 1 = 0 by omega), nJ_S]
      refine ⟨τ2, Fr_t fr (Wc_s g1), ?_⟩
      simp (disch := omega) only [f_X10_first_7, f_X10_first_33, l0, l1, l2, l3, l4, l5, l6, l7, l8, l9, l10, l11, l12, l13, l14, l15, l16, l17, l18, l19, l20, l21, l22, l23, l24, l25, l33, l34, l40, l42, l50, l58, l99, l100, l700, l999, l4095, l9999, l10000, x_neg1, nI_add, x_pred, x_m1, x_J1, pk_sub, nJ_pos, Nat.add_sub_cancel, nI_leI, nI_ltI, nI_eq, q_leJ, q_Jle, q_ltJ, q_Jlt, q_eqJ, q_Jeq, q_JJ, q_JJle, q_JJlt, Option.bind_some, if_pos, if_neg, ↓reduceIte, zr0_8, mudIn_f cv1, g2]
  · intro k τ ⟨fr, cv1, hf⟩
    rw [if_pos (show F = 0 from hf)]
    refine ⟨τ, fr, ?_⟩
    dsimp only
    simp (disch := omega) only [f_X10_first_7, f_X10_first_43, l0, l1, l2, l3, l4, l5, l6, l7, l8, l9, l10, l11, l12, l13, l14, l15, l16, l17, l18, l19, l20, l21, l22, l23, l24, l25, l33, l34, l40, l42, l50, l58, l99, l100, l700, l999, l4095, l9999, l10000, x_neg1, nI_add, x_pred, x_m1, x_J1, pk_sub, nJ_pos, Nat.add_sub_cancel, nI_leI, nI_ltI, nI_eq, q_leJ, q_Jle, q_ltJ, q_Jlt, q_eqJ, q_Jeq, q_JJ, q_JJle, q_JJlt, Option.bind_some, if_pos, if_neg, ↓reduceIte]
theorem re_first (rv : RV σ 0 A P X 0) (hx : X 0 ≤ 999) {m : Nat} (hm : m < A 1) : RQ (fun τ => Fr Wq (s2 σ 118 0 0) τ) w u (nJ (if fi (fun i => tn A P (rt A i X) (m + 1) (wfn A X i) (A 2)) 40 0 = 0 then 0 else fi (fun i => tn A P (rt A i X) (m + 1) (wfn A X i) (A 2)) 40 0 + 1)) (f_X11_first 118 (nI m) (mk σ w u)) := by
  have t0 : (s2 σ 118 0 0) 118 0 = nI 0 := by rw [s2_at rfl rfl]; rfl
  have rv0 : RV (s2 σ 118 0 0) 0 A P X 0 := RV_F rv (Fr_s (W := fun q k => q = 118 ∧ k = 0) ⟨rfl, rfl⟩) (fun q k e => by omega)
  have tm := rv0.2.1.1.2.1; have tr := rv0.2.1.1.2.2.1; have tb := rv0.2.1.1.1; have hB1 := rv.2.2.2.2.1.1; have hB2 := rv.2.2.2.2.1.2.1; have hM8 := rv.2.2.2.2.1.2.2.1; have hR8 := rv.2.2.2.2.1.2.2.2.1; have hS12 := rv.2.2.2.2.1.2.2.2.2.1; have hT := RV_b rv
  obtain ⟨p, hp⟩ : ∃ p, p = fun i => tn A P (rt A i X) (m + 1) (wfn A X i) (A 2) := ⟨_, rfl⟩
  rw [← hp]
  obtain ⟨F, hF⟩ : ∃ F, F = fi p 40 0 := ⟨_, rfl⟩
  rw [← hF]
  unfold f_X11_first
  rw [zg118, zw118_0, Option.bind_some]
  rw [show f_X11_isMan 118 (nI m) (mk (s2 σ 118 0 0) w u) = some (nI 1, mk (s2 σ 118 0 0) w u) from isMan_1 tm (by omega) hm t0, Option.bind_some]
  dsimp only
  rw [if_neg (show ¬ nI 1 = 0 by decide)]
  obtain ⟨τ1, f1, r1, -, e1⟩ := tries_V (w := w) (u := u) rv0
  rw [e1, Option.bind_some]
  unfold l_X11_first_21
  refine lp_S (RQ (fun τ => Fr Wq (s2 σ 118 0 0) τ) w u (nJ (if F = 0 then 0 else F + 1))) (fun i τ => (118, nI m, nI (1 + i), mk τ w u)) (fun i τ => Fr Wq (s2 σ 118 0 0) τ ∧ RV τ 33 A P (ny A P (wfn A X) X i) 0 ∧ F = fi p (40 - i) i) 40 ?_ ?_ 40 0 _ τ1 (by omega) (by omega) ⟨Wb_q f1, r1, hF⟩
  · intro i hi k τ ⟨fr, rv1, hf⟩ hk
    obtain ⟨τ2, f2, r2, m2, -, -, e2⟩ := nightI (w := w) (u := u) i rv1 hx (by omega)
    have hpi : p i = tn A P (rt A i X) (m + 1) (wfn A X i) (A 2) := by rw [hp]
    have hb := nbt_tn (A := A) (P := P) (Z := ny A P (wfn A X) X i) (w := wfn A X i) (A 2) m
    rw [tn_c hM8 (ny_q i), ← hpi] at hb
    have hbl := bt_lt (nbt A P (ny A P (wfn A X) X i) (wfn A X i) (A 2)) m
    have hnl := nbt_lt (A := A) (P := P) (Z := ny A P (wfn A X) X i) (w := wfn A X i) (n := A 2) hS12
    have hnl2 := tw8 hnl hM8
    rw [show 40 - i = 40 - (i + 1) + 1 by omega, fi_1] at hf
    dsimp only at hk ⊢
    by_cases h : p i = 0
    · rw [if_pos h] at hf
      have h2 := hk τ2 ⟨Fr_t fr (Wn_q f2), r2, hf⟩
      rw [show 1 + (i + 1) = 1 + i + 1 by omega] at h2
      have h3 : bt (nbt A P (ny A P (wfn A X) X i) (wfn A X i) (A 2)) m = 0 := by
        by_cases h4 : bt (nbt A P (ny A P (wfn A X) X i) (wfn A X i) (A 2)) m = 1
        · exact absurd h (hb.mp h4)
        · omega
      unfold f_X11_first_21
      rw [if_neg (show ¬ (40 : Int32) < nI (1 + i) from nI_nlt (b := 1 + i) (a := 40) (by omega) (by decide)), e2, Option.bind_some, zi118_42, Option.bind_some, m2, show (1 : Int32) = nI 1 from rfl, x_bit (by omega) (by omega), h3, if_neg (show ¬ nI 0 = nI 1 by decide), nI_add]
      exact h2
    · rw [if_neg h] at hf
      have h3 := hb.mpr h
      rw [hf, if_neg (show ¬ i + 1 = 0 by omega), nJ_S]
      refine ⟨τ2, Fr_t fr (Wn_q f2), ?_⟩
      unfold f_X11_first_21
      rw [if_neg (show ¬ (40 : Int32) < nI (1 + i) from nI_nlt (b := 1 + i) (a := 40) (by omega) (by decide)), e2, Option.bind_some, zi118_42, Option.bind_some, m2, show (1 : Int32) = nI 1 from rfl, x_bit (by omega) (by omega), h3, if_pos rfl]
      unfold f_X11_first_45
      rw [Nat.add_comm 1 i]
  · intro k τ ⟨fr, rv1, hf⟩
    rw [if_pos (show F = 0 from hf)]
    refine ⟨τ, fr, ?_⟩
    dsimp only
    unfold f_X11_first_21
    rw [if_pos (by decide)]
    rfl
end OB
