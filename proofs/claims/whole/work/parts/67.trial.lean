/-! L3: observers that put men on trial -/
def nw (A : Nat → Nat) (P : List (Nat × Nat)) (X : Nat → Nat) (m r : Nat) : Nat := na A P (pl A m (r + 1) X) r (mq A (X 0))
def fu (X : Nat → Nat) (m r : Nat) : Nat := pc (an (X (25 + r)) (2 ^ m)) 12
def hid (A : Nat → Nat) (P : List (Nat × Nat)) (X : Nat → Nat) (m : Nat) : Nat → Nat := it (fun r v => if 4 ≤ fu X m r then v else if nw A P X m r = m + 1 then v else v ||| 2 ^ r) 0
theorem hid_S (A : Nat → Nat) (P : List (Nat × Nat)) (X : Nat → Nat) (m r : Nat) : hid A P X m (r + 1) = if 4 ≤ fu X m r then hid A P X m r else if nw A P X m r = m + 1 then hid A P X m r else hid A P X m r ||| 2 ^ r := rfl
theorem rr_le (A : Nat → Nat) (P : List (Nat × Nat)) (X : Nat → Nat) (w n : Nat) : rr A P X w n ≤ n := by
  induction n with
  | zero => exact Nat.le_refl _
  | succ n ih =>
    rw [rr_S]
    split
    · omega
    · split <;> omega
theorem xc_xc {X : Nat → Nat} {r q : Nat} : xc r q (xc r q X) = X := by
  funext k
  unfold xc un
  by_cases h1 : k = 25 + q
  · rw [if_pos h1]
    by_cases h2 : 25 + r = 25 + q
    · rw [if_pos h2, h1, h2]
    · rw [if_neg h2, if_pos rfl, h1]
  · rw [if_neg h1]
    by_cases h2 : k = 25 + r
    · rw [if_pos h2, if_pos rfl, h2]
    · rw [if_neg h2, if_neg h1, if_neg h2]
theorem un_un {X : Nat → Nat} {k a b : Nat} : un (un X k a) k b = un X k b := by
  funext j
  unfold un
  by_cases h : j = k
  · rw [if_pos h, if_pos h]
  · rw [if_neg h, if_neg h, if_neg h]
def sw2 (A : Nat → Nat) (P : List (Nat × Nat)) (X : Nat → Nat) (r : Nat) (s : Nat × Nat) : Nat → Nat × Nat := it (fun j s => if rr A P (xc r (r + 1 + j) X) (mq A (X 0)) (A 2) ≤ s.1 then s else (rr A P (xc r (r + 1 + j) X) (mq A (X 0)) (A 2), 10 * r + (r + 1 + j) + 1)) s
theorem sw2_S (A : Nat → Nat) (P : List (Nat × Nat)) (X : Nat → Nat) (r : Nat) (s : Nat × Nat) (j : Nat) : sw2 A P X r s (j + 1) = if rr A P (xc r (r + 1 + j) X) (mq A (X 0)) (A 2) ≤ (sw2 A P X r s j).1 then sw2 A P X r s j else (rr A P (xc r (r + 1 + j) X) (mq A (X 0)) (A 2), 10 * r + (r + 1 + j) + 1) := rfl
def sw1 (A : Nat → Nat) (P : List (Nat × Nat)) (X : Nat → Nat) : Nat → Nat × Nat := it (fun r s => sw2 A P X r s (A 2 - (r + 1))) (rr A P X (mq A (X 0)) (A 2), 0)
theorem sw2_le {A : Nat → Nat} {P : List (Nat × Nat)} {X : Nat → Nat} {r n : Nat} {s : Nat × Nat} (hs : s.1 ≤ A 2) : (sw2 A P X r s n).1 ≤ A 2 := by
  induction n with
  | zero => exact hs
  | succ n ih =>
    rw [sw2_S]
    split
    · exact ih
    · exact rr_le _ _ _ _ _
theorem sw1_le {A : Nat → Nat} {P : List (Nat × Nat)} {X : Nat → Nat} {n : Nat} : (sw1 A P X n).1 ≤ A 2 := by
  induction n with
  | zero => exact rr_le _ _ _ _ _
  | succ n ih => exact sw2_le ih
section OG
variable {σ : Nat → Nat → Int32} {w u : Int64} {A X Z : Nat → Nat} {P : List (Nat × Nat)} {b om : Nat}
theorem namedWith_f (cv : CV σ 34 A P X) (hx : X 0 ≤ 999) {m r : Nat} (hma : m < A 1) (hr : r < A 2) (hf : ¬ 4 ≤ fu X m r) : ∃ τ, Fr Ws σ τ ∧ CV τ 34 A P X ∧ f_X10_namedWith 0 (nI m) (nI r) (mk σ w u) = some (nJ (nw A P X m r), mk τ w u) := by
  obtain ⟨τ1, f1, c71, c34, e1⟩ := trial_f (w := w) (u := u) cv
  have wa := cv.2.2.2.1
  have hM8 := wa.2.2.1
  have hR8 := wa.2.2.2.1
  obtain ⟨τ2, ⟨f2, m2⟩, e2⟩ := place_f (w := w) (u := u) c71 (man := m) (c := r + 1) (by omega) (by omega)
  have w2 : WX A (pl A m (r + 1) X) := pl_W wa cv.2.2.2.2.1 hma (Or.inr (by rw [show 24 + (r + 1) = 25 + r by omega]; unfold fu at hf; omega))
  have c2 := CV_mk c71 f2 m2 w2
  have d2 := CV_o2 c34 (Or.inr rfl) (by omega) f2
  have e0 : pl A m (r + 1) X 0 = X 0 := pl_k (by omega)
  have em := mudIn_f (w := w) (u := u) c2 (n := 0) (by omega)
  rw [e0, Nat.add_zero] at em
  obtain ⟨τ3, f3, e3⟩ := namedAt_f (w := w) (u := u) c2 (p := r) (n := 0) (mud := mq A (X 0)) (by omega) (by omega) (by have := mq_lt wa (X 0); omega)
  rw [rt_0] at e3
  rw [nJ_S] at e2
  refine ⟨τ3, Fr_t (Fr_t (Wm_s f1) (Wm_s f2)) (Wc_s f3), CV_fr d2 f3, ?_⟩
  unfold f_X10_namedWith
  rw [zg0, zr0_9, Option.bind_some, zr0_8, Option.bind_some, e1, Option.bind_some, zr0_9, Option.bind_some, e2, Option.bind_some, zr0_9, Option.bind_some, Option.bind_some, show (0 : Int32) = nI 0 from rfl, em, Option.bind_some]
  dsimp only
  rw [e3, Option.bind_some]
  dsimp only
  unfold nw
  rfl
theorem canTry_R (rv : RV σ 0 A P X 0) {m r : Nat} (hma : m < A 1) (hr : r < A 2) : ∃ τ, Fr (Wb 33) σ τ ∧ RV τ 0 A P X 0 ∧ ((4 ≤ fu X m r ∧ f_X11_canTry 118 (nI m) (nI r) (mk σ w u) = some (nI 0, mk τ w u)) ∨ (¬ 4 ≤ fu X m r ∧ RV τ 33 A P (pl A m (r + 1) X) 0 ∧ f_X11_canTry 118 (nI m) (nI r) (mk σ w u) = some (nI 1, mk τ w u))) := by
  have wa := rv.2.2.2.2.1
  have hM8 := wa.2.2.1
  have hR8 := wa.2.2.2.1
  have hT := RV_b rv r (by omega)
  have e6 := RV_0s rv r (by omega)
  have hl : an (X (25 + r)) (2 ^ m) < 256 := an_lt hT.2.2.2
  have h4 : fu X m r ≤ 4 := by
    have h1 := pc_an (X (25 + r)) (2 ^ m) 12
    have h2 := (rv.2.2.2.2.2.1.2.1 r (by omega)).2.2.2.2
    unfold fu
    omega
  have e7 : nI (X (25 + r)) &&& ((1 <<< (nI m &&& 31)) ^^^ ((-1) : Int32)) = nI (an (X (25 + r)) (2 ^ m)) := by
    rw [show (1 : Int32) <<< (nI m &&& 31) = nI (2 ^ m) from x_one (by omega), show ((-1) : Int32) = nJ 0 from rfl, x_andn]
  by_cases h : 4 ≤ fu X m r
  · refine ⟨σ, Fr_r _ _, rv, Or.inl ⟨h, ?_⟩⟩
    unfold f_X11_canTry
    rw [zg118, zr118_36, Option.bind_some, show (25 : Int32) + nI r = nI (25 + r) from nI_add 25 r, za128 (by omega), Option.bind_some, e6, e7, bits_f (by omega), Option.bind_some]
    dsimp only
    rw [show pc (an (X (25 + r)) (2 ^ m)) 12 = 4 by unfold fu at h h4; omega, if_pos (by decide), if_pos (by decide)]
    rfl
  · obtain ⟨τ1, f1, r33, r0, e1⟩ := tries_V (w := w) (u := u) rv
    obtain ⟨τ2, ⟨f2, m2⟩, e2⟩ := puts0_R (w := w) (u := u) r33 (man := m) (c := r + 1) (by omega) (by omega)
    have w2 : WX A (pl A m (r + 1) X) := pl_W wa rv.2.2.2.2.2.1 hma (Or.inr (by rw [show 24 + (r + 1) = 25 + r by omega]; unfold fu at h; omega))
    rw [nJ_S] at e2
    refine ⟨τ2, Fr_t f1 f2, RV_o2 r0 (Wb_n f2), Or.inr ⟨h, RV_mk r33 (Wb_n f2) m2 w2, ?_⟩⟩
    unfold f_X11_canTry
    rw [zg118, zr118_36, Option.bind_some, show (25 : Int32) + nI r = nI (25 + r) from nI_add 25 r, za128 (by omega), Option.bind_some, e6, e7, bits_f (by omega), Option.bind_some]
    dsimp only
    have h5 := pc_le (an (X (25 + r)) (2 ^ m)) 12
    rw [if_neg (show ¬ nI (pc (an (X (25 + r)) (2 ^ m)) 12) = 4 from fun e => by have e3 := (nI_eq (a := pc (an (X (25 + r)) (2 ^ m)) 12) (b := 4) (by omega) (by decide)).mp e; unfold fu at h; omega), e1, Option.bind_some, show f_X11_puts0 118 33 (nI m) (nI r) (mk τ1 w u) = some (mk τ2 w u) from e2, Option.bind_some, if_pos (by decide)]
    rfl
def psp (A : Nat → Nat) (P : List (Nat × Nat)) (X : Nat → Nat) (m o : Nat) : Nat → Nat := fun r => if 4 ≤ fu X m r then 0 else if nw A P X m r = o + 1 then 1 else 0
theorem nw_le (wa : WA A) (m r : Nat) : nw A P X m r ≤ A 1 := na_le _ _ _ _ _ wa.2.2.2.2.1
theorem fu_f (cv : CV σ 34 A P X) {m r : Nat} (hma : m < A 1) (hr : r < A 2) : f_X3_isFullFor 34 (nI m) (nI r) (mk σ w u) = some (nI (if 4 ≤ fu X m r then 1 else 0), mk σ w u) := by
  have hM8 := cv.2.2.2.1.2.2.1
  have hR8 := cv.2.2.2.1.2.2.2.1
  rw [isFullFor_f cv (by omega) (by omega)]
  unfold fu
  by_cases h : pc (an (X (25 + r)) (2 ^ m)) 12 < 4
  · rw [if_pos h, if_neg (by omega)]
  · rw [if_neg h, if_pos (by omega)]
theorem cl_passes (cv : CV σ 34 A P X) (hx : X 0 ≤ 999) {m o : Nat} (hma : m < A 1) (hoa : o < A 1) : RQ (Fr Ws σ) w u (if m = o then nJ 0 else nJ (fi (psp A P X m o) (A 2) 0)) (f_X10_passes 0 (nI m) (nI o) (mk σ w u)) := by
  have cv0 := cv
  have hM := CV_M cv; have hT := CV_b cv; have cv2 := cv; obtain ⟨hm, ⟨⟨hA0, hA1, hA2, hA3, hA4⟩, hA7, hrl, hrn, hrc⟩, ⟨hN, hX⟩, ⟨hB1, hB2, hM8, hR8, hS12, hnm, hmd⟩, ⟨hN2, hW, hD⟩, hP⟩ := cv2
  unfold f_X10_passes
  rw [zg0]
  rw [needMan_f cv hma, Option.bind_some]
  rw [needMan_f cv hoa, Option.bind_some]
  by_cases hmo : m = o
  · rw [if_pos hmo, hmo, if_pos rfl]
    exact RQ_i (Fr_r _ _)
  · rw [if_neg hmo, if_neg (fun e => hmo ((nI_eq (by omega) (by omega)).mp e))]
    obtain ⟨F, hF⟩ : ∃ F, F = fi (psp A P X m o) (A 2) 0 := ⟨_, rfl⟩
    rw [← hF]
    unfold l_X10_passes_19
    refine lp_S (RQ (Fr Ws σ) w u (nJ F)) (fun i τ => (0, nI m, nI o, nI i, mk τ w u)) (fun i τ => Fr Ws σ τ ∧ CV τ 34 A P X ∧ F = fi (psp A P X m o) (A 2 - i) i) (A 2) ?_ ?_ (A 2) 0 _ σ (by omega) (by omega) ⟨Fr_r _ _, cv, hF⟩
    · intro i hi k τ ⟨fr, cv1, hf⟩ hk
      have cv := cv1
      have hM := CV_M cv; have hT := CV_b cv; have cv2 := cv; obtain ⟨hm, ⟨⟨hA0, hA1, hA2, hA3, hA4⟩, hA7, hrl, hrn, hrc⟩, ⟨hN, hX⟩, ⟨hB1, hB2, hM8, hR8, hS12, hnm, hmd⟩, ⟨hN2, hW, hD⟩, hP⟩ := cv2
      rw [show A 2 - i = A 2 - (i + 1) + 1 by omega, fi_1] at hf
      dsimp only at hk ⊢
      unfold f_X10_passes_19 f_X10_passes_54
      rw [zr0_4, Option.bind_some, zi5_2, Option.bind_some, hA2, if_neg (nI_ge hi (by omega)), zr0_8, Option.bind_some, fu_f cv hma hi, Option.bind_some]
      dsimp only
      by_cases c : 4 ≤ fu X m i
      · rw [if_pos (show psp A P X m o i = 0 by unfold psp; rw [if_pos c])] at hf
        rw [if_pos c, if_neg (by decide), nI_1]
        exact hk τ ⟨fr, cv, hf⟩
      · obtain ⟨τ2, f2, c2, e2⟩ := namedWith_f (w := w) (u := u) cv hx hma hi c
        have hnl := nw_le (P := P) (X := X) cv.2.2.2.1 m i
        rw [if_neg c, if_pos (by decide), e2, Option.bind_some]
        dsimp only
        by_cases c3 : nw A P X m i = o + 1
        · rw [if_neg (show ¬ psp A P X m o i = 0 by unfold psp; rw [if_neg c, if_pos c3]; decide)] at hf
          rw [c3, nJ_S, if_pos rfl, hf, nJ_S]
          exact RQ_i (Fr_t fr f2)
        · rw [if_pos (show psp A P X m o i = 0 by unfold psp; rw [if_neg c, if_neg c3])] at hf
          rw [if_neg (fun e => by rw [q_Jeq (by omega) (by omega)] at e; omega), nI_1]
          exact hk τ2 ⟨Fr_t fr f2, c2, hf⟩
    · intro k τ ⟨fr, cv1, hf⟩
      have cv := cv1
      have hM := CV_M cv; have hT := CV_b cv; have cv2 := cv; obtain ⟨hm, ⟨⟨hA0, hA1, hA2, hA3, hA4⟩, hA7, hrl, hrn, hrc⟩, ⟨hN, hX⟩, ⟨hB1, hB2, hM8, hR8, hS12, hnm, hmd⟩, ⟨hN2, hW, hD⟩, hP⟩ := cv2
      rw [Nat.sub_self] at hf
      rw [show F = 0 from hf]
      dsimp only
      unfold f_X10_passes_19
      rw [zr0_4, Option.bind_some, zi5_2, Option.bind_some, hA2, if_pos (nI_le (Nat.le_refl _) (by omega))]
      exact RQ_i fr
theorem re_passes (rv : RV σ 0 A P X 0) (hx : X 0 ≤ 999) {m o : Nat} (hma : m < A 1) (hoa : o < A 1) : RQ (fun τ => Fr Wq (s2 σ 118 0 0) τ) w u (if m = o then nJ 0 else nJ (fi (psp A P X m o) (A 2) 0)) (f_X11_passes 118 (nI m) (nI o) (mk σ w u)) := by
  have t0 : (s2 σ 118 0 0) 118 0 = nI 0 := by rw [s2_at rfl rfl]; rfl
  have rv0 : RV (s2 σ 118 0 0) 0 A P X 0 := RV_F rv (Fr_s (W := fun q k => q = 118 ∧ k = 0) ⟨rfl, rfl⟩) (fun q k e => by omega)
  have tm := rv0.2.1.1.2.1; have tr := rv0.2.1.1.2.2.1; have tb := rv0.2.1.1.1; have hB1 := rv.2.2.2.2.1.1; have hB2 := rv.2.2.2.2.1.2.1; have hM8 := rv.2.2.2.2.1.2.2.1; have hR8 := rv.2.2.2.2.1.2.2.2.1; have hS12 := rv.2.2.2.2.1.2.2.2.2.1; have hT := RV_b rv
  unfold f_X11_passes
  rw [zg118, zw118_0, Option.bind_some]
  rw [show f_X11_isMan 118 (nI m) (mk (s2 σ 118 0 0) w u) = some (nI 1, mk (s2 σ 118 0 0) w u) from isMan_1 tm (by omega) hma t0, Option.bind_some]
  dsimp only
  rw [if_neg (show ¬ nI 1 = 0 by decide)]
  rw [show f_X11_isMan 118 (nI o) (mk (s2 σ 118 0 0) w u) = some (nI 1, mk (s2 σ 118 0 0) w u) from isMan_1 tm (by omega) hoa t0, Option.bind_some]
  dsimp only
  rw [if_neg (show ¬ nI 1 = 0 by decide)]
  obtain ⟨F, hF⟩ : ∃ F, F = fi (psp A P X m o) (A 2) 0 := ⟨_, rfl⟩
  rw [← hF]
  obtain ⟨V, hV⟩ : ∃ V, V = (if m = o then nJ 0 else nJ F) := ⟨_, rfl⟩
  rw [← hV]
  unfold l_X11_passes_25
  refine lp_S (RQ (fun τ => Fr Wq (s2 σ 118 0 0) τ) w u V) (fun i τ => (118, nI m, nI o, nI i, mk τ w u)) (fun i τ => Fr Wq (s2 σ 118 0 0) τ ∧ RV τ 0 A P X 0 ∧ F = fi (psp A P X m o) (A 2 - i) i) (A 2) ?_ ?_ (A 2) 0 _ _ (by omega) (by omega) ⟨Fr_r _ _, rv0, hF⟩
  · intro i hi k τ ⟨fr, rv1, hf⟩ hk
    have a2 : τ 118 3 = nI (A 2) := rv1.2.1.1.2.2.1
    rw [show A 2 - i = A 2 - (i + 1) + 1 by omega, fi_1] at hf
    dsimp only at hk ⊢
    unfold f_X11_passes_25
    rw [zi118_3, Option.bind_some, a2, if_neg (nI_ge hi (by omega))]
    by_cases hmo : m = o
    · rw [if_pos hmo] at hV
      rw [hmo, if_pos rfl, hV]
      exact RQ_i fr
    · rw [if_neg hmo] at hV
      rw [if_neg (fun e => hmo ((nI_eq (by omega) (by omega)).mp e))]
      obtain ⟨τ2, f2, r2, h2⟩ := canTry_R (w := w) (u := u) rv1 hma hi
      rcases h2 with ⟨c, e2⟩ | ⟨c, r33, e2⟩
      · rw [if_pos (show psp A P X m o i = 0 by unfold psp; rw [if_pos c])] at hf
        rw [e2, Option.bind_some]
        dsimp only
        rw [if_pos (show nI 0 = 0 from rfl)]
        unfold f_X11_passes_60
        rw [nI_1]
        exact hk τ2 ⟨Fr_t fr (Wb_q f2), r2, hf⟩
      · obtain ⟨τ3, f3, e3⟩ := namedOf_f (w := w) (u := u) r33 hi
        rw [mo_0, pl_k (show 0 < 25 ∨ 25 + A 2 ≤ 0 by omega)] at e3
        have hnl := nw_le (P := P) (X := X) rv.2.2.2.2.1 m i
        rw [e2, Option.bind_some]
        dsimp only
        rw [if_neg (show ¬ nI 1 = 0 by decide), show f_X11_namedOf 118 33 (nI i) (mk τ2 w u) = some (nJ (nw A P X m i), mk τ3 w u) from e3, Option.bind_some]
        dsimp only
        by_cases c3 : nw A P X m i = o + 1
        · rw [if_neg (show ¬ psp A P X m o i = 0 by unfold psp; rw [if_neg c, if_pos c3]; decide)] at hf
          rw [hf, nJ_S] at hV
          rw [c3, nJ_S, if_pos rfl, hV]
          exact RQ_i (Fr_t fr (Fr_t (Wb_q f2) (Wr_q f3)))
        · rw [if_pos (show psp A P X m o i = 0 by unfold psp; rw [if_neg c, if_neg c3])] at hf
          rw [if_neg (fun e => by rw [q_Jeq (by omega) (by omega)] at e; omega)]
          unfold f_X11_passes_60
          rw [nI_1]
          exact hk τ3 ⟨Fr_t fr (Fr_t (Wb_q f2) (Wr_q f3)), RV_fr r2 f3, hf⟩
  · intro k τ ⟨fr, rv1, hf⟩
    have a2 : τ 118 3 = nI (A 2) := rv1.2.1.1.2.2.1
    rw [Nat.sub_self] at hf
    have hV2 : V = nJ 0 := by rw [hV, show F = 0 from hf]; split <;> rfl
    rw [hV2]
    dsimp only
    unfold f_X11_passes_25
    rw [zi118_3, Option.bind_some, a2, if_pos (nI_le (Nat.le_refl _) (by omega))]
    exact RQ_i fr
theorem cl_hidden (cv : CV σ 34 A P X) (hx : X 0 ≤ 999) {m : Nat} (hma : m < A 1) : RQ (Fr Ws σ) w u (nI (hid A P X m (A 2))) (f_X10_hidden 0 (nI m) (mk σ w u)) := by
  have cv0 := cv
  have hM := CV_M cv; have hT := CV_b cv; have cv2 := cv; obtain ⟨hm, ⟨⟨hA0, hA1, hA2, hA3, hA4⟩, hA7, hrl, hrn, hrc⟩, ⟨hN, hX⟩, ⟨hB1, hB2, hM8, hR8, hS12, hnm, hmd⟩, ⟨hN2, hW, hD⟩, hP⟩ := cv2
  unfold f_X10_hidden
  rw [zg0]
  rw [needMan_f cv hma, Option.bind_some]
  unfold l_X10_hidden_9
  refine lp_S (RQ (Fr Ws σ) w u (nI (hid A P X m (A 2)))) (fun i τ => (0, nI m, nI (hid A P X m i), nI i, mk τ w u)) (fun i τ => Fr Ws σ τ ∧ CV τ 34 A P X) (A 2) ?_ ?_ (A 2) 0 _ σ (by omega) (by omega) ⟨Fr_r _ _, cv⟩
  · intro i hi k τ ⟨fr, cv1⟩ hk
    have cv := cv1
    have hM := CV_M cv; have hT := CV_b cv; have cv2 := cv; obtain ⟨hm, ⟨⟨hA0, hA1, hA2, hA3, hA4⟩, hA7, hrl, hrn, hrc⟩, ⟨hN, hX⟩, ⟨hB1, hB2, hM8, hR8, hS12, hnm, hmd⟩, ⟨hN2, hW, hD⟩, hP⟩ := cv2
    dsimp only at hk ⊢
    unfold f_X10_hidden_9 f_X10_hidden_48
    rw [zr0_4, Option.bind_some, zi5_2, Option.bind_some, hA2, if_neg (nI_ge hi (by omega)), zr0_8, Option.bind_some, fu_f cv hma hi, Option.bind_some]
    dsimp only
    by_cases c : 4 ≤ fu X m i
    · have h := hk τ ⟨fr, cv⟩
      rw [hid_S, if_pos c] at h
      rw [if_pos c, if_neg (by decide), nI_1]
      exact h
    · obtain ⟨τ2, f2, c2, e2⟩ := namedWith_f (w := w) (u := u) cv hx hma hi c
      have hnl := nw_le (P := P) (X := X) cv.2.2.2.1 m i
      have h := hk τ2 ⟨Fr_t fr f2, c2⟩
      rw [hid_S, if_neg c] at h
      rw [if_neg c, if_pos (by decide), e2, Option.bind_some]
      dsimp only
      by_cases c3 : nw A P X m i = m + 1
      · rw [if_pos c3] at h
        rw [c3, nJ_S, if_pos rfl, nI_1]
        exact h
      · rw [if_neg c3] at h
        rw [if_neg (fun e => by rw [q_Jeq (by omega) (by omega)] at e; omega), show (1 : Int32) <<< (nI i &&& 31) = nI (2 ^ i) from x_one (by omega), x_or, nI_1]
        exact h
  · intro k τ ⟨fr, cv1⟩
    have cv := cv1
    have hM := CV_M cv; have hT := CV_b cv; have cv2 := cv; obtain ⟨hm, ⟨⟨hA0, hA1, hA2, hA3, hA4⟩, hA7, hrl, hrn, hrc⟩, ⟨hN, hX⟩, ⟨hB1, hB2, hM8, hR8, hS12, hnm, hmd⟩, ⟨hN2, hW, hD⟩, hP⟩ := cv2
    dsimp only
    unfold f_X10_hidden_9
    rw [zr0_4, Option.bind_some, zi5_2, Option.bind_some, hA2, if_pos (nI_le (Nat.le_refl _) (by omega))]
    exact RQ_i fr
theorem re_hidden (rv : RV σ 0 A P X 0) (hx : X 0 ≤ 999) {m : Nat} (hma : m < A 1) : RQ (fun τ => Fr Wq (s2 σ 118 0 0) τ) w u (nI (hid A P X m (A 2))) (f_X11_hidden 118 (nI m) (mk σ w u)) := by
  have t0 : (s2 σ 118 0 0) 118 0 = nI 0 := by rw [s2_at rfl rfl]; rfl
  have rv0 : RV (s2 σ 118 0 0) 0 A P X 0 := RV_F rv (Fr_s (W := fun q k => q = 118 ∧ k = 0) ⟨rfl, rfl⟩) (fun q k e => by omega)
  have tm := rv0.2.1.1.2.1; have tr := rv0.2.1.1.2.2.1; have tb := rv0.2.1.1.1; have hB1 := rv.2.2.2.2.1.1; have hB2 := rv.2.2.2.2.1.2.1; have hM8 := rv.2.2.2.2.1.2.2.1; have hR8 := rv.2.2.2.2.1.2.2.2.1; have hS12 := rv.2.2.2.2.1.2.2.2.2.1; have hT := RV_b rv
  unfold f_X11_hidden
  rw [zg118, zw118_0, Option.bind_some]
  rw [show f_X11_isMan 118 (nI m) (mk (s2 σ 118 0 0) w u) = some (nI 1, mk (s2 σ 118 0 0) w u) from isMan_1 tm (by omega) hma t0, Option.bind_some]
  dsimp only
  rw [if_neg (show ¬ nI 1 = 0 by decide)]
  unfold l_X11_hidden_19
  refine lp_S (RQ (fun τ => Fr Wq (s2 σ 118 0 0) τ) w u (nI (hid A P X m (A 2)))) (fun i τ => (118, nI m, nI (hid A P X m i), nI i, mk τ w u)) (fun i τ => Fr Wq (s2 σ 118 0 0) τ ∧ RV τ 0 A P X 0) (A 2) ?_ ?_ (A 2) 0 _ _ (by omega) (by omega) ⟨Fr_r _ _, rv0⟩
  · intro i hi k τ ⟨fr, rv1⟩ hk
    have a2 : τ 118 3 = nI (A 2) := rv1.2.1.1.2.2.1
    dsimp only at hk ⊢
    unfold f_X11_hidden_19
    rw [zi118_3, Option.bind_some, a2, if_neg (nI_ge hi (by omega))]
    obtain ⟨τ2, f2, r2, h2⟩ := canTry_R (w := w) (u := u) rv1 hma hi
    rcases h2 with ⟨c, e2⟩ | ⟨c, r33, e2⟩
    · have h := hk τ2 ⟨Fr_t fr (Wb_q f2), r2⟩
      rw [hid_S, if_pos c] at h
      rw [e2, Option.bind_some]
      dsimp only
      rw [if_pos (show nI 0 = 0 from rfl)]
      unfold f_X11_hidden_54 f_X11_hidden_55
      rw [show (0 : Int32) = nI 0 from rfl, x_or, Nat.or_zero, nI_1]
      exact h
    · obtain ⟨τ3, f3, e3⟩ := namedOf_f (w := w) (u := u) r33 hi
      rw [mo_0, pl_k (show 0 < 25 ∨ 25 + A 2 ≤ 0 by omega)] at e3
      have hnl := nw_le (P := P) (X := X) rv.2.2.2.2.1 m i
      have h := hk τ3 ⟨Fr_t fr (Fr_t (Wb_q f2) (Wr_q f3)), RV_fr r2 f3⟩
      rw [hid_S, if_neg c] at h
      rw [e2, Option.bind_some]
      dsimp only
      rw [if_neg (show ¬ nI 1 = 0 by decide), show f_X11_namedOf 118 33 (nI i) (mk τ2 w u) = some (nJ (nw A P X m i), mk τ3 w u) from e3, Option.bind_some]
      dsimp only
      by_cases c3 : nw A P X m i = m + 1
      · rw [if_pos c3] at h
        rw [c3, nJ_S, if_pos rfl]
        unfold f_X11_hidden_54 f_X11_hidden_55
        rw [show (0 : Int32) = nI 0 from rfl, x_or, Nat.or_zero, nI_1]
        exact h
      · rw [if_neg c3] at h
        rw [if_neg (fun e => by rw [q_Jeq (by omega) (by omega)] at e; omega), show (1 : Int32) <<< (nI i &&& 31) = nI (2 ^ i) from x_one (by omega)]
        unfold f_X11_hidden_55
        rw [x_or, nI_1]
        exact h
  · intro k τ ⟨fr, rv1⟩
    have a2 : τ 118 3 = nI (A 2) := rv1.2.1.1.2.2.1
    dsimp only
    unfold f_X11_hidden_19
    rw [zi118_3, Option.bind_some, a2, if_pos (nI_le (Nat.le_refl _) (by omega))]
    exact RQ_i fr
def tsk (A : Nat → Nat) (P : List (Nat × Nat)) (X : Nat → Nat) (m : Nat) : Nat → Nat := fun i => if tn A P (un X (9 + m) (9 - i)) (m + 1) (mq A (X 0)) (A 2) = 0 then 1 else 0
theorem cl_toSock (cv : CV σ 34 A P X) (hx : X 0 ≤ 999) {m : Nat} (hma : m < A 1) : RQ (Fr Ws σ) w u (if ro A X m = 0 then nJ 0 else if fi (tsk A P X m) 9 0 = 0 then nJ 0 else nI (10 - fi (tsk A P X m) 9 0)) (f_X10_toSock 0 (nI m) (mk σ w u)) := by
  have hro := ro_le A X m
  have cv0 := cv
  have hM := CV_M cv; have hT := CV_b cv; have cv2 := cv; obtain ⟨hm, ⟨⟨hA0, hA1, hA2, hA3, hA4⟩, hA7, hrl, hrn, hrc⟩, ⟨hN, hX⟩, ⟨hB1, hB2, hM8, hR8, hS12, hnm, hmd⟩, ⟨hN2, hW, hD⟩, hP⟩ := cv2
  unfold f_X10_toSock
  rw [zg0]
  rw [needMan_f cv hma, Option.bind_some]
  rw [zr0_8, Option.bind_some, rowOf_f cv (by omega), Option.bind_some]
  dsimp only
  by_cases h0 : ro A X m = 0
  · rw [if_pos h0, h0, if_pos (show nJ 0 = -1 from rfl)]
    exact RQ_i (Fr_r _ _)
  · rw [if_neg h0, nJ_pos (k := ro A X m) (by omega), if_neg (show ¬ nI (ro A X m - 1) = -1 from fun e => by have e2 : nI (ro A X m - 1) = nJ 0 := e; rw [q_eqJ (by omega) (by omega)] at e2; omega), zr0_9, Option.bind_some, zr0_8, Option.bind_some]
    obtain ⟨τ1, f1, c71, c34, e1⟩ := trial_f (w := w) (u := u) cv
    rw [e1, Option.bind_some]
    obtain ⟨F, hF⟩ : ∃ F, F = fi (tsk A P X m) 9 0 := ⟨_, rfl⟩
    rw [← hF]
    unfold l_X10_toSock_33
    refine lp_S (RQ (Fr Ws σ) w u (if F = 0 then nJ 0 else nI (10 - F))) (fun i τ => (0, nI m, nI (9 - i), mk τ w u)) (fun i τ => Fr Ws σ τ ∧ (∃ Y, CV τ 71 A P Y ∧ WX A Y ∧ Y 0 = X 0 ∧ ∀ a, un Y (9 + m) a = un X (9 + m) a) ∧ F = fi (tsk A P X m) (9 - i) i) 9 ?_ ?_ 9 0 _ τ1 (by omega) (by omega) ⟨Wm_s f1, ⟨X, c71, cv.2.2.2.2.1, rfl, fun a => rfl⟩, hF⟩
    · intro i hi k τ ⟨fr, ⟨Y, cY, wY, y0, hY⟩, hf⟩ hk
      rw [show 9 - i = 9 - (i + 1) + 1 by omega, fi_1] at hf
      obtain ⟨τ2, ⟨f2, m2⟩, e2⟩ := setLoud_f (w := w) (u := u) cY (man := m) (a := 9 - i) (by omega)
      rw [hY] at m2
      have w2 : WX A (un X (9 + m) (9 - i)) := WX_l cv0.2.2.2.2.1 (by omega) (by omega)
      have c2 := CV_mk cY f2 m2 w2
      have x0 : un X (9 + m) (9 - i) 0 = X 0 := un_off (by omega)
      have em := mudIn_f (w := w) (u := u) c2 (n := 0) (by omega)
      rw [x0, Nat.add_zero] at em
      obtain ⟨τ3, f3, e3⟩ := timesNamed_f (w := w) (u := u) c2 (c := m + 1) (n := 0) (mud := mq A (X 0)) (by omega) (by omega) (by have := mq_lt cv0.2.2.2.1 (X 0); omega)
      rw [rt_0, nJ_S] at e3
      have hl := tn_le A P (un X (9 + m) (9 - i)) (m + 1) (mq A (X 0)) (A 2)
      dsimp only at hk ⊢
      unfold f_X10_toSock_33
      rw [if_neg (show ¬ nI (9 - i) < 1 from nI_nlt (b := 1) (by omega) (by omega)), zr0_9, Option.bind_some, rR isM_71.1 (r := 74) rfl, Option.bind_some, e2, Option.bind_some, zr0_9, Option.bind_some, Option.bind_some, show (0 : Int32) = nI 0 from rfl, em, Option.bind_some]
      dsimp only
      rw [e3, Option.bind_some]
      dsimp only
      by_cases c : tn A P (un X (9 + m) (9 - i)) (m + 1) (mq A (X 0)) (A 2) = 0
      · rw [if_neg (show ¬ tsk A P X m i = 0 by unfold tsk; rw [if_pos c]; decide)] at hf
        rw [c, if_pos rfl, hf, if_neg (show ¬ i + 1 = 0 by omega), show 10 - (i + 1) = 9 - i by omega]
        exact RQ_i (Fr_t fr (Fr_t (Wm_s f2) (Wc_s f3)))
      · rw [if_pos (show tsk A P X m i = 0 by unfold tsk; rw [if_neg c])] at hf
        rw [if_neg (fun e => c ((nI_eq (by omega) (by omega)).mp e)), show nI (9 - i) + (-1) = nI (9 - (i + 1)) from by rw [show nI (9 - i) + (-1) = nJ (9 - i) from x_m1 _, nJ_pos (by omega), show 9 - i - 1 = 9 - (i + 1) by omega]]
        exact hk τ3 ⟨Fr_t fr (Fr_t (Wm_s f2) (Wc_s f3)), ⟨_, CV_fr c2 f3, w2, x0, fun a => un_un⟩, hf⟩
    · intro k τ ⟨fr, _, hf⟩
      rw [if_pos (show F = 0 from hf)]
      dsimp only
      unfold f_X10_toSock_33
      rw [if_pos (by decide)]
      exact RQ_i fr
theorem re_toSock (rv : RV σ 0 A P X 0) (hx : X 0 ≤ 999) {m : Nat} (hma : m < A 1) : RQ (fun τ => Fr Wq (s2 σ 118 0 0) τ) w u (if ro A X m = 0 then nJ 0 else if fi (tsk A P X m) 9 0 = 0 then nJ 0 else nI (10 - fi (tsk A P X m) 9 0)) (f_X11_toSock 118 (nI m) (mk σ w u)) := by
  have hro := ro_le A X m
  have t0 : (s2 σ 118 0 0) 118 0 = nI 0 := by rw [s2_at rfl rfl]; rfl
  have rv0 : RV (s2 σ 118 0 0) 0 A P X 0 := RV_F rv (Fr_s (W := fun q k => q = 118 ∧ k = 0) ⟨rfl, rfl⟩) (fun q k e => by omega)
  have tm := rv0.2.1.1.2.1; have tr := rv0.2.1.1.2.2.1; have tb := rv0.2.1.1.1; have hB1 := rv.2.2.2.2.1.1; have hB2 := rv.2.2.2.2.1.2.1; have hM8 := rv.2.2.2.2.1.2.2.1; have hR8 := rv.2.2.2.2.1.2.2.2.1; have hS12 := rv.2.2.2.2.1.2.2.2.2.1; have hT := RV_b rv
  unfold f_X11_toSock
  rw [zg118, zw118_0, Option.bind_some]
  rw [show f_X11_isMan 118 (nI m) (mk (s2 σ 118 0 0) w u) = some (nI 1, mk (s2 σ 118 0 0) w u) from isMan_1 tm (by omega) hma t0, Option.bind_some]
  dsimp only
  rw [if_neg (show ¬ nI 1 = 0 by decide)]
  obtain ⟨F, hF⟩ : ∃ F, F = fi (tsk A P X m) 9 0 := ⟨_, rfl⟩
  rw [← hF]
  unfold l_X11_toSock_18
  refine lp_S (RQ (fun τ => Fr Wq (s2 σ 118 0 0) τ) w u (if ro A X m = 0 then nJ 0 else if F = 0 then nJ 0 else nI (10 - F))) (fun i τ => (118, nI m, nI (9 - i), mk τ w u)) (fun i τ => Fr Wq (s2 σ 118 0 0) τ ∧ RV τ 0 A P X 0 ∧ F = fi (tsk A P X m) (9 - i) i) 9 ?_ ?_ 9 0 _ _ (by omega) (by omega) ⟨Fr_r _ _, rv0, hF⟩
  · intro i hi k τ ⟨fr, rv1, hf⟩ hk
    rw [show 9 - i = 9 - (i + 1) + 1 by omega, fi_1] at hf
    dsimp only at hk ⊢
    unfold f_X11_toSock_18
    rw [if_neg (show ¬ nI (9 - i) < 1 from nI_nlt (b := 1) (by omega) (by omega)), show f_X11_rowOf 118 0 (nI m) (mk τ w u) = some (nJ (ro A X m), mk τ w u) from rowOf_R rv1 (by omega), Option.bind_some]
    dsimp only
    by_cases h0 : ro A X m = 0
    · rw [if_pos h0, h0, if_pos (show nJ 0 = -1 from rfl)]
      exact RQ_i fr
    · rw [if_neg h0] at hk ⊢
      obtain ⟨τ1, f1, r33, r0, e1⟩ := tries_V (w := w) (u := u) rv1
      have rr2 : Rr (s2 τ1 128 (42 + m) (nI (9 - i))) 33 (un X (9 + m) (9 - i)) := Rr_s r33.2.2.1 (k := 9 + m) (by omega)
      have f2 : Fr (Wb 33) τ1 (s2 τ1 128 (42 + m) (nI (9 - i))) := Fr_s (by unfold Wb; omega)
      have w2 : WX A (un X (9 + m) (9 - i)) := WX_l rv.2.2.2.2.2.1 (by omega) (by omega)
      have rv2 := RV_mk r33 (Wb_n f2) rr2 w2
      have x0 : un X (9 + m) (9 - i) 0 = X 0 := un_off (by omega)
      obtain ⟨τ3, f3, r3, m3, -, -, e3⟩ := nightV (w := w) (u := u) rv2 (by omega)
      rw [mo_0, x0] at m3
      have hb := nbt_tn (A := A) (P := P) (Z := un X (9 + m) (9 - i)) (w := mq A (X 0)) (A 2) m
      have hbl := bt_lt (nbt A P (un X (9 + m) (9 - i)) (mq A (X 0)) (A 2)) m
      have hnl := tw8 (nbt_lt (A := A) (P := P) (Z := un X (9 + m) (9 - i)) (w := mq A (X 0)) (n := A 2) hS12) hM8
      have hrr : RV τ3 0 A P X 0 := RV_o2 (RV_o2 r0 (Wb_n f2)) f3
      have hfr : Fr Wq (s2 σ 118 0 0) τ3 := Fr_t fr (Fr_t (Wb_q f1) (Fr_t (Wb_q f2) (Wn_q f3)))
      rw [nJ_pos (k := ro A X m) (by omega), if_neg (show ¬ nI (ro A X m - 1) = -1 from fun e => by have e2 : nI (ro A X m - 1) = nJ 0 := e; rw [q_eqJ (by omega) (by omega)] at e2; omega), e1, Option.bind_some, zr118_36, Option.bind_some, show (42 : Int32) + nI m = nI (42 + m) from nI_add 42 m, zb128 (by omega), Option.bind_some, show f_X11_nightGoes 118 33 (mk (s2 τ1 128 (42 + m) (nI (9 - i))) w u) = some (mk τ3 w u) from e3, Option.bind_some, zi118_42, Option.bind_some, m3, show (1 : Int32) = nI 1 from rfl, x_bit (by omega) (by omega)]
      by_cases c : tn A P (un X (9 + m) (9 - i)) (m + 1) (mq A (X 0)) (A 2) = 0
      · rw [if_neg (show ¬ tsk A P X m i = 0 by unfold tsk; rw [if_pos c]; decide)] at hf
        have h3 : bt (nbt A P (un X (9 + m) (9 - i)) (mq A (X 0)) (A 2)) m = 0 := by
          by_cases h4 : bt (nbt A P (un X (9 + m) (9 - i)) (mq A (X 0)) (A 2)) m = 1
          · exact absurd c (hb.mp h4)
          · omega
        rw [h3, if_pos (show nI 0 = 0 from rfl), hf, if_neg (show ¬ i + 1 = 0 by omega), show 10 - (i + 1) = 9 - i by omega]
        exact RQ_i hfr
      · rw [if_pos (show tsk A P X m i = 0 by unfold tsk; rw [if_neg c])] at hf
        rw [hb.mpr c, if_neg (show ¬ nI 1 = 0 by decide), show nI (9 - i) + (-(nI 1)) = nI (9 - (i + 1)) from by rw [x_neg1, x_m1, nJ_pos (by omega), show 9 - i - 1 = 9 - (i + 1) by omega]]
        exact hk τ3 ⟨hfr, hrr, hf⟩
  · intro k τ ⟨fr, rv1, hf⟩
    rw [if_pos (show F = 0 from hf)]
    dsimp only
    unfold f_X11_toSock_18
    rw [if_pos (show nI (9 - 9) < 1 by decide), show (if ro A X m = 0 then nJ 0 else nJ 0) = nJ 0 by split <;> rfl]
    exact RQ_i fr
theorem cl_spoilt (cv : CV σ 34 A P X) (hx : X 0 ≤ 999) {m : Nat} (hma : m < A 1) : RQ (Fr Ws σ) w u (nI (rr A P (pl A m 0 X) (mq A (X 0)) (A 2)) - nI (rr A P X (mq A (X 0)) (A 2))) (f_X10_spoilt 0 (nI m) (mk σ w u)) := by
  have wa := cv.2.2.2.1
  have hM8 := wa.2.2.1
  unfold f_X10_spoilt
  rw [zg0]
  rw [needMan_f cv hma, Option.bind_some]
  obtain ⟨τ1, f1, c71, c34, e1⟩ := trial_f (w := w) (u := u) cv
  obtain ⟨τ2, ⟨f2, m2⟩, e2⟩ := place_f (w := w) (u := u) c71 (man := m) (c := 0) (by omega) (by omega)
  have c2 := CV_mk c71 f2 m2 (pl_W wa cv.2.2.2.2.1 hma (Or.inl rfl))
  have d2 := CV_o2 c34 (Or.inr rfl) (by omega) f2
  have x0 : pl A m 0 X 0 = X 0 := pl_k (by omega)
  obtain ⟨τ3, f3, e3⟩ := rightRows_f (w := w) (u := u) c2 (n := 0) (by omega)
  rw [rt_0, x0, Nat.add_zero (X 0)] at e3
  obtain ⟨τ4, f4, e4⟩ := rightRows_f (w := w) (u := u) (CV_fr d2 f3) (n := 0) (by omega)
  rw [rt_0, Nat.add_zero] at e4
  rw [zr0_9, Option.bind_some, zr0_8, Option.bind_some, e1, Option.bind_some, zr0_9, Option.bind_some, show f_X3_place 71 (nI m) (-1) (mk τ1 w u) = some (mk τ2 w u) from e2, Option.bind_some, zr0_9, Option.bind_some, show (0 : Int32) = nI 0 from rfl, e3, Option.bind_some]
  dsimp only
  rw [zr0_8, Option.bind_some, e4, Option.bind_some]
  dsimp only
  exact RQ_i (Fr_t (Fr_t (Wm_s f1) (Wm_s f2)) (Fr_t (Wc_s f3) (Wc_s f4)))
theorem re_spoilt (rv : RV σ 0 A P X 0) (hx : X 0 ≤ 999) {m : Nat} (hma : m < A 1) : RQ (fun τ => Fr Wq (s2 σ 118 0 0) τ) w u (nI (rr A P (pl A m 0 X) (mq A (X 0)) (A 2)) - nI (rr A P X (mq A (X 0)) (A 2))) (f_X11_spoilt 118 (nI m) (mk σ w u)) := by
  have t0 : (s2 σ 118 0 0) 118 0 = nI 0 := by rw [s2_at rfl rfl]; rfl
  have rv0 : RV (s2 σ 118 0 0) 0 A P X 0 := RV_F rv (Fr_s (W := fun q k => q = 118 ∧ k = 0) ⟨rfl, rfl⟩) (fun q k e => by omega)
  have tm := rv0.2.1.1.2.1; have tr := rv0.2.1.1.2.2.1; have tb := rv0.2.1.1.1; have hB1 := rv.2.2.2.2.1.1; have hB2 := rv.2.2.2.2.1.2.1; have hM8 := rv.2.2.2.2.1.2.2.1; have hR8 := rv.2.2.2.2.1.2.2.2.1; have hS12 := rv.2.2.2.2.1.2.2.2.2.1; have hT := RV_b rv
  unfold f_X11_spoilt
  rw [zg118, zw118_0, Option.bind_some]
  rw [show f_X11_isMan 118 (nI m) (mk (s2 σ 118 0 0) w u) = some (nI 1, mk (s2 σ 118 0 0) w u) from isMan_1 tm (by omega) hma t0, Option.bind_some]
  dsimp only
  rw [if_neg (show ¬ nI 1 = 0 by decide)]
  obtain ⟨τ1, f1, r33, r0, e1⟩ := tries_V (w := w) (u := u) rv0
  obtain ⟨τ2, f2, e2⟩ := rightOnes_R (w := w) (u := u) r33
  rw [mo_0] at e2
  have r2 := RV_fr r33 f2
  obtain ⟨τ3, ⟨f3, m3⟩, e3⟩ := puts0_R (w := w) (u := u) r2 (man := m) (c := 0) (by omega) (by omega)
  have r3 := RV_mk r2 (Wb_n f3) m3 (pl_W rv.2.2.2.2.1 rv.2.2.2.2.2.1 hma (Or.inl rfl))
  have x0 : pl A m 0 X 0 = X 0 := pl_k (by omega)
  obtain ⟨τ4, f4, e4⟩ := rightOnes_R (w := w) (u := u) r3
  rw [mo_0, x0] at e4
  rw [e1, Option.bind_some, e2, Option.bind_some]
  dsimp only
  rw [show f_X11_puts0 118 33 (nI m) (-1) (mk τ2 w u) = some (mk τ3 w u) from e3, Option.bind_some, e4, Option.bind_some]
  dsimp only
  exact RQ_i (Fr_t (Wb_q f1) (Fr_t (Wr_q f2) (Fr_t (Wb_q f3) (Wr_q f4))))
theorem cl_swap (cv : CV σ 34 A P X) (hx : X 0 ≤ 999) : RQ (Fr Ws σ) w u (nJ (sw1 A P X (A 2)).2) (f_X10_swap 0 (mk σ w u)) := by
  have wa := cv.2.2.2.1
  have wx := cv.2.2.2.2.1
  have hR8 := wa.2.2.2.1
  obtain ⟨τ0, f0, e0⟩ := rightRows_f (w := w) (u := u) cv (n := 0) (by omega)
  rw [rt_0, Nat.add_zero] at e0
  obtain ⟨τ1, f1, c71, c34, e1⟩ := trial_f (w := w) (u := u) (CV_fr cv f0)
  unfold f_X10_swap
  rw [zg0, zr0_8, Option.bind_some, show (0 : Int32) = nI 0 from rfl, e0, Option.bind_some]
  dsimp only
  rw [zr0_9, Option.bind_some, zr0_8, Option.bind_some, e1, Option.bind_some]
  unfold l_X10_swap_24
  refine lp_S (RQ (Fr Ws σ) w u (nJ (sw1 A P X (A 2)).2)) (fun i τ => (0, nI (sw1 A P X i).1, nJ (sw1 A P X i).2, nI i, mk τ w u)) (fun i τ => Fr Ws σ τ ∧ CV τ 71 A P X) (A 2) ?_ ?_ (A 2) 0 _ τ1 (by omega) (by omega) ⟨Fr_t (Wc_s f0) (Wm_s f1), c71⟩
  · intro i hi k τ ⟨fr, cv1⟩ hk
    have a2 : τ 5 2 = nI (A 2) := cv1.2.1.1.2.2.1
    have hs := sw1_le (A := A) (P := P) (X := X) (n := i)
    dsimp only at hk ⊢
    unfold f_X10_swap_24
    rw [zr0_4, Option.bind_some, zi5_2, Option.bind_some, a2, if_neg (nI_ge hi (by omega)), nI_1]
    unfold l_X10_swap_40
    refine lp_S (RQ (Fr Ws σ) w u (nJ (sw1 A P X (A 2)).2)) (fun j τ => (0, nI (sw2 A P X i (sw1 A P X i) j).1, nJ (sw2 A P X i (sw1 A P X i) j).2, nI i, nI (i + 1 + j), mk τ w u)) (fun j τ => Fr Ws σ τ ∧ CV τ 71 A P X) (A 2 - (i + 1)) ?_ ?_ (A 2 - (i + 1)) 0 _ τ (by omega) (by omega) ⟨fr, cv1⟩
    · intro j hj k2 τ2 ⟨fr2, cv2⟩ hk2
      have a2 : τ2 5 2 = nI (A 2) := cv2.2.1.1.2.2.1
      have hs2 := sw2_le (P := P) (X := X) (r := i) (n := j) hs
      obtain ⟨τ3, ⟨f3, m3⟩, e3⟩ := exchange_f (w := w) (u := u) cv2 (r := i) (q := i + 1 + j) (by omega) (by omega)
      have c3 := CV_mk cv2 f3 m3 (xc_W wa wx hi (by omega))
      have x0 : xc i (i + 1 + j) X 0 = X 0 := xc_k (by omega)
      obtain ⟨τ4, f4, e4⟩ := rightRows_f (w := w) (u := u) c3 (n := 0) (by omega)
      rw [rt_0, x0, Nat.add_zero (X 0)] at e4
      obtain ⟨τ5, ⟨f5, m5⟩, e5⟩ := exchange_f (w := w) (u := u) (CV_fr c3 f4) (r := i) (q := i + 1 + j) (by omega) (by omega)
      rw [xc_xc] at m5
      have c5 := CV_mk (CV_fr c3 f4) f5 m5 wx
      have hl := rr_le A P (xc i (i + 1 + j) X) (mq A (X 0)) (A 2)
      have h := hk2 τ5 ⟨Fr_t fr2 (Fr_t (Wm_s f3) (Fr_t (Wc_s f4) (Wm_s f5))), c5⟩
      dsimp only at h ⊢
      rw [sw2_S] at h
      unfold f_X10_swap_40 f_X10_swap_99
      rw [zr0_4, Option.bind_some, zi5_2, Option.bind_some, a2, if_neg (nI_ge (show i + 1 + j < A 2 by omega) (by omega)), zr0_9, Option.bind_some, e3, Option.bind_some, zr0_9, Option.bind_some, show (0 : Int32) = nI 0 from rfl, e4, Option.bind_some]
      dsimp only
      rw [zr0_9, Option.bind_some, e5, Option.bind_some, nI_1]
      by_cases c : rr A P (xc i (i + 1 + j) X) (mq A (X 0)) (A 2) ≤ (sw2 A P X i (sw1 A P X i) j).1
      · rw [if_pos c] at h
        rw [if_pos (nI_le c (by omega))]
        exact h
      · rw [if_neg c, nJ_S] at h
        rw [if_neg (nI_ge (by omega) (by omega)), show (10 : Int32) * nI i = nI (10 * i) from pk_mul 10 i, nI_add]
        exact h
    · intro k2 τ2 ⟨fr2, cv2⟩
      have a2 : τ2 5 2 = nI (A 2) := cv2.2.1.1.2.2.1
      have h := hk τ2 ⟨fr2, cv2⟩
      dsimp only at h ⊢
      unfold f_X10_swap_40 f_X10_swap_105
      rw [zr0_4, Option.bind_some, zi5_2, Option.bind_some, a2, if_pos (nI_le (by omega) (by omega)), nI_1]
      exact h
  · intro k τ ⟨fr, cv1⟩
    have a2 : τ 5 2 = nI (A 2) := cv1.2.1.1.2.2.1
    dsimp only
    unfold f_X10_swap_24
    rw [zr0_4, Option.bind_some, zi5_2, Option.bind_some, a2, if_pos (nI_le (Nat.le_refl _) (by omega))]
    exact RQ_i fr
theorem re_swap (rv : RV σ 0 A P X 0) (hx : X 0 ≤ 999) : RQ (fun τ => Fr Wq (s2 σ 118 0 0) τ) w u (nJ (sw1 A P X (A 2)).2) (f_X11_swap 118 (mk σ w u)) := by
  have t0 : (s2 σ 118 0 0) 118 0 = nI 0 := by rw [s2_at rfl rfl]; rfl
  have rv0 : RV (s2 σ 118 0 0) 0 A P X 0 := RV_F rv (Fr_s (W := fun q k => q = 118 ∧ k = 0) ⟨rfl, rfl⟩) (fun q k e => by omega)
  have tm := rv0.2.1.1.2.1; have tr := rv0.2.1.1.2.2.1; have tb := rv0.2.1.1.1; have hB1 := rv.2.2.2.2.1.1; have hB2 := rv.2.2.2.2.1.2.1; have hM8 := rv.2.2.2.2.1.2.2.1; have hR8 := rv.2.2.2.2.1.2.2.2.1; have hS12 := rv.2.2.2.2.1.2.2.2.2.1; have hT := RV_b rv
  have wa := rv.2.2.2.2.1
  have wx := rv.2.2.2.2.2.1
  obtain ⟨τ1, f1, r33, r0, e1⟩ := tries_V (w := w) (u := u) rv0
  obtain ⟨τ2, f2, e2⟩ := rightOnes_R (w := w) (u := u) r33
  rw [mo_0] at e2
  unfold f_X11_swap
  rw [zg118, zw118_0, Option.bind_some, e1, Option.bind_some, e2, Option.bind_some]
  dsimp only
  unfold l_X11_swap_18
  refine lp_S (RQ (fun τ => Fr Wq (s2 σ 118 0 0) τ) w u (nJ (sw1 A P X (A 2)).2)) (fun i τ => (118, nI (sw1 A P X i).1, nJ (sw1 A P X i).2, nI i, mk τ w u)) (fun i τ => Fr Wq (s2 σ 118 0 0) τ ∧ RV τ 0 A P X 0) (A 2) ?_ ?_ (A 2) 0 _ τ2 (by omega) (by omega) ⟨Fr_t (Wb_q f1) (Wr_q f2), RV_fr r0 f2⟩
  · intro i hi k τ ⟨fr, rv1⟩ hk
    have a2 : τ 118 3 = nI (A 2) := rv1.2.1.1.2.2.1
    have hs := sw1_le (A := A) (P := P) (X := X) (n := i)
    dsimp only at hk ⊢
    unfold f_X11_swap_18
    rw [zi118_3, Option.bind_some, a2, if_neg (nI_ge hi (by omega)), nI_1]
    unfold l_X11_swap_31
    refine lp_S (RQ (fun τ => Fr Wq (s2 σ 118 0 0) τ) w u (nJ (sw1 A P X (A 2)).2)) (fun j τ => (118, nI (sw2 A P X i (sw1 A P X i) j).1, nJ (sw2 A P X i (sw1 A P X i) j).2, nI i, nI (i + 1 + j), mk τ w u)) (fun j τ => Fr Wq (s2 σ 118 0 0) τ ∧ RV τ 0 A P X 0) (A 2 - (i + 1)) ?_ ?_ (A 2 - (i + 1)) 0 _ τ (by omega) (by omega) ⟨fr, rv1⟩
    · intro j hj k2 τ2 ⟨fr2, rv2⟩ hk2
      have a2 : τ2 118 3 = nI (A 2) := rv2.2.1.1.2.2.1
      have hs2 := sw2_le (P := P) (X := X) (r := i) (n := j) hs
      obtain ⟨τ3, f3, r33, r0, e3⟩ := tries_V (w := w) (u := u) rv2
      have d1 := RV_0s r0 (i + 1 + j) (by omega)
      have d2 : (s2 τ3 128 (58 + i) (nI (X (25 + (i + 1 + j))))) 128 (25 + i) = nI (X (25 + i)) := by rw [s2_off (by omega)]; exact RV_0s r0 i (by omega)
      have rr4 : Rr (s2 (s2 τ3 128 (58 + i) (nI (X (25 + (i + 1 + j))))) 128 (58 + (i + 1 + j)) (nI (X (25 + i)))) 33 (xc i (i + 1 + j) X) := Rr_s (Rr_s r33.2.2.1 (k := 25 + i) (by omega)) (k := 25 + (i + 1 + j)) (by omega)
      have f4 : Fr (Wb 33) τ3 (s2 (s2 τ3 128 (58 + i) (nI (X (25 + (i + 1 + j))))) 128 (58 + (i + 1 + j)) (nI (X (25 + i)))) := Fr_st (Fr_s (by unfold Wb; omega)) (by unfold Wb; omega)
      have r4 := RV_mk r33 (Wb_n f4) rr4 (xc_W wa wx hi (by omega))
      have x0 : xc i (i + 1 + j) X 0 = X 0 := xc_k (by omega)
      obtain ⟨τ5, f5, e5⟩ := rightOnes_R (w := w) (u := u) r4
      rw [mo_0, x0] at e5
      have hl := rr_le A P (xc i (i + 1 + j) X) (mq A (X 0)) (A 2)
      have h := hk2 τ5 ⟨Fr_t fr2 (Fr_t (Wb_q f3) (Fr_t (Wb_q f4) (Wr_q f5))), RV_fr (RV_o2 r0 (Wb_n f4)) f5⟩
      dsimp only at h ⊢
      rw [sw2_S] at h
      unfold f_X11_swap_31 f_X11_swap_108
      rw [zi118_3, Option.bind_some, a2, if_neg (nI_ge (show i + 1 + j < A 2 by omega) (by omega)), e3, Option.bind_some, zr118_36, Option.bind_some, Option.bind_some, show (25 : Int32) + nI (i + 1 + j) = nI (25 + (i + 1 + j)) from nI_add 25 _, za128 (by omega), Option.bind_some, d1, show (58 : Int32) + nI i = nI (58 + i) from nI_add 58 i, zb128 (by omega), Option.bind_some, zr118_36, Option.bind_some, Option.bind_some, show (25 : Int32) + nI i = nI (25 + i) from nI_add 25 i, za128 (by omega), Option.bind_some, d2, show (58 : Int32) + nI (i + 1 + j) = nI (58 + (i + 1 + j)) from nI_add 58 _, zb128 (by omega), Option.bind_some, e5, Option.bind_some, nI_1]
      dsimp only
      by_cases c : rr A P (xc i (i + 1 + j) X) (mq A (X 0)) (A 2) ≤ (sw2 A P X i (sw1 A P X i) j).1
      · rw [if_pos c] at h
        rw [if_neg (nI_nlt c (by omega))]
        exact h
      · rw [if_neg c, nJ_S] at h
        rw [if_pos (nI_lt (by omega) (by omega)), show (10 : Int32) * nI i = nI (10 * i) from pk_mul 10 i, nI_add]
        exact h
    · intro k2 τ2 ⟨fr2, rv2⟩
      have a2 : τ2 118 3 = nI (A 2) := rv2.2.1.1.2.2.1
      have h := hk τ2 ⟨fr2, rv2⟩
      dsimp only at h ⊢
      unfold f_X11_swap_31 f_X11_swap_114
      rw [zi118_3, Option.bind_some, a2, if_pos (nI_le (by omega) (by omega)), nI_1]
      exact h
  · intro k τ ⟨fr, rv1⟩
    have a2 : τ 118 3 = nI (A 2) := rv1.2.1.1.2.2.1
    dsimp only
    unfold f_X11_swap_18
    rw [zi118_3, Option.bind_some, a2, if_pos (nI_le (Nat.le_refl _) (by omega))]
    exact RQ_i fr
end OG
