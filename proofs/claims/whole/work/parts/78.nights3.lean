/-! L3: nights, undo, forget, image, restore, see -/
section AS
variable {σ : Nat → Nat → Int32} {w u : Int64} {A X : Nat → Nat} {P : List (Nat × Nat)}
def eo (Y Z : Nat → Nat) : Prop := ∀ k, k < 17 ∨ 25 ≤ k → Y k = Z k
theorem rb_eo {Y Z : Nat → Nat} (h : eo Y Z) : eo (rb A Y) (rb A Z) := by
  intro k hk
  unfold rb
  split
  · rw [h 0 (by omega)]
  · split
    · rw [h _ (Or.inr (by omega))]
    · exact h k hk
theorem it_sh {α : Type} (f : α → α) (a : α) : ∀ n, it (fun _ x => f x) a (n + 1) = it (fun _ x => f x) (f a) n := by
  intro n
  induction n with
  | zero => rfl
  | succ n ih => rw [it_S, ih, it_S]
theorem rbn_eo {Y Z : Nat → Nat} (h : eo Y Z) : ∀ n, eo (it (fun _ x => rb A x) Y n) (it (fun _ x => rb A x) Z n) := by
  intro n
  induction n with
  | zero => exact h
  | succ n ih => rw [it_S, it_S]; exact rb_eo ih
theorem ny_back {wf : Nat → Nat} : ∀ n, eo (it (fun _ x => rb A x) (ny A P wf X n) n) X := by
  intro n
  induction n with
  | zero => exact fun _ _ => rfl
  | succ n ih =>
    rw [it_sh, ny_S]
    have h1 : eo (rb A (ng A P (wf n) (ny A P wf X n))) (ny A P wf X n) := by
      unfold ng
      rw [rb_rt]
      intro k hk
      exact hu_k hk
    intro k hk
    rw [rbn_eo h1 n k hk]
    exact ih k hk
theorem ag_nights (x0 : Int32) : Ag0 (fun h => f_X10_nights 0 x0 h) (fun h => f_X11_nights 118 x0 h) := by
  intro σ w u iv
  have iv0 := iv
  obtain ⟨A, P, X, cv, rv, ⟨N, K, O, U, S, ca, ra, hN, okA⟩, is0, ik, it0⟩ := iv
  have hx := okA.1
  have wx := cv.2.2.2.2.1
  have wa := cv.2.2.2.1
  have refu : f_X10_nights 0 x0 (mk σ w u) = f_X10_nights_26 0 (mk σ w u) → (∀ τ, RV (s2 τ 118 0 0) 0 A P X 0 → f_X11_nights 118 x0 (mk τ w u) = f_X11_nights_29 118 (mk (s2 τ 118 0 0) w u)) → ∃ v τ w' h1, IV τ ∧ f_X10_nights 0 x0 (mk σ w u) = some (v, h1) ∧ f_X11_nights 118 x0 h1 = some (v, mk τ w' u) := fun h1 h2 => by
    have r1 : RV (s2 (s2 σ 4 1 (σ 4 1 + 1)) 118 0 0) 0 A P X 0 := RV_F rv (Fr_st (Fr_s (W := fun q k => q = 4 ∨ (q = 118 ∧ k = 0)) (Or.inl rfl)) (Or.inr ⟨rfl, rfl⟩)) (fun q k e => by omega)
    refine ⟨-1, _, w, mk (s2 σ 4 1 (σ 4 1 + 1)) w u, IV_refuse iv0 (i := 1) (by omega), ?_, ?_⟩
    · rw [h1]
      unfold f_X10_nights_26
      rw [show f_X10_refuse 0 1 (mk σ w u) = some (mk (s2 σ 4 1 (σ 4 1 + 1)) w u) from refuse_f (i := 1) (by omega), Option.bind_some]
    · rw [h2 _ r1]
      unfold f_X11_nights_29
      rw [show f_X11_refuses 118 1 (mk (s2 (s2 σ 4 1 (σ 4 1 + 1)) 118 0 0) w u) = some (-1, mk (s2 (s2 (s2 σ 4 1 (σ 4 1 + 1)) 118 0 0) 122 1 ((s2 (s2 σ 4 1 (σ 4 1 + 1)) 118 0 0) 122 1 + 1)) w u) from refuses_R (i := 1) (by omega), Option.bind_some, s2_off (by omega), s2_off (by omega)]
  rcases arg_w x0 (a := 1) (b := 20) (by decide) (by decide) with ⟨n, h1_n, h_n, rfl⟩ | b0
  · have c1 : ¬ nI n < 1 := nI_nlt (a := n) (b := 1) h1_n (by omega)
    have c2 : ¬ (20 : Int32) < nI n := nI_nlt (a := 20) (b := n) h_n (by omega)
    have e0 : σ 34 1 = nI (X 0) := cv.2.2.1.1
    have hre : ∀ τ U9, RV (s2 τ 118 0 0) 0 A P X 0 → f_X11_nights 118 (nI n) (mk τ w U9) = (if nI (X 0) + nI n ≤ 999 then ((f_X11_keeps 118 (mk (s2 τ 118 0 0) w U9)).bind fun r5 => l_X11_nights_41 118 (nI n) 0 r5) else (f_X11_nights_29 118 (mk (s2 τ 118 0 0) w U9))) := fun τ U9 r0 => by
      unfold f_X11_nights
      rw [zg118, zw118_0, Option.bind_some, show f_X11_within (nI n) 1 20 (mk (s2 τ 118 0 0) w U9) = some (nI 1, mk (s2 τ 118 0 0) w U9) from within_1 (a := 1) (b := 20) h1_n h_n (by decide) _, Option.bind_some]
      dsimp only
      rw [if_neg (show ¬ nI 1 = 0 by decide), zr118_36, Option.bind_some, show rd_A (mk (s2 τ 118 0 0) w U9) 0 128 0 = some ((s2 τ 118 0 0) 128 0) from za128 (i := 0) (by decide), Option.bind_some, RV_0 r0]
    by_cases c3 : X 0 + n ≤ 999
    · have hle : nI (X 0) + nI n ≤ 999 := by rw [nI_add]; exact nI_le (b := 999) c3 (by decide)
      have hY0 := ny_0 (A := A) (P := P) (wf := wfn A X) (X := X) n
      have wY := ny_W (P := P) (wf := wfn A X) wa wx n (by omega)
      have ok2 : OkA A (ny A P (wfn A X) X n) (nN N + 1) (pu N K 0) (pu N O n) (pu N U 0) (pu N S X) := OkA_push okA ca.1 wx (by rw [hY0]; exact c3) (Or.inl ⟨rfl, h_n, by rw [hY0]; omega, rfl⟩) (fun j hj => by
        unfold bk
        rw [if_pos rfl]
        split
        · rfl
        · exact ny_back n j (by omega))
      have hc : RQ (CM σ (ny A P (wfn A X) X n) (nN N + 1) (pu N K 0) (pu N O n) (pu N U 0) (pu N S X)) w u (nI (X 0 + n)) (f_X10_nights 0 (nI n) (mk σ w u)) := by
        unfold f_X10_nights
        rw [zg0, if_neg c1, if_neg c2, zr0_8, Option.bind_some, zi34_1, Option.bind_some, e0, if_pos hle, zr0_5, Option.bind_some, zr15_1, Option.bind_some, Option.bind_some, show f_X0_keep 16 0 (nI n) 0 34 (mk σ w u) = f_X0_keep 16 (nI 0) (nI n) (tw 0 0) 34 (mk σ w u) from rfl]
        obtain ⟨τ1, ⟨f1, a1⟩, e1⟩ := keep_f (w := w) (u := u) isAc_16 cv (by omega) ca (kd := 0) (on := n) (two := 0)
        rw [e1, Option.bind_some]
        have cv1 : CV τ1 34 A P X := CV_F cv f1 (fun q k e => by unfold Wa at e; omega)
        unfold l_X10_nights_52
        refine lp_S (RQ (CM σ (ny A P (wfn A X) X n) (nN N + 1) (pu N K 0) (pu N O n) (pu N U 0) (pu N S X)) w u (nI (X 0 + n))) (fun i τ => (0, nI n, nI i, mk τ w u)) (fun i τ => Fr (Wm 34) τ1 τ ∧ CV τ 34 A P (ny A P (wfn A X) X i)) n ?_ ?_ n 0 _ τ1 (by omega) (by omega) ⟨Fr_r _ _, cv1⟩
        · intro i hi k τ ⟨fr, c4⟩ hk
          have h0 := ny_0 (A := A) (P := P) (wf := wfn A X) (X := X) i
          obtain ⟨τ2, ⟨f2, m2⟩, e2⟩ := goBy_f (w := w) (u := u) c4 (by omega)
          rw [h0] at m2
          have h := hk τ2 ⟨Fr_t fr f2, CV_mk c4 f2 m2 (ny_W (P := P) (wf := wfn A X) wa wx (i + 1) (by omega))⟩
          dsimp only at h ⊢
          unfold f_X10_nights_52
          rw [if_neg (nI_ge hi (by omega)), zr0_8, Option.bind_some, e2, Option.bind_some, nI_1]
          exact h
        · intro k τ ⟨fr, c4⟩
          dsimp only
          unfold f_X10_nights_52 f_X10_nights_70
          rw [if_pos (nI_le (Nat.le_refl _) (by omega)), zr0_8, Option.bind_some, zi34_1, Option.bind_some, c4.2.2.1.1, hY0]
          exact ⟨τ, ⟨Fr_t (Fr_m f1 (fun q k e => Or.inr e)) (Fr_m fr (fun q k e => Or.inl e)), c4.2.2.1, CA_F a1 fr (fun q k e => by unfold Wm at e; unfold Wa; omega)⟩, rfl⟩
      obtain ⟨τ1, cm, e1⟩ := hc
      obtain ⟨r0, t1, n1, a1⟩ := CM_r rv hN ra cm
      have hr : RQ (RM (s2 τ1 118 0 0) (ny A P (wfn A X) X n) (nN N + 1) (pu N S X)) w u (nI (X 0 + n)) (f_X11_nights 118 (nI n) (mk τ1 w u)) := by
        obtain ⟨τ2, f2, r2, a2, n2, e2⟩ := act_R (w := w) (u := u) r0 n1 a1
        rw [hre _ _ r0, if_pos hle, e2, Option.bind_some]
        unfold l_X11_nights_41
        refine lp_S (RQ (RM (s2 τ1 118 0 0) (ny A P (wfn A X) X n) (nN N + 1) (pu N S X)) w u (nI (X 0 + n))) (fun i τ => (118, nI n, nI i, mk τ w u)) (fun i τ => Fr (Wn 0) τ2 τ ∧ RV τ 0 A P (ny A P (wfn A X) X i) 0) n ?_ ?_ n 0 _ τ2 (by omega) (by omega) ⟨Fr_r _ _, r2⟩
        · intro i hi k τ ⟨fr, c4⟩ hk
          have h0 := ny_0 (A := A) (P := P) (wf := wfn A X) (X := X) i
          obtain ⟨τ3, f3, r3, -, -, -, e3⟩ := nightV (w := w) (u := u) c4 (by omega)
          rw [mo_0, h0] at r3
          have h := hk τ3 ⟨Fr_t fr f3, r3⟩
          dsimp only at h ⊢
          unfold f_X11_nights_41
          rw [if_neg (nI_ge hi (by omega)), show f_X11_nightGoes 118 0 (mk τ w u) = some (mk τ3 w u) from e3, Option.bind_some, nI_1]
          exact h
        · intro k τ ⟨fr, c4⟩
          dsimp only
          unfold f_X11_nights_41 f_X11_nights_57
          rw [if_pos (nI_le (Nat.le_refl _) (by omega)), zr118_36, Option.bind_some, show rd_A (mk τ w u) 0 128 0 = some (τ 128 0) from za128 (i := 0) (by decide), Option.bind_some, RV_0 c4, hY0]
          refine ⟨τ, ⟨Fr_t f2 (Fr_m fr (fun q k e => by unfold Wre Wq; unfold Wn at e; omega)), c4.2.2.1, RAc_F a2 fr (fun k e => by unfold Wn at e; omega), by rw [fr 118 38 (by unfold Wn; omega)]; exact n2⟩, rfl⟩
      obtain ⟨τ2, rm, e2⟩ := hr
      exact ⟨_, τ2, w, _, IV_act cv rv is0 ik it0 cm rm ok2 wY, e1, e2⟩
    · have hle : ¬ nI (X 0) + nI n ≤ 999 := by rw [nI_add]; exact nI_ge (a := 999) (by omega) (by omega)
      refine refu ?_ (fun τ r0 => ?_)
      · unfold f_X10_nights
        rw [zg0, if_neg c1, if_neg c2, zr0_8, Option.bind_some, zi34_1, Option.bind_some, e0, if_neg hle]
      · rw [hre _ _ r0, if_neg hle]
  · refine refu ?_ (fun τ r0 => ?_)
    · unfold f_X10_nights
      rw [zg0]
      by_cases c : x0 < 1
      · rw [if_pos c]
      · rw [if_neg c, if_pos (by rcases b0 with b | b; exact absurd b c; exact b.2.2)]
    · unfold f_X11_nights
      rw [zg118, zw118_0, Option.bind_some, show f_X11_within x0 1 20 (mk (s2 τ 118 0 0) w u) = some (nI 0, mk (s2 τ 118 0 0) w u) from within_0 (a := 1) (b := 20) b0 _, Option.bind_some]
      dsimp only
      rw [if_pos (show nI 0 = 0 from rfl)]
theorem ag_undo : Ag0 (fun h => f_X10_undo 0 h) (fun h => f_X11_undo 118 h) := by
  intro σ w u iv
  have iv0 := iv
  obtain ⟨A, P, X, cv, rv, ⟨N, K, O, U, S, ca, ra, hN, okA⟩, is0, ik, it0⟩ := iv
  have hx := okA.1
  have hN40 := ca.1
  cases N with
  | zero =>
    refine Ag0_ok iv0 (V := -1) ⟨σ, Fr_r _ _, ?_⟩ (fun τ fr => ⟨s2 τ 118 0 0, Fr_r _ _, ?_⟩)
    · show f_X10_undo 0 _ = _
      unfold f_X10_undo f_X10_undo_31
      rw [zg0, zr0_5, Option.bind_some, zr15_1, Option.bind_some, zi16_4, Option.bind_some, ca.2.1, if_pos (show nI 0 = 0 from rfl)]
    · show f_X11_undo 118 _ = _
      unfold f_X11_undo
      rw [zg118, zw118_0, Option.bind_some, zi118_38, Option.bind_some, s2_off (by omega), fr 118 38 (by unfold Ws; omega), hN, if_pos (show nI 0 = 0 from rfl)]
  | succ N =>
    obtain ⟨wS, hS0, hk, hb⟩ := okA.2 N (by omega)
    have enx : nx (N + 1) S X N = X := by unfold nx; rw [if_pos rfl]
    rw [enx] at hk hb
    obtain ⟨τ1, ⟨f1, m1, n1⟩, e1⟩ := takeBack_f (w := w) (u := u) isAc_16 cv (by omega) ca hk (by omega)
    have m2 : Mv τ1 34 (S N) := Mv_c m1 hb
    have a1 : CA τ1 16 N K O U S := by
      refine ⟨by omega, n1, fun k hk2 => ?_⟩
      obtain ⟨g1, g2, g3, g4⟩ := ca.2.2 k (by omega)
      have gg : ∀ q j, q = 18 ∨ q = 20 ∨ q = 22 ∨ q = 24 → τ1 q j = σ q j := fun q j h => f1 q j (by unfold Wk Wm; omega)
      refine ⟨by rw [gg _ _ (by omega)]; exact g1, by rw [gg _ _ (by omega)]; exact g2, by rw [gg _ _ (by omega)]; exact g3, fun j hj => by rw [gg _ _ (by omega)]; exact g4 j hj⟩
    have cm : CM σ (S N) N K O U S τ1 := ⟨Fr_m f1 (fun q k e => by rcases e with e | e; exact Or.inl e; exact Or.inr (Or.inl e.1)), m2, a1⟩
    have n3 : τ1 118 38 = nI (N + 1) := by rw [f1 118 38 (by unfold Wk Wm; omega)]; exact hN
    have ra1 : RAc τ1 129 (N + 1) S := RAc_F ra f1 (fun k e => by unfold Wk Wm at e; omega)
    obtain ⟨τ2, ⟨f2, n2, t2, r2⟩, e2⟩ := undo_R (w := w) (u := u) n3 ra1
    have ra2 : RAc τ2 129 N S := by
      have h := RAc_F ra1 f2 (fun k e => by unfold Wru at e; omega)
      exact ⟨by omega, fun k hk2 j hj => h.2 k (by omega) j hj⟩
    have rm : RM (s2 τ1 118 0 0) (S N) N S τ2 := by
      refine ⟨fun q k hw => ?_, r2, ra2, n2⟩
      by_cases e : q = 118 ∧ k = 0
      · rw [e.1, e.2, t2, s2_at rfl rfl]
      · rw [f2 q k (fun e2 => hw (by unfold Wre Wq Wra; unfold Wru at e2; omega)), s2_off e]
    have ok2 : OkA A (S N) N K O U S := ⟨hS0, fun k hk2 => by
      have h := okA.2 k (by omega)
      have e : nx N S (S N) k = nx (N + 1) S X k := by
        unfold nx
        rw [if_neg (show ¬ k + 1 = N + 1 by omega)]
        split
        · next h2 => rw [h2]
        · rfl
      rw [e]
      exact h⟩
    refine ⟨nI N, τ2, w, mk τ1 w u, IV_act cv rv is0 ik it0 cm rm ok2 wS, ?_, e2⟩
    show f_X10_undo 0 _ = _
    unfold f_X10_undo f_X10_undo_31
    rw [zg0, zr0_5, Option.bind_some, zr15_1, Option.bind_some, zi16_4, Option.bind_some, ca.2.1, if_neg (nI_ne0 (by omega) (by omega)), Option.bind_some, zr15_1, Option.bind_some, zr0_8, Option.bind_some, e1, Option.bind_some]
theorem ag_forget : AgN (fun h => f_X10_forget 0 h) (fun h => f_X11_forget 118 h) := by
  intro σ w u iv
  obtain ⟨A, P, X, h1, h2, h3, ⟨M, s, cs, rs, hMs, okS⟩, h5, h6⟩ := iv
  have fr : Fr (fun q k => (q = 25 ∧ k = 4) ∨ (q = 118 ∧ (k = 0 ∨ k = 45))) σ (s2 (s2 (s2 σ 25 4 0) 118 0 0) 118 45 0) := Fr_st (Fr_st (Fr_s (Or.inl ⟨rfl, rfl⟩)) (Or.inr ⟨rfl, Or.inl rfl⟩)) (Or.inr ⟨rfl, Or.inr rfl⟩)
  refine ⟨s2 (s2 (s2 σ 25 4 0) 118 0 0) 118 45 0, w, mk (s2 σ 25 4 0) w u, ⟨A, P, X, CV_F h1 fr (fun q k e => by omega), RV_F h2 fr (fun q k e => by omega), IA_F h3 fr (fun q k e => by unfold Wa; omega), ⟨0, s, ⟨by omega, by rw [s2_off (by omega), s2_off (by omega), s2_at rfl rfl]; rfl, fun i hi => by omega⟩, ⟨by omega, fun i hi => by omega⟩, by rw [s2_at rfl rfl]; rfl, fun i hi => by omega⟩, IK_F h5 fr (fun q k e => by unfold Wst Wm Wa; omega), IT_F h6 fr (fun q k e => by omega)⟩, ?_, ?_⟩
  · show f_X10_forget 0 _ = _
    unfold f_X10_forget
    rw [zg0, zr0_5, Option.bind_some, zr15_2, Option.bind_some, zw25_4, Option.bind_some]
  · show f_X11_forget 118 _ = _
    unfold f_X11_forget
    rw [zg118, zw118_0, Option.bind_some, zw118_45, Option.bind_some]
end AS
