/-! L3: heel, loud, change -/
section AQ
variable {w u : Int64}
theorem ag_heel (x0 x1 : Int32) : Ag (fun h => e_L_heel 0 x0 x1 138 h) (fun h => f_L_heel 0 x0 x1 138 h) (fun h => f_X11_heel 118 x0 x1 h) := by
  intro σ w u iv
  have iv0 := iv
  obtain ⟨A, P, X, cv, rv, ⟨N, K, O, U, S, ca, ra, hN, okA⟩, is0, ik, it0⟩ := iv
  have hx := okA.1
  have wx := cv.2.2.2.2.1
  have t0 : (s2 σ 118 0 0) 118 0 = nI 0 := by rw [s2_at rfl rfl]; rfl
  have rv0 : RV (s2 σ 118 0 0) 0 A P X 0 := RV_F rv (Fr_s (W := fun q k => q = 118 ∧ k = 0) ⟨rfl, rfl⟩) (fun q k e => by omega)
  have tm := rv0.2.1.1.2.1; have tr := rv0.2.1.1.2.2.1; have tb := rv0.2.1.1.1; have hB1 := rv.2.2.2.2.1.1; have hB2 := rv.2.2.2.2.1.2.1; have hM8 := rv.2.2.2.2.1.2.2.1; have hR8 := rv.2.2.2.2.1.2.2.2.1; have hS12 := rv.2.2.2.2.1.2.2.2.2.1; have hT := RV_b rv
  rcases arg_d x0 (n := A 1) (by omega) with ⟨m, h_m, rfl⟩ | b0
  · rcases arg_d x1 (n := A 0) (by omega) with ⟨b, h_b, rfl⟩ | b1
    · have hm8 : m < 8 := by omega
      refine Ag_act (V := nI (X (1 + m) ^^^ 2 ^ b)) (Y := th m b X) (F := f_X10_heel 0 (nI m) (nI b) (mk σ w u)) cv rv is0 ik it0 ?_ hf_std (K := pu N K 2) (O := pu N O m) (U := pu N U b) (N := nN N + 1) (S := pu N S X) ?_ (fun τ cm => ?_) (OkA_push okA ca.1 wx (by rw [th_z]; exact hx) (Or.inr (Or.inr (Or.inl ⟨rfl, h_m, h_b⟩))) (fun j hj => ?_)) (th_W wx hm8 h_b)
      · show e_L_heel 0 (nI m) (nI b) 138 (mk σ w u) = none
        unfold e_L_heel g_X10_heel
        rw [zg0, needMan_g cv h_m, needMan_f cv h_m, xb_n, needBeat_g cv h_b, needBeat_f cv h_b, xb_n]
        rfl
      · have h := act_C (w := w) (u := u) (V := nI (X (1 + m) ^^^ 2 ^ b)) (Y := th m b X) cv ca (kd := 2) (on := m) (two := b) (G := fun x => x.bind fun r8 => (rd_R r8 0 10 8).bind fun v9 => (rd_R r8 v9 3 2).bind fun v10 => (f_X2_at v10 (nI m) r8).bind fun r11 => some (r11.1, r11.2)) (g := fun r6 => f_X3_turnHeel 34 (nI m) (nI b) r6) (fun τ c => turnHeel_f c hm8 (by omega)) (fun τ fr mv => by
          rw [Option.bind_some, zr0_8, Option.bind_some, M_t isM_34, Option.bind_some, M_tt isM_34 hm8, Option.bind_some, (mv.2 m hm8).1]
          unfold th
          rw [un_at rfl])
        obtain ⟨τ, c1, e1⟩ := h
        refine ⟨τ, c1, ?_⟩
        rw [← e1]
        unfold f_X10_heel
        rw [zg0, needMan_f cv h_m, Option.bind_some, needBeat_f cv h_b, Option.bind_some, zr0_5, Option.bind_some, zr15_1, Option.bind_some, zr0_8, Option.bind_some, show (2 : Int32) = nI 2 from rfl, show nI b = tw 2 b from by unfold tw; rw [if_neg (by omega)]]
        obtain ⟨τ1, ⟨f1, a1⟩, e2⟩ := keep_f (w := w) (u := u) isAc_16 cv (by omega) ca (kd := 2) (on := m) (two := b)
        rw [e2, Option.bind_some, Option.bind_some, zr0_8, Option.bind_some]
      · have r0 : RV (s2 τ 118 0 0) 0 A P X 0 := RV_F rv (Fr_t (Fr_m cm.1 (fun q k e => Or.inl e)) (Fr_s (W := fun q k => Wcl q k ∨ (q = 118 ∧ k = 0)) (Or.inr ⟨rfl, rfl⟩))) (fun q k e => by unfold Wcl Wm Wa at e; omega)
        have t1 : (s2 τ 118 0 0) 118 0 = nI 0 := by rw [s2_at rfl rfl]; rfl
        have n1 : (s2 τ 118 0 0) 118 38 = nI N := by rw [s2_off (by omega), cm.1 118 38 (by unfold Wcl Wm Wa; omega)]; exact hN
        have a1 : RAc (s2 τ 118 0 0) 129 N S := RAc_F ra (Fr_t (Fr_m cm.1 (fun q k e => Or.inl e)) (Fr_s (W := fun q k => Wcl q k ∨ (q = 118 ∧ k = 0)) (Or.inr ⟨rfl, rfl⟩))) (fun k e => by unfold Wcl Wm Wa at e; omega)
        obtain ⟨τ2, f2, r2, a2, n2, e2⟩ := act_R (w := w) (u := (nI (X (1 + m) ^^^ 2 ^ b)).toInt64) r0 n1 a1
        have eT := RV_0t r2 m hm8
        have f3 : Fr (fun q k => q = 128 ∧ k < 33) τ2 (s2 τ2 128 (1 + m) (nI (X (1 + m) ^^^ 2 ^ b))) := Fr_s ⟨rfl, by omega⟩
        refine ⟨_, RM_mk f2 a2 n2 f3 (Rr_s r2.2.2.1 (k := 1 + m) (by omega)), ?_⟩
        show f_X11_heel 118 (nI m) (nI b) _ = _
        unfold f_X11_heel f_X11_heel_31
        rw [zg118, zw118_0, Option.bind_some, isMan_1 r0.2.1.1.2.1 (by omega) h_m t1, Option.bind_some]
        dsimp only
        rw [if_neg (show ¬ nI 1 = 0 by decide), if_neg (nI_pos (by omega)), zi118_1, Option.bind_some, r0.2.1.1.1, if_neg (nI_ge h_b (by omega)), show (1 : Int32) = nI 1 from rfl, right_1 t1, Option.bind_some]
        dsimp only
        rw [if_neg (show ¬ nI 1 = 0 by decide), e2, Option.bind_some, zr118_36, Option.bind_some, nI_add, za128 (by omega), Option.bind_some, eT, x_one (by omega), x_xor, zb128 (by omega), Option.bind_some, zr118_36, Option.bind_some, za128 (by omega), Option.bind_some, s2_at rfl rfl]
      · unfold bk
        rw [if_neg (by omega), if_neg (by omega), if_pos rfl, th_th]
    · refine Ag_bad (c := nI 1) (v := 0) iv0 (by decide) ?_ ?_
      · unfold e_L_heel g_X10_heel
        rw [zg0, needMan_g cv h_m, needMan_f cv h_m, xb_n, needBeat_b cv b1, xb_s, Option.bind_some, hx_0, show (1 : Int32) = nI 1 from rfl]
      · have k1 : f_X11_heel_30 118 (nI m) x1 118 (mk (s2 σ 118 0 0) w u) = some (0, mk (s2 (s2 σ 118 0 0) 118 0 (nI 1)) w u) := by
          unfold f_X11_heel_30 f_X11_heel_31
          rw [show f_X11_right 118 0 1 (mk (s2 σ 118 0 0) w u) = some (nI 0, mk (s2 (s2 σ 118 0 0) 118 0 (nI 1)) w u) from right_0 (c := 1) (by omega) t0, Option.bind_some]
          dsimp only
          rw [if_pos (show nI 0 = 0 from rfl)]
          rfl
        unfold f_X11_heel
        rw [zg118, zw118_0, Option.bind_some, isMan_1 tm (by omega) h_m t0, Option.bind_some]
        dsimp only
        rw [if_neg (show ¬ nI 1 = 0 by decide)]
        by_cases c : x1 < 0
        · rw [if_pos c]; exact k1
        · rw [if_neg c, zi118_1, Option.bind_some, tb, if_pos (by rcases b1 with b | b; exact absurd b c; exact b)]
          exact k1
  · refine Ag_bad (c := nI 1) (v := 0) iv0 (by decide) ?_ ?_
    · unfold e_L_heel g_X10_heel
      rw [zg0, needMan_b cv b0, xb_s, Option.bind_some, hx_0, show (1 : Int32) = nI 1 from rfl]
    · unfold f_X11_heel
      rw [zg118, zw118_0, Option.bind_some, isMan_0 tm b0 t0, Option.bind_some]
      dsimp only
      rw [if_pos (show nI 0 = 0 from rfl)]
      rfl
theorem CM_r {σ τ : Nat → Nat → Int32} {A X Y : Nat → Nat} {P : List (Nat × Nat)} {N N' : Nat} {K O U : Nat → Nat} {S S' : Nat → Nat → Nat} (rv : RV σ 0 A P X 0) (hN : σ 118 38 = nI N) (ra : RAc σ 129 N S) (cm : CM σ Y N' K O U S' τ) : RV (s2 τ 118 0 0) 0 A P X 0 ∧ (s2 τ 118 0 0) 118 0 = nI 0 ∧ (s2 τ 118 0 0) 118 38 = nI N ∧ RAc (s2 τ 118 0 0) 129 N S := by
  have fr : Fr (fun q k => Wcl q k ∨ (q = 118 ∧ k = 0)) σ (s2 τ 118 0 0) := Fr_t (Fr_m cm.1 (fun q k e => Or.inl e)) (Fr_s (Or.inr ⟨rfl, rfl⟩))
  exact ⟨RV_F rv fr (fun q k e => by unfold Wcl Wm Wa at e; omega), by rw [s2_at rfl rfl]; rfl, by rw [s2_off (by omega), cm.1 118 38 (by unfold Wcl Wm Wa; omega)]; exact hN, RAc_F ra fr (fun k e => by unfold Wcl Wm Wa at e; omega)⟩
theorem ag_loud (x0 x1 : Int32) : Ag (fun h => e_L_loud 0 x0 x1 138 h) (fun h => f_L_loud 0 x0 x1 138 h) (fun h => f_X11_loud 118 x0 x1 h) := by
  intro σ w u iv
  have iv0 := iv
  obtain ⟨A, P, X, cv, rv, ⟨N, K, O, U, S, ca, ra, hN, okA⟩, is0, ik, it0⟩ := iv
  have hx := okA.1
  have wx := cv.2.2.2.2.1
  have t0 : (s2 σ 118 0 0) 118 0 = nI 0 := by rw [s2_at rfl rfl]; rfl
  have rv0 : RV (s2 σ 118 0 0) 0 A P X 0 := RV_F rv (Fr_s (W := fun q k => q = 118 ∧ k = 0) ⟨rfl, rfl⟩) (fun q k e => by omega)
  have tm := rv0.2.1.1.2.1; have tr := rv0.2.1.1.2.2.1; have tb := rv0.2.1.1.1; have hB1 := rv.2.2.2.2.1.1; have hB2 := rv.2.2.2.2.1.2.1; have hM8 := rv.2.2.2.2.1.2.2.1; have hR8 := rv.2.2.2.2.1.2.2.2.1; have hS12 := rv.2.2.2.2.1.2.2.2.2.1; have hT := RV_b rv
  rcases arg_d x0 (n := A 1) (by omega) with ⟨m, h_m, rfl⟩ | b0
  · have hm8 : m < 8 := by omega
    have ge : e_L_loud 0 (nI m) x1 138 (mk σ w u) = none := by
      unfold e_L_loud g_X10_loud
      rw [zg0, needMan_g cv h_m, needMan_f cv h_m, xb_n]
      rfl
    rcases arg_w x1 (a := 1) (b := 9) (by decide) (by decide) with ⟨a, h1_a, h_a, rfl⟩ | b1
    · have hl9 := (CV_b cv m hm8).2.1
      refine Ag_act (V := nI (X (9 + m))) (Y := un X (9 + m) a) (F := f_X10_loud 0 (nI m) (nI a) (mk σ w u)) cv rv is0 ik it0 ge hf_std (K := pu N K 3) (O := pu N O m) (U := pu N U (X (9 + m))) (N := nN N + 1) (S := pu N S X) ?_ (fun τ cm => ?_) (OkA_push okA ca.1 wx (by rw [un_off (by omega)]; exact hx) (Or.inr (Or.inr (Or.inr (Or.inl ⟨rfl, h_m, hl9⟩)))) (fun j hj => ?_)) (WX_l wx hm8 h_a)
      · have h := act_C (w := w) (u := u) (V := nI (X (9 + m))) (Y := un X (9 + m) a) cv ca (kd := 3) (on := m) (two := X (9 + m)) (G := fun x => x.bind fun r11 => some (nI (X (9 + m)), r11)) (g := fun r8 => f_X2_set (34 + 3) (nI m) (nI a) r8) (fun τ c => setLoud_f c hm8) (fun τ fr mv => by rw [Option.bind_some])
        obtain ⟨τ, c1, e1⟩ := h
        refine ⟨τ, c1, ?_⟩
        rw [← e1]
        unfold f_X10_loud
        rw [zg0, needMan_f cv h_m, Option.bind_some, if_neg (show ¬ nI a < 1 from nI_nlt (a := a) (b := 1) h1_a (by omega)), if_pos (show nI a ≤ 9 from nI_le (b := 9) h_a (by decide)), zr0_8, Option.bind_some, M_l isM_34, Option.bind_some, M_tl isM_34 hm8, Option.bind_some]
        dsimp only
        rw [zr0_5, Option.bind_some, zr15_1, Option.bind_some, zr0_8, Option.bind_some, CV_l cv m hm8, show (3 : Int32) = nI 3 from rfl, show f_X0_keep 16 (nI 3) (nI m) (nI (X (9 + m))) 34 (mk σ w u) = f_X0_keep 16 (nI 3) (nI m) (tw 3 (X (9 + m))) 34 (mk σ w u) from by unfold tw; rw [if_neg (by omega)]]
        obtain ⟨τ1, ⟨f1, a1⟩, e2⟩ := keep_f (w := w) (u := u) isAc_16 cv (by omega) ca (kd := 3) (on := m) (two := X (9 + m))
        rw [e2, Option.bind_some, Option.bind_some, zr0_8, Option.bind_some, M_l isM_34, Option.bind_some]
      · obtain ⟨r0, t1, n1, a1⟩ := CM_r rv hN ra cm
        obtain ⟨τ2, f2, r2, a2, n2, e2⟩ := act_R (w := w) (u := (nI (X (9 + m))).toInt64) r0 n1 a1
        have eT := RV_0l r2 m hm8
        have f3 : Fr (fun q k => q = 128 ∧ k < 33) τ2 (s2 τ2 128 (9 + m) (nI a)) := Fr_s ⟨rfl, by omega⟩
        refine ⟨_, RM_mk f2 a2 n2 f3 (Rr_s r2.2.2.1 (k := 9 + m) (by omega)), ?_⟩
        show f_X11_loud 118 (nI m) (nI a) _ = _
        unfold f_X11_loud
        rw [zg118, zw118_0, Option.bind_some, isMan_1 r0.2.1.1.2.1 (by omega) h_m t1, Option.bind_some]
        dsimp only
        rw [if_neg (show ¬ nI 1 = 0 by decide), show f_X11_within (nI a) 1 9 (mk (s2 τ 118 0 0) w (nI (X (9 + m))).toInt64) = some (nI 1, mk (s2 τ 118 0 0) w (nI (X (9 + m))).toInt64) from within_1 (a := 1) (b := 9) h1_a h_a (by decide) _, Option.bind_some]
        dsimp only
        rw [if_neg (show ¬ nI 1 = 0 by decide), e2, Option.bind_some, zr118_36, Option.bind_some, show (9 : Int32) + nI m = nI (9 + m) from nI_add 9 m, za128 (by omega), Option.bind_some, eT, Option.bind_some, zb128 (by omega), Option.bind_some]
      · unfold bk
        rw [if_neg (by omega), if_neg (by omega), if_neg (by omega), if_pos rfl, un_un]
        unfold un
        split
        · next h => rw [h]
        · rfl
    · refine Ag_ref iv0 (i := 1) (V := -1) (by omega) ge ?_ ?_
      · have e1 : f_X10_loud 0 (nI m) x1 (mk σ w u) = some (-1, mk (s2 σ 4 1 (σ 4 1 + 1)) w u) := by
          have k1 : f_X10_loud_16 0 (mk σ w u) = some (-1, mk (s2 σ 4 1 (σ 4 1 + 1)) w u) := by
            unfold f_X10_loud_16
            rw [show f_X10_refuse 0 1 (mk σ w u) = some (mk (s2 σ 4 1 (σ 4 1 + 1)) w u) from refuse_f (i := 1) (by omega), Option.bind_some]
          unfold f_X10_loud
          rw [zg0, needMan_f cv h_m, Option.bind_some]
          by_cases c : x1 < 1
          · rw [if_pos c]; exact k1
          · rw [if_neg c, if_neg (by rcases b1 with b | b; exact absurd b c; exact b.2.1)]; exact k1
        exact hf_std _ e1
      · show f_X11_loud 118 (nI m) x1 _ = _
        have r1 : RV (s2 (s2 σ 4 1 (σ 4 1 + 1)) 118 0 0) 0 A P X 0 := RV_F rv (Fr_st (Fr_s (W := fun q k => q = 4 ∨ (q = 118 ∧ k = 0)) (Or.inl rfl)) (Or.inr ⟨rfl, rfl⟩)) (fun q k e => by omega)
        have t1 : (s2 (s2 σ 4 1 (σ 4 1 + 1)) 118 0 0) 118 0 = nI 0 := by rw [s2_at rfl rfl]; rfl
        unfold f_X11_loud
        rw [zg118, zw118_0, Option.bind_some, isMan_1 r1.2.1.1.2.1 (by omega) h_m t1, Option.bind_some]
        dsimp only
        rw [if_neg (show ¬ nI 1 = 0 by decide), show f_X11_within x1 1 9 (mk (s2 (s2 σ 4 1 (σ 4 1 + 1)) 118 0 0) w (-1 : Int32).toInt64) = some (nI 0, mk (s2 (s2 σ 4 1 (σ 4 1 + 1)) 118 0 0) w (-1 : Int32).toInt64) from within_0 (a := 1) (b := 9) b1 _, Option.bind_some]
        dsimp only
        rw [if_pos (show nI 0 = 0 from rfl), show f_X11_refuses 118 1 (mk (s2 (s2 σ 4 1 (σ 4 1 + 1)) 118 0 0) w (-1 : Int32).toInt64) = some (-1, mk (s2 (s2 (s2 σ 4 1 (σ 4 1 + 1)) 118 0 0) 122 1 ((s2 (s2 σ 4 1 (σ 4 1 + 1)) 118 0 0) 122 1 + 1)) w (-1 : Int32).toInt64) from refuses_R (i := 1) (by omega), Option.bind_some, s2_off (by omega), s2_off (by omega)]
  · refine Ag_bad (c := nI 1) (v := 0) iv0 (by decide) ?_ ?_
    · unfold e_L_loud g_X10_loud
      rw [zg0, needMan_b cv b0, xb_s, Option.bind_some, hx_0, show (1 : Int32) = nI 1 from rfl]
    · unfold f_X11_loud
      rw [zg118, zw118_0, Option.bind_some, isMan_0 tm b0 t0, Option.bind_some]
      dsimp only
      rw [if_pos (show nI 0 = 0 from rfl)]
theorem ag_change (x0 x1 : Int32) : Ag (fun h => e_L_change 0 x0 x1 138 h) (fun h => f_L_change 0 x0 x1 138 h) (fun h => f_X11_change 118 x0 x1 h) := by
  intro σ w u iv
  have iv0 := iv
  obtain ⟨A, P, X, cv, rv, ⟨N, K, O, U, S, ca, ra, hN, okA⟩, is0, ik, it0⟩ := iv
  have hx := okA.1
  have wx := cv.2.2.2.2.1
  have wa := cv.2.2.2.1
  have t0 : (s2 σ 118 0 0) 118 0 = nI 0 := by rw [s2_at rfl rfl]; rfl
  have rv0 : RV (s2 σ 118 0 0) 0 A P X 0 := RV_F rv (Fr_s (W := fun q k => q = 118 ∧ k = 0) ⟨rfl, rfl⟩) (fun q k e => by omega)
  have tm := rv0.2.1.1.2.1; have tr := rv0.2.1.1.2.2.1; have tb := rv0.2.1.1.1; have hB1 := rv.2.2.2.2.1.1; have hB2 := rv.2.2.2.2.1.2.1; have hM8 := rv.2.2.2.2.1.2.2.1; have hR8 := rv.2.2.2.2.1.2.2.2.1; have hS12 := rv.2.2.2.2.1.2.2.2.2.1; have hT := RV_b rv
  rcases arg_d x0 (n := A 2) (by omega) with ⟨r, h_r, rfl⟩ | b0
  · rcases arg_d x1 (n := A 2) (by omega) with ⟨q, h_q, rfl⟩ | b1
    · have ge : e_L_change 0 (nI r) (nI q) 138 (mk σ w u) = none := by
        unfold e_L_change g_X10_change
        rw [zg0, needRow_g cv h_r, needRow_f cv h_r, xb_n, needRow_g cv h_q, needRow_f cv h_q, xb_n]
        rfl
      have hf1 : ∀ τ1, f_X10_change 0 (nI r) (nI q) (mk σ w u) = some (nI 1, mk τ1 w u) → f_L_change 0 (nI r) (nI q) 138 (mk σ w u) = some (0, mk τ1 w (nI 1).toInt64) := fun τ1 h => by
        unfold f_L_change f_L_change_16
        rw [h, Option.bind_some]
        dsimp only
        rw [if_neg (show ¬ nI 1 = 0 by decide), show (nI 1).toInt64 = 1 from by decide, wAJ, Option.bind_some]
      by_cases c : r = q
      · have e1 : f_X10_change 0 (nI r) (nI q) (mk σ w u) = some (0, mk (s2 σ 4 1 (σ 4 1 + 1)) w u) := by
          unfold f_X10_change
          rw [zg0, needRow_f cv h_r, Option.bind_some, needRow_f cv h_q, Option.bind_some, if_pos (by rw [c]), show f_X10_refuse 0 1 (mk σ w u) = some (mk (s2 σ 4 1 (σ 4 1 + 1)) w u) from refuse_f (i := 1) (by omega), Option.bind_some, if_pos (by decide)]
        refine Ag_ref iv0 (i := 1) (V := 0) (by omega) ge ?_ ?_
        · show f_L_change 0 (nI r) (nI q) 138 (mk σ w u) = _
          unfold f_L_change f_L_change_16
          rw [e1, Option.bind_some]
          dsimp only
          rw [if_pos rfl, show (0 : Int32).toInt64 = 0 from by decide, wAJ, Option.bind_some]
        · show f_X11_change 118 (nI r) (nI q) _ = _
          have r1 : RV (s2 (s2 σ 4 1 (σ 4 1 + 1)) 118 0 0) 0 A P X 0 := RV_F rv (Fr_st (Fr_s (W := fun q k => q = 4 ∨ (q = 118 ∧ k = 0)) (Or.inl rfl)) (Or.inr ⟨rfl, rfl⟩)) (fun q k e => by omega)
          have t1 : (s2 (s2 σ 4 1 (σ 4 1 + 1)) 118 0 0) 118 0 = nI 0 := by rw [s2_at rfl rfl]; rfl
          unfold f_X11_change f_X11_change_41
          rw [zg118, zw118_0, Option.bind_some, isRow_1 r1.2.1.1.2.2.1 (by omega) h_r t1, Option.bind_some]
          dsimp only
          rw [if_neg (show ¬ nI 1 = 0 by decide), isRow_1 r1.2.1.1.2.2.1 (by omega) h_q t1, Option.bind_some]
          dsimp only
          rw [if_neg (show ¬ nI 1 = 0 by decide), if_pos (by rw [c]), show f_X11_refuses 118 1 (mk (s2 (s2 σ 4 1 (σ 4 1 + 1)) 118 0 0) w (0 : Int32).toInt64) = some (-1, mk (s2 (s2 (s2 σ 4 1 (σ 4 1 + 1)) 118 0 0) 122 1 ((s2 (s2 σ 4 1 (σ 4 1 + 1)) 118 0 0) 122 1 + 1)) w (0 : Int32).toInt64) from refuses_R (i := 1) (by omega), Option.bind_some]
          dsimp only
          rw [if_pos (by decide), if_pos (by decide), s2_off (by omega), s2_off (by omega)]
      · refine Ag_act (V := nI 1) (Y := xc r q X) (F := f_X10_change 0 (nI r) (nI q) (mk σ w u)) cv rv is0 ik it0 ge hf1 (K := pu N K 4) (O := pu N O r) (U := pu N U q) (N := nN N + 1) (S := pu N S X) ?_ (fun τ cm => ?_) (OkA_push okA ca.1 wx (by rw [xc_k (by omega)]; exact hx) (Or.inr (Or.inr (Or.inr (Or.inr ⟨rfl, h_r, h_q⟩)))) (fun j hj => ?_)) (xc_W wa wx h_r h_q)
        · have h := act_C (w := w) (u := u) (V := nI 1) (Y := xc r q X) cv ca (kd := 4) (on := r) (two := q) (G := fun x => x.bind fun r8 => if 1 = 0 ∨ 1 = 1 then some (1, r8) else none) (g := fun r6 => f_X3_exchange 34 (nI r) (nI q) r6) (fun τ c => exchange_f c (by omega) (by omega)) (fun τ fr mv => by rw [Option.bind_some, if_pos (by decide)]; rfl)
          obtain ⟨τ, c1, e1⟩ := h
          refine ⟨τ, c1, ?_⟩
          rw [← e1]
          unfold f_X10_change
          rw [zg0, needRow_f cv h_r, Option.bind_some, needRow_f cv h_q, Option.bind_some, if_neg (fun e => c ((nI_eq (by omega) (by omega)).mp e)), zr0_5, Option.bind_some, zr15_1, Option.bind_some, zr0_8, Option.bind_some, show (4 : Int32) = nI 4 from rfl, show f_X0_keep 16 (nI 4) (nI r) (nI q) 34 (mk σ w u) = f_X0_keep 16 (nI 4) (nI r) (tw 4 q) 34 (mk σ w u) from by unfold tw; rw [if_neg (by omega)]]
          obtain ⟨τ1, ⟨f1, a1⟩, e2⟩ := keep_f (w := w) (u := u) isAc_16 cv (by omega) ca (kd := 4) (on := r) (two := q)
          rw [e2, Option.bind_some, Option.bind_some, zr0_8, Option.bind_some]
        · obtain ⟨r0, t1, n1, a1⟩ := CM_r rv hN ra cm
          obtain ⟨τ2, f2, r2, a2, n2, e2⟩ := act_R (w := w) (u := (nI 1).toInt64) r0 n1 a1
          have eR := RV_0s r2 r (by omega)
          have eQ := RV_0s r2 q (by omega)
          have f3 : Fr (fun q k => q = 128 ∧ k < 33) τ2 (s2 (s2 τ2 128 (25 + r) (nI (X (25 + q)))) 128 (25 + q) (nI (X (25 + r)))) := Fr_st (Fr_s ⟨rfl, by omega⟩) ⟨rfl, by omega⟩
          refine ⟨_, RM_mk f2 a2 n2 f3 (Rr_s (Rr_s r2.2.2.1 (k := 25 + r) (by omega)) (k := 25 + q) (by omega)), ?_⟩
          show f_X11_change 118 (nI r) (nI q) _ = _
          unfold f_X11_change
          rw [zg118, zw118_0, Option.bind_some, isRow_1 r0.2.1.1.2.2.1 (by omega) h_r t1, Option.bind_some]
          dsimp only
          rw [if_neg (show ¬ nI 1 = 0 by decide), isRow_1 r0.2.1.1.2.2.1 (by omega) h_q t1, Option.bind_some]
          dsimp only
          rw [if_neg (show ¬ nI 1 = 0 by decide), if_neg (fun e => c ((nI_eq (by omega) (by omega)).mp e)), e2, Option.bind_some, zr118_36, Option.bind_some, show (25 : Int32) + nI r = nI (25 + r) from nI_add 25 r, show (25 : Int32) + nI q = nI (25 + q) from nI_add 25 q, za128 (by omega), Option.bind_some, Option.bind_some, Option.bind_some, za128 (by omega), Option.bind_some, eR, eQ, zb128 (by omega), Option.bind_some, zr118_36, Option.bind_some, zb128 (by omega), Option.bind_some, if_pos (by decide)]
          rfl
        · unfold bk
          rw [if_neg (by omega), if_neg (by omega), if_neg (by omega), if_neg (by omega), xc_xc]
    · refine Ag_bad (c := nI 1) (v := 0) iv0 (by decide) ?_ ?_
      · unfold e_L_change g_X10_change
        rw [zg0, needRow_g cv h_r, needRow_f cv h_r, xb_n, needRow_b cv b1, xb_s, Option.bind_some, hx_0, show (1 : Int32) = nI 1 from rfl]
      · unfold f_X11_change
        rw [zg118, zw118_0, Option.bind_some, isRow_1 tr (by omega) h_r t0, Option.bind_some]
        dsimp only
        rw [if_neg (show ¬ nI 1 = 0 by decide), isRow_0 tr b1 t0, Option.bind_some]
        dsimp only
        rw [if_pos (show nI 0 = 0 from rfl)]
        rfl
  · refine Ag_bad (c := nI 1) (v := 0) iv0 (by decide) ?_ ?_
    · unfold e_L_change g_X10_change
      rw [zg0, needRow_b cv b0, xb_s, Option.bind_some, hx_0, show (1 : Int32) = nI 1 from rfl]
    · unfold f_X11_change
      rw [zg118, zw118_0, Option.bind_some, isRow_0 tr b0 t0, Option.bind_some]
      dsimp only
      rw [if_pos (show nI 0 = 0 from rfl)]
      rfl
end AQ
