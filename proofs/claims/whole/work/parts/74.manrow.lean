/-! L3: man, row, fault -/
section AD
variable {w u : Int64}
theorem ag_fault : Ag0 (fun h => f_X10_fault 0 h) (fun h => f_X11_fault 118 h) := by
  intro σ w u iv
  have iv0 := iv
  obtain ⟨A, P, X, cv, rv, ia, is, ik, ⟨t, T, ht, ht1, ht2, hT2, hf2, hst⟩⟩ := iv
  refine Ag0_ok iv0 (V := σ 0 2) ⟨σ, Fr_r _ _, ?_⟩ (fun τ fr => ⟨s2 τ 118 0 0, Fr_r _ _, ?_⟩)
  · show f_X10_fault 0 _ = _
    unfold f_X10_fault
    rw [zg0, zi0_2, Option.bind_some]
  · show f_X11_fault 118 _ = _
    unfold f_X11_fault
    rw [zg118, zw118_0, Option.bind_some, zi118_12, Option.bind_some, s2_off (by omega), fr 118 12 (by unfold Ws; omega), hf2]
theorem ag_man (x0 x1 : Int32) : Ag (fun h => e_L_man 0 x0 x1 138 h) (fun h => f_L_man 0 x0 x1 138 h) (fun h => f_X11_man 118 x0 x1 h) := by
  intro σ w u iv
  have iv0 := iv
  obtain ⟨A, P, X, cv, rv, ⟨N, K, O, U, S, ca, ra, hN, okA⟩, ⟨M, s, cs, rs, hMs, okS⟩, ik, it0⟩ := iv
  have hx := okA.1
  have t0 : (s2 σ 118 0 0) 118 0 = nI 0 := by rw [s2_at rfl rfl]; rfl
  have rv0 : RV (s2 σ 118 0 0) 0 A P X 0 := RV_F rv (Fr_s (W := fun q k => q = 118 ∧ k = 0) ⟨rfl, rfl⟩) (fun q k e => by omega)
  have tm := rv0.2.1.1.2.1; have tr := rv0.2.1.1.2.2.1; have tb := rv0.2.1.1.1; have hB1 := rv.2.2.2.2.1.1; have hB2 := rv.2.2.2.2.1.2.1; have hM8 := rv.2.2.2.2.1.2.2.1; have hR8 := rv.2.2.2.2.1.2.2.2.1; have hS12 := rv.2.2.2.2.1.2.2.2.2.1; have hT := RV_b rv
  rcases arg_d x0 (n := A 1) (by omega) with ⟨m, h_m, rfl⟩ | b0
  · rcases arg_w x1 (a := 0) (b := 3) (by decide) (by decide) with ⟨q, h1_q, h_q, rfl⟩ | b1
    · have ge : e_L_man 0 (nI m) (nI q) 138 (mk σ w u) = none := by
        unfold e_L_man g_X10_man
        rw [zg0, needMan_g cv h_m, needMan_f cv h_m, xb_n]
        by_cases c0 : q = 0
        · rw [c0, if_pos (show nI 0 = 0 by decide)]; rfl
        · by_cases c1 : q = 1
          · rw [c1, if_neg (show ¬ nI 1 = 0 by decide), if_pos (show nI 1 = 1 by decide)]; rfl
          · by_cases c2 : q = 2
            · rw [c2, if_neg (show ¬ nI 2 = 0 by decide), if_neg (show ¬ nI 2 = 1 by decide), if_pos (show nI 2 = 2 by decide)]; rfl
            · rw [show q = 3 by omega, if_neg (show ¬ nI 3 = 0 by decide), if_neg (show ¬ nI 3 = 1 by decide), if_neg (show ¬ nI 3 = 2 by decide), if_pos (show nI 3 = 3 by decide)]; rfl
      have hd : ∀ τ U9, Fr Ws σ τ → RV (s2 τ 118 0 0) 0 A P X 0 ∧ f_X11_man 118 (nI m) (nI q) (mk τ w U9) = (if nI q = 0 then ((rd_R (mk (s2 τ 118 0 0) w U9) 118 11 36).bind fun v9 => (rd_A (mk (s2 τ 118 0 0) w U9) 0 v9 (1 + nI m)).bind fun v10 => f_X11_man_79 v10 (mk (s2 τ 118 0 0) w U9)) else (if nI q = 1 then ((rd_R (mk (s2 τ 118 0 0) w U9) 118 11 36).bind fun v7 => (rd_A (mk (s2 τ 118 0 0) w U9) 0 v7 (9 + nI m)).bind fun v8 => f_X11_man_79 v8 (mk (s2 τ 118 0 0) w U9)) else (if nI q = 2 then ((rd_R (mk (s2 τ 118 0 0) w U9) 118 11 36).bind fun v5 => (rd_A (mk (s2 τ 118 0 0) w U9) 0 v5 (17 + nI m)).bind fun v6 => f_X11_man_79 v6 (mk (s2 τ 118 0 0) w U9)) else ((f_X11_rowOf 118 0 (nI m) (mk (s2 τ 118 0 0) w U9)).bind fun r4 => f_X11_man_79 r4.1 r4.2)))) := fun τ U9 fr => by
        have r0 : RV (s2 τ 118 0 0) 0 A P X 0 := RV_F (Ws_rv rv fr) (Fr_s (W := fun q k => q = 118 ∧ k = 0) ⟨rfl, rfl⟩) (fun q k e => by omega)
        have t1 : (s2 τ 118 0 0) 118 0 = nI 0 := by rw [s2_at rfl rfl]; rfl
        refine ⟨r0, ?_⟩
        unfold f_X11_man
        rw [zg118, zw118_0, Option.bind_some, show f_X11_isMan 118 (nI m) (mk (s2 τ 118 0 0) w U9) = some (nI 1, mk (s2 τ 118 0 0) w U9) from isMan_1 r0.2.1.1.2.1 (by omega) h_m t1, Option.bind_some]
        dsimp only
        rw [if_neg (show ¬ nI 1 = 0 by decide), show f_X11_isWhat 118 (nI q) 3 (mk (s2 τ 118 0 0) w U9) = some (nI 1, mk (s2 τ 118 0 0) w U9) from isWhat_1 (b := 3) h_q (by decide) t1, Option.bind_some]
        dsimp only
        rw [if_neg (show ¬ nI 1 = 0 by decide)]
      by_cases c0 : q = 0
      · refine Ag_ok iv0 ge rfl (V := nI (X (1 + m))) ⟨σ, Fr_r _ _, ?_⟩ (fun τ fr => ⟨s2 τ 118 0 0, Fr_r _ _, ?_⟩)
        · unfold f_X10_man
          rw [zg0, needMan_f cv h_m, Option.bind_some, c0, if_pos (show nI 0 = 0 by decide), zr0_8, Option.bind_some, M_t isM_34, Option.bind_some, M_tt isM_34 (by omega), Option.bind_some, CV_t cv m (by omega)]
        · obtain ⟨r0, e⟩ := hd τ (nI (X (1 + m))).toInt64 fr
          show f_X11_man 118 (nI m) (nI q) _ = _
          rw [e, c0, if_pos (show nI 0 = 0 by decide), zr118_36, Option.bind_some, show (1 : Int32) + nI m = nI (1 + m) from nI_add 1 m, za128 (by omega), Option.bind_some, RV_0t r0 m (by omega)]
          rfl
      · by_cases c1 : q = 1
        · refine Ag_ok iv0 ge rfl (V := nI (X (9 + m))) ⟨σ, Fr_r _ _, ?_⟩ (fun τ fr => ⟨s2 τ 118 0 0, Fr_r _ _, ?_⟩)
          · unfold f_X10_man
            rw [zg0, needMan_f cv h_m, Option.bind_some, c1, if_neg (show ¬ nI 1 = 0 by decide), if_pos (show nI 1 = 1 by decide), zr0_8, Option.bind_some, M_l isM_34, Option.bind_some, M_tl isM_34 (by omega), Option.bind_some, CV_l cv m (by omega)]
          · obtain ⟨r0, e⟩ := hd τ (nI (X (9 + m))).toInt64 fr
            show f_X11_man 118 (nI m) (nI q) _ = _
            rw [e, c1, if_neg (show ¬ nI 1 = 0 by decide), if_pos (show nI 1 = 1 by decide), zr118_36, Option.bind_some, show (9 : Int32) + nI m = nI (9 + m) from nI_add 9 m, za128 (by omega), Option.bind_some, RV_0l r0 m (by omega)]
            rfl
        · by_cases c2 : q = 2
          · refine Ag_ok iv0 ge rfl (V := nI (X (17 + m))) ⟨σ, Fr_r _ _, ?_⟩ (fun τ fr => ⟨s2 τ 118 0 0, Fr_r _ _, ?_⟩)
            · unfold f_X10_man
              rw [zg0, needMan_f cv h_m, Option.bind_some, c2, if_neg (show ¬ nI 2 = 0 by decide), if_neg (show ¬ nI 2 = 1 by decide), if_pos (show nI 2 = 2 by decide), zr0_8, Option.bind_some, M_o isM_34, Option.bind_some, M_to isM_34 (by omega), Option.bind_some, CV_o cv m (by omega)]
            · obtain ⟨r0, e⟩ := hd τ (nI (X (17 + m))).toInt64 fr
              show f_X11_man 118 (nI m) (nI q) _ = _
              rw [e, c2, if_neg (show ¬ nI 2 = 0 by decide), if_neg (show ¬ nI 2 = 1 by decide), if_pos (show nI 2 = 2 by decide), zr118_36, Option.bind_some, show (17 : Int32) + nI m = nI (17 + m) from nI_add 17 m, za128 (by omega), Option.bind_some, RV_0o r0 m (by omega)]
              rfl
          · have c3 : q = 3 := by omega
            refine Ag_ok iv0 ge rfl (V := nJ (ro A X m)) ⟨σ, Fr_r _ _, ?_⟩ (fun τ fr => ⟨s2 τ 118 0 0, Fr_r _ _, ?_⟩)
            · unfold f_X10_man
              rw [zg0, needMan_f cv h_m, Option.bind_some, c3, if_neg (show ¬ nI 3 = 0 by decide), if_neg (show ¬ nI 3 = 1 by decide), if_neg (show ¬ nI 3 = 2 by decide), if_pos (show nI 3 = 3 by decide), zr0_8, Option.bind_some, rowOf_f cv (by omega), Option.bind_some]
            · obtain ⟨r0, e⟩ := hd τ (nJ (ro A X m)).toInt64 fr
              show f_X11_man 118 (nI m) (nI q) _ = _
              rw [e, c3, if_neg (show ¬ nI 3 = 0 by decide), if_neg (show ¬ nI 3 = 1 by decide), if_neg (show ¬ nI 3 = 2 by decide), show f_X11_rowOf 118 0 (nI m) (mk (s2 τ 118 0 0) w (nJ (ro A X m)).toInt64) = some (nJ (ro A X m), mk (s2 τ 118 0 0) w (nJ (ro A X m)).toInt64) from rowOf_R r0 (by omega), Option.bind_some]
              dsimp only [f_X11_man_79]
    · refine Ag_bad (c := nI 1) (v := 0) iv0 (by decide) ?_ ?_
      · have hne : ∀ k, k ≤ 3 → x1 ≠ nI k := fun k hk e => by
          subst e
          rcases b1 with b | ⟨-, b, -⟩
          · exact absurd b (nI_nlt (by omega) (by omega))
          · exact b (nI_le hk (by decide))
        unfold e_L_man g_X10_man
        rw [zg0, needMan_g cv h_m, needMan_f cv h_m, xb_n, if_neg (show ¬ x1 = 0 from hne 0 (by omega)), if_neg (show ¬ x1 = 1 from hne 1 (by omega)), if_neg (show ¬ x1 = 2 from hne 2 (by omega)), if_neg (show ¬ x1 = 3 from hne 3 (by omega)), Option.bind_some, hx_0, show (1 : Int32) = nI 1 from rfl]
      · unfold f_X11_man
        rw [zg118, zw118_0, Option.bind_some, show f_X11_isMan 118 (nI m) (mk (s2 σ 118 0 0) w u) = some (nI 1, mk (s2 σ 118 0 0) w u) from isMan_1 tm (by omega) h_m t0, Option.bind_some]
        dsimp only
        rw [if_neg (show ¬ nI 1 = 0 by decide), show f_X11_isWhat 118 x1 3 (mk (s2 σ 118 0 0) w u) = some (nI 0, mk (s2 (s2 σ 118 0 0) 118 0 (nI 1)) w u) from isWhat_0 (b := 3) b1 t0, Option.bind_some]
        dsimp only
        rw [if_pos (show nI 0 = 0 by decide)]
        rfl
  · refine Ag_bad (c := nI 1) (v := 0) iv0 (by decide) ?_ ?_
    · unfold e_L_man g_X10_man
      rw [zg0, needMan_b cv b0, xb_s, Option.bind_some, hx_0, show (1 : Int32) = nI 1 from rfl]
    · unfold f_X11_man
      rw [zg118, zw118_0, Option.bind_some, show f_X11_isMan 118 x0 (mk (s2 σ 118 0 0) w u) = some (nI 0, mk (s2 (s2 σ 118 0 0) 118 0 (nI 1)) w u) from isMan_0 tm b0 t0, Option.bind_some]
      dsimp only
      rw [if_pos (show nI 0 = 0 by decide)]
      rfl
theorem ag_row (x0 x1 : Int32) : Ag (fun h => e_L_row 0 x0 x1 138 h) (fun h => f_L_row 0 x0 x1 138 h) (fun h => f_X11_row 118 x0 x1 h) := by
  intro σ w u iv
  have iv0 := iv
  obtain ⟨A, P, X, cv, rv, ⟨N, K, O, U, S, ca, ra, hN, okA⟩, ⟨M, s, cs, rs, hMs, okS⟩, ik, it0⟩ := iv
  have hx := okA.1
  have t0 : (s2 σ 118 0 0) 118 0 = nI 0 := by rw [s2_at rfl rfl]; rfl
  have rv0 : RV (s2 σ 118 0 0) 0 A P X 0 := RV_F rv (Fr_s (W := fun q k => q = 118 ∧ k = 0) ⟨rfl, rfl⟩) (fun q k e => by omega)
  have tm := rv0.2.1.1.2.1; have tr := rv0.2.1.1.2.2.1; have tb := rv0.2.1.1.1; have hB1 := rv.2.2.2.2.1.1; have hB2 := rv.2.2.2.2.1.2.1; have hM8 := rv.2.2.2.2.1.2.2.1; have hR8 := rv.2.2.2.2.1.2.2.2.1; have hS12 := rv.2.2.2.2.1.2.2.2.2.1; have hT := RV_b rv
  rcases arg_d x0 (n := A 2) (by omega) with ⟨r, h_r, rfl⟩ | b0
  · rcases arg_w x1 (a := 0) (b := 2) (by decide) (by decide) with ⟨q, h1_q, h_q, rfl⟩ | b1
    · have ge : e_L_row 0 (nI r) (nI q) 138 (mk σ w u) = none := by
        unfold e_L_row g_X10_row
        rw [zg0, needRow_g cv h_r, needRow_f cv h_r, xb_n]
        by_cases c0 : q = 0
        · rw [c0, if_pos (show nI 0 = 0 by decide)]; rfl
        · by_cases c1 : q = 1
          · rw [c1, if_neg (show ¬ nI 1 = 0 by decide), if_pos (show nI 1 = 1 by decide)]; rfl
          · rw [show q = 2 by omega, if_neg (show ¬ nI 2 = 0 by decide), if_neg (show ¬ nI 2 = 1 by decide), if_pos (show nI 2 = 2 by decide)]; rfl
      have hd : ∀ τ U9, Fr Ws σ τ → RV (s2 τ 118 0 0) 0 A P X 0 ∧ f_X11_row 118 (nI r) (nI q) (mk τ w U9) = (if nI q = 0 then ((rd_R (mk (s2 τ 118 0 0) w U9) 118 11 36).bind fun v6 => (rd_A (mk (s2 τ 118 0 0) w U9) 0 v6 (25 + nI r)).bind fun v7 => f_X11_row_60 v7 (mk (s2 τ 118 0 0) w U9)) else (if nI q = 1 then ((f_X11_heardOf 118 0 (nI r) (mk (s2 τ 118 0 0) w U9)).bind fun r5 => f_X11_row_60 r5.1 r5.2) else ((f_X11_namedOf 118 0 (nI r) (mk (s2 τ 118 0 0) w U9)).bind fun r4 => f_X11_row_60 r4.1 r4.2))) := fun τ U9 fr => by
        have r0 : RV (s2 τ 118 0 0) 0 A P X 0 := RV_F (Ws_rv rv fr) (Fr_s (W := fun q k => q = 118 ∧ k = 0) ⟨rfl, rfl⟩) (fun q k e => by omega)
        have t1 : (s2 τ 118 0 0) 118 0 = nI 0 := by rw [s2_at rfl rfl]; rfl
        refine ⟨r0, ?_⟩
        unfold f_X11_row
        rw [zg118, zw118_0, Option.bind_some, show f_X11_isRow 118 (nI r) (mk (s2 τ 118 0 0) w U9) = some (nI 1, mk (s2 τ 118 0 0) w U9) from isRow_1 r0.2.1.1.2.2.1 (by omega) h_r t1, Option.bind_some]
        dsimp only
        rw [if_neg (show ¬ nI 1 = 0 by decide), show f_X11_isWhat 118 (nI q) 2 (mk (s2 τ 118 0 0) w U9) = some (nI 1, mk (s2 τ 118 0 0) w U9) from isWhat_1 (b := 2) h_q (by decide) t1, Option.bind_some]
        dsimp only
        rw [if_neg (show ¬ nI 1 = 0 by decide)]
      by_cases c0 : q = 0
      · refine Ag_ok iv0 ge rfl (V := nI (X (25 + r))) ⟨σ, Fr_r _ _, ?_⟩ (fun τ fr => ⟨s2 τ 118 0 0, Fr_r _ _, ?_⟩)
        · unfold f_X10_row
          rw [zg0, needRow_f cv h_r, Option.bind_some, c0, if_pos (show nI 0 = 0 by decide), zr0_8, Option.bind_some, M_s isM_34, Option.bind_some, M_ts isM_34 (by omega), Option.bind_some, CV_s cv r (by omega)]
        · obtain ⟨r0, e⟩ := hd τ (nI (X (25 + r))).toInt64 fr
          show f_X11_row 118 (nI r) (nI q) _ = _
          rw [e, c0, if_pos (show nI 0 = 0 by decide), zr118_36, Option.bind_some, show (25 : Int32) + nI r = nI (25 + r) from nI_add 25 r, za128 (by omega), Option.bind_some, RV_0s r0 r (by omega)]
          rfl
      · by_cases c1 : q = 1
        · obtain ⟨τ3, f3, e3⟩ := heardAt_f (w := w) (u := u) cv (p := r) (n := 0) (by omega) (by omega)
          rw [rt_0, Nat.add_zero] at e3
          refine Ag_ok iv0 ge rfl (V := nI (he A P X r (mq A (X 0)))) ⟨τ3, Wc_s f3, ?_⟩ (fun τ fr => ?_)
          · unfold f_X10_row
            rw [zg0, needRow_f cv h_r, Option.bind_some, c1, if_neg (show ¬ nI 1 = 0 by decide), if_pos (show nI 1 = 1 by decide), zr0_8, Option.bind_some, show f_X3_heardAt 34 (nI r) 0 (mk σ w u) = some (nI (he A P X r (mq A (X 0))), mk τ3 w u) from e3, Option.bind_some]
          · obtain ⟨r0, e⟩ := hd τ (nI (he A P X r (mq A (X 0)))).toInt64 fr
            obtain ⟨τ5, f5, e5⟩ := heardOf_f (w := w) (u := (nI (he A P X r (mq A (X 0)))).toInt64) r0 h_r
            refine ⟨τ5, Wr_q f5, ?_⟩
            show f_X11_row 118 (nI r) (nI q) _ = _
            rw [e, c1, if_neg (show ¬ nI 1 = 0 by decide), if_pos (show nI 1 = 1 by decide), show f_X11_heardOf 118 0 (nI r) (mk (s2 τ 118 0 0) w (nI (he A P X r (mq A (X 0)))).toInt64) = some (nI (he A P X r (mq A (X 0))), mk τ5 w (nI (he A P X r (mq A (X 0)))).toInt64) from e5, Option.bind_some]
            dsimp only [f_X11_row_60]
        · have c2 : q = 2 := by omega
          obtain ⟨τ3, f3, e3⟩ := namedAt_f (w := w) (u := u) cv (p := r) (n := 0) (mud := mq A (X 0)) (by omega) (by omega) (by have := mq_lt rv.2.2.2.2.1 (X 0); omega)
          rw [rt_0] at e3
          refine Ag_ok iv0 ge rfl (V := nJ (na A P X r (mq A (X 0)))) ⟨τ3, Wc_s f3, ?_⟩ (fun τ fr => ?_)
          · unfold f_X10_row
            rw [zg0, needRow_f cv h_r, Option.bind_some, c2, if_neg (show ¬ nI 2 = 0 by decide), if_neg (show ¬ nI 2 = 1 by decide), if_pos (show nI 2 = 2 by decide), zr0_8, Option.bind_some, Option.bind_some, show f_X3_mudIn 34 0 (mk σ w u) = some (nI (mq A (X 0 + 0)), mk σ w u) from mudIn_f cv (n := 0) (by decide), Option.bind_some, Nat.add_zero]
            dsimp only
            rw [show f_X3_namedAt 34 (nI r) 0 (nI (mq A (X 0))) (mk σ w u) = some (nJ (na A P X r (mq A (X 0))), mk τ3 w u) from e3, Option.bind_some]
          · obtain ⟨r0, e⟩ := hd τ (nJ (na A P X r (mq A (X 0)))).toInt64 fr
            obtain ⟨τ5, f5, e5⟩ := namedOf_f (w := w) (u := (nJ (na A P X r (mq A (X 0)))).toInt64) r0 h_r
            refine ⟨τ5, Wr_q f5, ?_⟩
            show f_X11_row 118 (nI r) (nI q) _ = _
            rw [e, c2, if_neg (show ¬ nI 2 = 0 by decide), if_neg (show ¬ nI 2 = 1 by decide), show f_X11_namedOf 118 0 (nI r) (mk (s2 τ 118 0 0) w (nJ (na A P X r (mq A (X 0)))).toInt64) = some (nJ (na A P X r (mq A (X 0))), mk τ5 w (nJ (na A P X r (mq A (X 0)))).toInt64) from e5, Option.bind_some]
            dsimp only [f_X11_row_60]
    · refine Ag_bad (c := nI 1) (v := 0) iv0 (by decide) ?_ ?_
      · have hne : ∀ k, k ≤ 2 → x1 ≠ nI k := fun k hk e => by
          subst e
          rcases b1 with b | ⟨-, b, -⟩
          · exact absurd b (nI_nlt (by omega) (by omega))
          · exact b (nI_le hk (by decide))
        unfold e_L_row g_X10_row
        rw [zg0, needRow_g cv h_r, needRow_f cv h_r, xb_n, if_neg (show ¬ x1 = 0 from hne 0 (by omega)), if_neg (show ¬ x1 = 1 from hne 1 (by omega)), if_neg (show ¬ x1 = 2 from hne 2 (by omega)), Option.bind_some, hx_0, show (1 : Int32) = nI 1 from rfl]
      · unfold f_X11_row
        rw [zg118, zw118_0, Option.bind_some, show f_X11_isRow 118 (nI r) (mk (s2 σ 118 0 0) w u) = some (nI 1, mk (s2 σ 118 0 0) w u) from isRow_1 tr (by omega) h_r t0, Option.bind_some]
        dsimp only
        rw [if_neg (show ¬ nI 1 = 0 by decide), show f_X11_isWhat 118 x1 2 (mk (s2 σ 118 0 0) w u) = some (nI 0, mk (s2 (s2 σ 118 0 0) 118 0 (nI 1)) w u) from isWhat_0 (b := 2) b1 t0, Option.bind_some]
        dsimp only
        rw [if_pos (show nI 0 = 0 by decide)]
        rfl
  · refine Ag_bad (c := nI 1) (v := 0) iv0 (by decide) ?_ ?_
    · unfold e_L_row g_X10_row
      rw [zg0, needRow_b cv b0, xb_s, Option.bind_some, hx_0, show (1 : Int32) = nI 1 from rfl]
    · unfold f_X11_row
      rw [zg118, zw118_0, Option.bind_some, show f_X11_isRow 118 x0 (mk (s2 σ 118 0 0) w u) = some (nI 0, mk (s2 (s2 σ 118 0 0) 118 0 (nI 1)) w u) from isRow_0 tr b0 t0, Option.bind_some]
      dsimp only
      rw [if_pos (show nI 0 = 0 by decide)]
      rfl
end AD
