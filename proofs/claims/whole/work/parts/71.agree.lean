/-! L3: class and reference agree -/
section AH
variable {w u : Int64}
theorem ag_then (x0 x1 x2 : Int32) : Ag (fun h => e_L_then 0 x0 x1 x2 138 h) (fun h => f_L_then 0 x0 x1 x2 138 h) (fun h => f_X11_then 118 x0 x1 x2 h) := by
  intro σ w u iv
  have iv0 := iv
  obtain ⟨A, P, X, cv, rv, ⟨N, K, O, U, S, ca, ra, hN, okA⟩, ⟨M, s, cs, rs, hMs, okS⟩, ik, it0⟩ := iv
  have hx := okA.1
  have t0 : (s2 σ 118 0 0) 118 0 = nI 0 := by rw [s2_at rfl rfl]; rfl
  have rv0 : RV (s2 σ 118 0 0) 0 A P X 0 := RV_F rv (Fr_s (W := fun q k => q = 118 ∧ k = 0) ⟨rfl, rfl⟩) (fun q k e => by omega)
  have tm := rv0.2.1.1.2.1; have tr := rv0.2.1.1.2.2.1; have tb := rv0.2.1.1.1; have hB1 := rv.2.2.2.2.1.1; have hB2 := rv.2.2.2.2.1.2.1; have hM8 := rv.2.2.2.2.1.2.2.1; have hR8 := rv.2.2.2.2.1.2.2.2.1; have hS12 := rv.2.2.2.2.1.2.2.2.2.1; have hT := RV_b rv
  rcases arg_d x0 (n := A 2) (by omega) with ⟨r, h_r, rfl⟩ | b0
  · rcases arg_w x2 (a := 0) (b := 1) (by decide) (by decide) with ⟨q, h1_q, h_q, rfl⟩ | b1
    · rcases arg_w x1 (a := 0) (b := 40) (by decide) (by decide) with ⟨n, h1_n, h_n, rfl⟩ | b2
      · refine Ag_ok iv0 ?_ rfl (cl_then cv hx h_r h_n h_q) (fun τ fr => re_then (Ws_rv rv fr) hx h_r h_n h_q)
        unfold e_L_then g_X10_then
        rw [zg0, needRow_g cv h_r, needRow_f cv h_r, xb_n, show g_X10_needWhat (nI q) 1 (mk σ w u) = none from needWhat_g (b := 1) h_q (by decide), show f_X10_needWhat (nI q) 1 (mk σ w u) = some (mk σ w u) from needWhat_f (b := 1) h_q (by decide), xb_n, show g_X10_needWithin (nI n) 0 40 (mk σ w u) = none from needWithin_g (a := 0) (b := 40) h1_n h_n (by decide), show f_X10_needWithin (nI n) 0 40 (mk σ w u) = some (mk σ w u) from needWithin_f (a := 0) (b := 40) h1_n h_n (by decide), xb_n]
        all_goals rfl
      · refine Ag_bad (c := nI 2) (v := 0) iv0 (by decide) ?_ ?_
        · unfold e_L_then g_X10_then
          rw [zg0, needRow_g cv h_r, needRow_f cv h_r, xb_n, show g_X10_needWhat (nI q) 1 (mk σ w u) = none from needWhat_g (b := 1) h_q (by decide), show f_X10_needWhat (nI q) 1 (mk σ w u) = some (mk σ w u) from needWhat_f (b := 1) h_q (by decide), xb_n, show g_X10_needWithin x1 0 40 (mk σ w u) = some (1, mk σ w u) from needWithin_b (a := 0) (b := 40) b2, xb_s, Option.bind_some, hx_1, show (2 : Int32) = nI 2 from rfl]
        · unfold f_X11_then
          rw [zg118, zw118_0, Option.bind_some]
          rw [show f_X11_isRow 118 (nI r) (mk (s2 σ 118 0 0) w u) = some (nI 1, mk (s2 σ 118 0 0) w u) from isRow_1 tr (by omega) h_r t0, Option.bind_some]
          dsimp only
          rw [if_neg (show ¬ nI 1 = 0 by decide)]
          rw [show f_X11_isWhat 118 (nI q) 1 (mk (s2 σ 118 0 0) w u) = some (nI 1, mk (s2 σ 118 0 0) w u) from isWhat_1 (b := 1) h_q (by decide) t0, Option.bind_some]
          dsimp only
          rw [if_neg (show ¬ nI 1 = 0 by decide)]
          rw [show f_X11_isNights 118 x1 0 2 (mk (s2 σ 118 0 0) w u) = some (nI 0, mk (s2 (s2 σ 118 0 0) 118 0 (nI 2)) w u) from isNights_0 (a := 0) (c := 2) b2 (by omega) t0, Option.bind_some]
          dsimp only
          rw [if_pos (show nI 0 = 0 by decide)]
          all_goals (try unfold f_X11_then_32)
          all_goals (try unfold f_X11_then_60)
          all_goals rfl
    · refine Ag_bad (c := nI 1) (v := 0) iv0 (by decide) ?_ ?_
      · unfold e_L_then g_X10_then
        rw [zg0, needRow_g cv h_r, needRow_f cv h_r, xb_n, show g_X10_needWhat x2 1 (mk σ w u) = some (0, mk σ w u) from needWhat_b (b := 1) b1, xb_s, Option.bind_some, hx_0, show (1 : Int32) = nI 1 from rfl]
      · unfold f_X11_then
        rw [zg118, zw118_0, Option.bind_some]
        rw [show f_X11_isRow 118 (nI r) (mk (s2 σ 118 0 0) w u) = some (nI 1, mk (s2 σ 118 0 0) w u) from isRow_1 tr (by omega) h_r t0, Option.bind_some]
        dsimp only
        rw [if_neg (show ¬ nI 1 = 0 by decide)]
        rw [show f_X11_isWhat 118 x2 1 (mk (s2 σ 118 0 0) w u) = some (nI 0, mk (s2 (s2 σ 118 0 0) 118 0 (nI 1)) w u) from isWhat_0 (b := 1) b1 t0, Option.bind_some]
        dsimp only
        rw [if_pos (show nI 0 = 0 by decide)]
        all_goals (try unfold f_X11_then_32)
        all_goals (try unfold f_X11_then_60)
        all_goals rfl
  · refine Ag_bad (c := nI 1) (v := 0) iv0 (by decide) ?_ ?_
    · unfold e_L_then g_X10_then
      rw [zg0, needRow_b cv b0, xb_s, Option.bind_some, hx_0, show (1 : Int32) = nI 1 from rfl]
    · unfold f_X11_then
      rw [zg118, zw118_0, Option.bind_some]
      rw [show f_X11_isRow 118 x0 (mk (s2 σ 118 0 0) w u) = some (nI 0, mk (s2 (s2 σ 118 0 0) 118 0 (nI 1)) w u) from isRow_0 tr b0 t0, Option.bind_some]
      dsimp only
      rw [if_pos (show nI 0 = 0 by decide)]
      all_goals (try unfold f_X11_then_32)
      all_goals (try unfold f_X11_then_60)
      all_goals rfl
theorem ag_honour (x0 x1 : Int32) : Ag (fun h => e_L_honour 0 x0 x1 138 h) (fun h => f_L_honour 0 x0 x1 138 h) (fun h => f_X11_honour 118 x0 x1 h) := by
  intro σ w u iv
  have iv0 := iv
  obtain ⟨A, P, X, cv, rv, ⟨N, K, O, U, S, ca, ra, hN, okA⟩, ⟨M, s, cs, rs, hMs, okS⟩, ik, it0⟩ := iv
  have hx := okA.1
  have t0 : (s2 σ 118 0 0) 118 0 = nI 0 := by rw [s2_at rfl rfl]; rfl
  have rv0 : RV (s2 σ 118 0 0) 0 A P X 0 := RV_F rv (Fr_s (W := fun q k => q = 118 ∧ k = 0) ⟨rfl, rfl⟩) (fun q k e => by omega)
  have tm := rv0.2.1.1.2.1; have tr := rv0.2.1.1.2.2.1; have tb := rv0.2.1.1.1; have hB1 := rv.2.2.2.2.1.1; have hB2 := rv.2.2.2.2.1.2.1; have hM8 := rv.2.2.2.2.1.2.2.1; have hR8 := rv.2.2.2.2.1.2.2.2.1; have hS12 := rv.2.2.2.2.1.2.2.2.2.1; have hT := RV_b rv
  rcases arg_d x0 (n := A 1) (by omega) with ⟨m, h_m, rfl⟩ | b0
  · rcases arg_w x1 (a := 0) (b := 40) (by decide) (by decide) with ⟨n, h1_n, h_n, rfl⟩ | b1
    · refine Ag_ok iv0 ?_ rfl (cl_honour cv hx h_m h_n) (fun τ fr => re_honour (Ws_rv rv fr) hx h_m h_n)
      unfold e_L_honour g_X10_honour
      rw [zg0, needMan_g cv h_m, needMan_f cv h_m, xb_n, show g_X10_needWithin (nI n) 0 40 (mk σ w u) = none from needWithin_g (a := 0) (b := 40) h1_n h_n (by decide), show f_X10_needWithin (nI n) 0 40 (mk σ w u) = some (mk σ w u) from needWithin_f (a := 0) (b := 40) h1_n h_n (by decide), xb_n]
      all_goals rfl
    · refine Ag_bad (c := nI 2) (v := 0) iv0 (by decide) ?_ ?_
      · unfold e_L_honour g_X10_honour
        rw [zg0, needMan_g cv h_m, needMan_f cv h_m, xb_n, show g_X10_needWithin x1 0 40 (mk σ w u) = some (1, mk σ w u) from needWithin_b (a := 0) (b := 40) b1, xb_s, Option.bind_some, hx_1, show (2 : Int32) = nI 2 from rfl]
      · unfold f_X11_honour
        rw [zg118, zw118_0, Option.bind_some]
        rw [show f_X11_isMan 118 (nI m) (mk (s2 σ 118 0 0) w u) = some (nI 1, mk (s2 σ 118 0 0) w u) from isMan_1 tm (by omega) h_m t0, Option.bind_some]
        dsimp only
        rw [if_neg (show ¬ nI 1 = 0 by decide)]
        rw [show f_X11_isNights 118 x1 0 2 (mk (s2 σ 118 0 0) w u) = some (nI 0, mk (s2 (s2 σ 118 0 0) 118 0 (nI 2)) w u) from isNights_0 (a := 0) (c := 2) b1 (by omega) t0, Option.bind_some]
        dsimp only
        rw [if_pos (show nI 0 = 0 by decide)]
        all_goals (try unfold f_X11_honour_23)
        all_goals rfl
  · refine Ag_bad (c := nI 1) (v := 0) iv0 (by decide) ?_ ?_
    · unfold e_L_honour g_X10_honour
      rw [zg0, needMan_b cv b0, xb_s, Option.bind_some, hx_0, show (1 : Int32) = nI 1 from rfl]
    · unfold f_X11_honour
      rw [zg118, zw118_0, Option.bind_some]
      rw [show f_X11_isMan 118 x0 (mk (s2 σ 118 0 0) w u) = some (nI 0, mk (s2 (s2 σ 118 0 0) 118 0 (nI 1)) w u) from isMan_0 tm b0 t0, Option.bind_some]
      dsimp only
      rw [if_pos (show nI 0 = 0 by decide)]
      all_goals (try unfold f_X11_honour_23)
      all_goals rfl
theorem ag_first (x0 : Int32) : Ag (fun h => e_L_first 0 x0 138 h) (fun h => f_L_first 0 x0 138 h) (fun h => f_X11_first 118 x0 h) := by
  intro σ w u iv
  have iv0 := iv
  obtain ⟨A, P, X, cv, rv, ⟨N, K, O, U, S, ca, ra, hN, okA⟩, ⟨M, s, cs, rs, hMs, okS⟩, ik, it0⟩ := iv
  have hx := okA.1
  have t0 : (s2 σ 118 0 0) 118 0 = nI 0 := by rw [s2_at rfl rfl]; rfl
  have rv0 : RV (s2 σ 118 0 0) 0 A P X 0 := RV_F rv (Fr_s (W := fun q k => q = 118 ∧ k = 0) ⟨rfl, rfl⟩) (fun q k e => by omega)
  have tm := rv0.2.1.1.2.1; have tr := rv0.2.1.1.2.2.1; have tb := rv0.2.1.1.1; have hB1 := rv.2.2.2.2.1.1; have hB2 := rv.2.2.2.2.1.2.1; have hM8 := rv.2.2.2.2.1.2.2.1; have hR8 := rv.2.2.2.2.1.2.2.2.1; have hS12 := rv.2.2.2.2.1.2.2.2.2.1; have hT := RV_b rv
  rcases arg_d x0 (n := A 1) (by omega) with ⟨m, h_m, rfl⟩ | b0
  · refine Ag_ok iv0 ?_ rfl (cl_first cv hx h_m) (fun τ fr => re_first (Ws_rv rv fr) hx h_m)
    unfold e_L_first g_X10_first
    rw [zg0, needMan_g cv h_m, needMan_f cv h_m, xb_n]
    all_goals rfl
  · refine Ag_bad (c := nI 1) (v := 0) iv0 (by decide) ?_ ?_
    · unfold e_L_first g_X10_first
      rw [zg0, needMan_b cv b0, xb_s, Option.bind_some, hx_0, show (1 : Int32) = nI 1 from rfl]
    · unfold f_X11_first
      rw [zg118, zw118_0, Option.bind_some]
      rw [show f_X11_isMan 118 x0 (mk (s2 σ 118 0 0) w u) = some (nI 0, mk (s2 (s2 σ 118 0 0) 118 0 (nI 1)) w u) from isMan_0 tm b0 t0, Option.bind_some]
      dsimp only
      rw [if_pos (show nI 0 = 0 by decide)]
      all_goals rfl
theorem ag_mistaken (x0 : Int32) : Ag (fun h => e_L_mistaken 0 x0 138 h) (fun h => f_L_mistaken 0 x0 138 h) (fun h => f_X11_mistaken 118 x0 h) := by
  intro σ w u iv
  have iv0 := iv
  obtain ⟨A, P, X, cv, rv, ⟨N, K, O, U, S, ca, ra, hN, okA⟩, ⟨M, s, cs, rs, hMs, okS⟩, ik, it0⟩ := iv
  have hx := okA.1
  have t0 : (s2 σ 118 0 0) 118 0 = nI 0 := by rw [s2_at rfl rfl]; rfl
  have rv0 : RV (s2 σ 118 0 0) 0 A P X 0 := RV_F rv (Fr_s (W := fun q k => q = 118 ∧ k = 0) ⟨rfl, rfl⟩) (fun q k e => by omega)
  have tm := rv0.2.1.1.2.1; have tr := rv0.2.1.1.2.2.1; have tb := rv0.2.1.1.1; have hB1 := rv.2.2.2.2.1.1; have hB2 := rv.2.2.2.2.1.2.1; have hM8 := rv.2.2.2.2.1.2.2.1; have hR8 := rv.2.2.2.2.1.2.2.2.1; have hS12 := rv.2.2.2.2.1.2.2.2.2.1; have hT := RV_b rv
  rcases arg_w x0 (a := 1) (b := 40) (by decide) (by decide) with ⟨n, h1_n, h_n, rfl⟩ | b0
  · refine Ag_ok iv0 ?_ rfl (cl_mistaken cv hx h1_n h_n) (fun τ fr => re_mistaken (Ws_rv rv fr) hx h1_n h_n)
    unfold e_L_mistaken g_X10_mistaken
    rw [zg0, show g_X10_needWithin (nI n) 1 40 (mk σ w u) = none from needWithin_g (a := 1) (b := 40) h1_n h_n (by decide), show f_X10_needWithin (nI n) 1 40 (mk σ w u) = some (mk σ w u) from needWithin_f (a := 1) (b := 40) h1_n h_n (by decide), xb_n]
    all_goals rfl
  · refine Ag_bad (c := nI 1) (v := 0) iv0 (by decide) ?_ ?_
    · unfold e_L_mistaken g_X10_mistaken
      rw [zg0, show g_X10_needWithin x0 1 40 (mk σ w u) = some (1, mk σ w u) from needWithin_b (a := 1) (b := 40) b0, xb_s, Option.bind_some, hx_1, show (1 : Int32) = nI 1 from rfl]
    · unfold f_X11_mistaken
      rw [zg118, zw118_0, Option.bind_some]
      rw [show f_X11_isNights 118 x0 1 1 (mk (s2 σ 118 0 0) w u) = some (nI 0, mk (s2 (s2 σ 118 0 0) 118 0 (nI 1)) w u) from isNights_0 (a := 1) (c := 1) b0 (by omega) t0, Option.bind_some]
      dsimp only
      rw [if_pos (show nI 0 = 0 by decide)]
      all_goals rfl
theorem ag_unsung (x0 : Int32) : Ag (fun h => e_L_unsung 0 x0 138 h) (fun h => f_L_unsung 0 x0 138 h) (fun h => f_X11_unsung 118 x0 h) := by
  intro σ w u iv
  have iv0 := iv
  obtain ⟨A, P, X, cv, rv, ⟨N, K, O, U, S, ca, ra, hN, okA⟩, ⟨M, s, cs, rs, hMs, okS⟩, ik, it0⟩ := iv
  have hx := okA.1
  have t0 : (s2 σ 118 0 0) 118 0 = nI 0 := by rw [s2_at rfl rfl]; rfl
  have rv0 : RV (s2 σ 118 0 0) 0 A P X 0 := RV_F rv (Fr_s (W := fun q k => q = 118 ∧ k = 0) ⟨rfl, rfl⟩) (fun q k e => by omega)
  have tm := rv0.2.1.1.2.1; have tr := rv0.2.1.1.2.2.1; have tb := rv0.2.1.1.1; have hB1 := rv.2.2.2.2.1.1; have hB2 := rv.2.2.2.2.1.2.1; have hM8 := rv.2.2.2.2.1.2.2.1; have hR8 := rv.2.2.2.2.1.2.2.2.1; have hS12 := rv.2.2.2.2.1.2.2.2.2.1; have hT := RV_b rv
  rcases arg_w x0 (a := 1) (b := 40) (by decide) (by decide) with ⟨n, h1_n, h_n, rfl⟩ | b0
  · refine Ag_ok iv0 ?_ rfl (cl_unsung cv hx h1_n h_n) (fun τ fr => re_unsung (Ws_rv rv fr) hx h1_n h_n)
    unfold e_L_unsung g_X10_unsung
    rw [zg0, show g_X10_needWithin (nI n) 1 40 (mk σ w u) = none from needWithin_g (a := 1) (b := 40) h1_n h_n (by decide), show f_X10_needWithin (nI n) 1 40 (mk σ w u) = some (mk σ w u) from needWithin_f (a := 1) (b := 40) h1_n h_n (by decide), xb_n]
    all_goals rfl
  · refine Ag_bad (c := nI 1) (v := 0) iv0 (by decide) ?_ ?_
    · unfold e_L_unsung g_X10_unsung
      rw [zg0, show g_X10_needWithin x0 1 40 (mk σ w u) = some (1, mk σ w u) from needWithin_b (a := 1) (b := 40) b0, xb_s, Option.bind_some, hx_1, show (1 : Int32) = nI 1 from rfl]
    · unfold f_X11_unsung
      rw [zg118, zw118_0, Option.bind_some]
      rw [show f_X11_isNights 118 x0 1 1 (mk (s2 σ 118 0 0) w u) = some (nI 0, mk (s2 (s2 σ 118 0 0) 118 0 (nI 1)) w u) from isNights_0 (a := 1) (c := 1) b0 (by omega) t0, Option.bind_some]
      dsimp only
      rw [if_pos (show nI 0 = 0 by decide)]
      all_goals rfl
theorem ag_most (x0 : Int32) : Ag (fun h => e_L_most 0 x0 138 h) (fun h => f_L_most 0 x0 138 h) (fun h => f_X11_most 118 x0 h) := by
  intro σ w u iv
  have iv0 := iv
  obtain ⟨A, P, X, cv, rv, ⟨N, K, O, U, S, ca, ra, hN, okA⟩, ⟨M, s, cs, rs, hMs, okS⟩, ik, it0⟩ := iv
  have hx := okA.1
  have t0 : (s2 σ 118 0 0) 118 0 = nI 0 := by rw [s2_at rfl rfl]; rfl
  have rv0 : RV (s2 σ 118 0 0) 0 A P X 0 := RV_F rv (Fr_s (W := fun q k => q = 118 ∧ k = 0) ⟨rfl, rfl⟩) (fun q k e => by omega)
  have tm := rv0.2.1.1.2.1; have tr := rv0.2.1.1.2.2.1; have tb := rv0.2.1.1.1; have hB1 := rv.2.2.2.2.1.1; have hB2 := rv.2.2.2.2.1.2.1; have hM8 := rv.2.2.2.2.1.2.2.1; have hR8 := rv.2.2.2.2.1.2.2.2.1; have hS12 := rv.2.2.2.2.1.2.2.2.2.1; have hT := RV_b rv
  rcases arg_w x0 (a := 1) (b := 40) (by decide) (by decide) with ⟨n, h1_n, h_n, rfl⟩ | b0
  · refine Ag_ok iv0 ?_ rfl (cl_most cv hx h1_n h_n) (fun τ fr => re_most (Ws_rv rv fr) hx h1_n h_n)
    unfold e_L_most g_X10_most
    rw [zg0, show g_X10_needWithin (nI n) 1 40 (mk σ w u) = none from needWithin_g (a := 1) (b := 40) h1_n h_n (by decide), show f_X10_needWithin (nI n) 1 40 (mk σ w u) = some (mk σ w u) from needWithin_f (a := 1) (b := 40) h1_n h_n (by decide), xb_n]
    all_goals rfl
  · refine Ag_bad (c := nI 1) (v := 0) iv0 (by decide) ?_ ?_
    · unfold e_L_most g_X10_most
      rw [zg0, show g_X10_needWithin x0 1 40 (mk σ w u) = some (1, mk σ w u) from needWithin_b (a := 1) (b := 40) b0, xb_s, Option.bind_some, hx_1, show (1 : Int32) = nI 1 from rfl]
    · unfold f_X11_most
      rw [zg118, zw118_0, Option.bind_some]
      rw [show f_X11_isNights 118 x0 1 1 (mk (s2 σ 118 0 0) w u) = some (nI 0, mk (s2 (s2 σ 118 0 0) 118 0 (nI 1)) w u) from isNights_0 (a := 1) (c := 1) b0 (by omega) t0, Option.bind_some]
      dsimp only
      rw [if_pos (show nI 0 = 0 by decide)]
      all_goals rfl
theorem ag_often (x0 x1 : Int32) : Ag (fun h => e_L_often 0 x0 x1 138 h) (fun h => f_L_often 0 x0 x1 138 h) (fun h => f_X11_often 118 x0 x1 h) := by
  intro σ w u iv
  have iv0 := iv
  obtain ⟨A, P, X, cv, rv, ⟨N, K, O, U, S, ca, ra, hN, okA⟩, ⟨M, s, cs, rs, hMs, okS⟩, ik, it0⟩ := iv
  have hx := okA.1
  have t0 : (s2 σ 118 0 0) 118 0 = nI 0 := by rw [s2_at rfl rfl]; rfl
  have rv0 : RV (s2 σ 118 0 0) 0 A P X 0 := RV_F rv (Fr_s (W := fun q k => q = 118 ∧ k = 0) ⟨rfl, rfl⟩) (fun q k e => by omega)
  have tm := rv0.2.1.1.2.1; have tr := rv0.2.1.1.2.2.1; have tb := rv0.2.1.1.1; have hB1 := rv.2.2.2.2.1.1; have hB2 := rv.2.2.2.2.1.2.1; have hM8 := rv.2.2.2.2.1.2.2.1; have hR8 := rv.2.2.2.2.1.2.2.2.1; have hS12 := rv.2.2.2.2.1.2.2.2.2.1; have hT := RV_b rv
  rcases arg_w x1 (a := 0) (b := 1) (by decide) (by decide) with ⟨q, h1_q, h_q, rfl⟩ | b0
  · rcases arg_w x0 (a := 1) (b := 40) (by decide) (by decide) with ⟨n, h1_n, h_n, rfl⟩ | b1
    · refine Ag_ok iv0 ?_ rfl (cl_often cv hx h1_n h_n h_q) (fun τ fr => re_often (Ws_rv rv fr) hx h1_n h_n h_q)
      unfold e_L_often g_X10_often
      rw [zg0, show g_X10_needWhat (nI q) 1 (mk σ w u) = none from needWhat_g (b := 1) h_q (by decide), show f_X10_needWhat (nI q) 1 (mk σ w u) = some (mk σ w u) from needWhat_f (b := 1) h_q (by decide), xb_n, show g_X10_needWithin (nI n) 1 40 (mk σ w u) = none from needWithin_g (a := 1) (b := 40) h1_n h_n (by decide), show f_X10_needWithin (nI n) 1 40 (mk σ w u) = some (mk σ w u) from needWithin_f (a := 1) (b := 40) h1_n h_n (by decide), xb_n]
      all_goals rfl
    · refine Ag_bad (c := nI 2) (v := 0) iv0 (by decide) ?_ ?_
      · unfold e_L_often g_X10_often
        rw [zg0, show g_X10_needWhat (nI q) 1 (mk σ w u) = none from needWhat_g (b := 1) h_q (by decide), show f_X10_needWhat (nI q) 1 (mk σ w u) = some (mk σ w u) from needWhat_f (b := 1) h_q (by decide), xb_n, show g_X10_needWithin x0 1 40 (mk σ w u) = some (1, mk σ w u) from needWithin_b (a := 1) (b := 40) b1, xb_s, Option.bind_some, hx_1, show (2 : Int32) = nI 2 from rfl]
      · unfold f_X11_often
        rw [zg118, zw118_0, Option.bind_some]
        rw [show f_X11_isWhat 118 (nI q) 1 (mk (s2 σ 118 0 0) w u) = some (nI 1, mk (s2 σ 118 0 0) w u) from isWhat_1 (b := 1) h_q (by decide) t0, Option.bind_some]
        dsimp only
        rw [if_neg (show ¬ nI 1 = 0 by decide)]
        rw [show f_X11_isNights 118 x0 1 2 (mk (s2 σ 118 0 0) w u) = some (nI 0, mk (s2 (s2 σ 118 0 0) 118 0 (nI 2)) w u) from isNights_0 (a := 1) (c := 2) b1 (by omega) t0, Option.bind_some]
        dsimp only
        rw [if_pos (show nI 0 = 0 by decide)]
        all_goals (try unfold f_X11_often_24)
        all_goals rfl
  · refine Ag_bad (c := nI 1) (v := 0) iv0 (by decide) ?_ ?_
    · unfold e_L_often g_X10_often
      rw [zg0, show g_X10_needWhat x1 1 (mk σ w u) = some (0, mk σ w u) from needWhat_b (b := 1) b0, xb_s, Option.bind_some, hx_0, show (1 : Int32) = nI 1 from rfl]
    · unfold f_X11_often
      rw [zg118, zw118_0, Option.bind_some]
      rw [show f_X11_isWhat 118 x1 1 (mk (s2 σ 118 0 0) w u) = some (nI 0, mk (s2 (s2 σ 118 0 0) 118 0 (nI 1)) w u) from isWhat_0 (b := 1) b0 t0, Option.bind_some]
      dsimp only
      rw [if_pos (show nI 0 = 0 by decide)]
      all_goals (try unfold f_X11_often_24)
      all_goals rfl
theorem ag_far (x0 x1 : Int32) : Ag (fun h => e_L_far 0 x0 x1 138 h) (fun h => f_L_far 0 x0 x1 138 h) (fun h => f_X11_far 118 x0 x1 h) := by
  intro σ w u iv
  have iv0 := iv
  obtain ⟨A, P, X, cv, rv, ⟨N, K, O, U, S, ca, ra, hN, okA⟩, ⟨M, s, cs, rs, hMs, okS⟩, ik, it0⟩ := iv
  have hx := okA.1
  have t0 : (s2 σ 118 0 0) 118 0 = nI 0 := by rw [s2_at rfl rfl]; rfl
  have rv0 : RV (s2 σ 118 0 0) 0 A P X 0 := RV_F rv (Fr_s (W := fun q k => q = 118 ∧ k = 0) ⟨rfl, rfl⟩) (fun q k e => by omega)
  have tm := rv0.2.1.1.2.1; have tr := rv0.2.1.1.2.2.1; have tb := rv0.2.1.1.1; have hB1 := rv.2.2.2.2.1.1; have hB2 := rv.2.2.2.2.1.2.1; have hM8 := rv.2.2.2.2.1.2.2.1; have hR8 := rv.2.2.2.2.1.2.2.2.1; have hS12 := rv.2.2.2.2.1.2.2.2.2.1; have hT := RV_b rv
  rcases arg_d x0 (n := A 1) (by omega) with ⟨m, h_m, rfl⟩ | b0
  · rcases arg_d x1 (n := A 1) (by omega) with ⟨o, h_o, rfl⟩ | b1
    · refine Ag_ok iv0 ?_ rfl (cl_far cv h_m h_o) (fun τ fr => re_far (Ws_rv rv fr) h_m h_o)
      unfold e_L_far g_X10_far
      rw [zg0, needMan_g cv h_m, needMan_f cv h_m, xb_n, needMan_g cv h_o, needMan_f cv h_o, xb_n]
      all_goals rfl
    · refine Ag_bad (c := nI 1) (v := 0) iv0 (by decide) ?_ ?_
      · unfold e_L_far g_X10_far
        rw [zg0, needMan_g cv h_m, needMan_f cv h_m, xb_n, needMan_b cv b1, xb_s, Option.bind_some, hx_0, show (1 : Int32) = nI 1 from rfl]
      · unfold f_X11_far
        rw [zg118, zw118_0, Option.bind_some]
        rw [show f_X11_isMan 118 (nI m) (mk (s2 σ 118 0 0) w u) = some (nI 1, mk (s2 σ 118 0 0) w u) from isMan_1 tm (by omega) h_m t0, Option.bind_some]
        dsimp only
        rw [if_neg (show ¬ nI 1 = 0 by decide)]
        rw [show f_X11_isMan 118 x1 (mk (s2 σ 118 0 0) w u) = some (nI 0, mk (s2 (s2 σ 118 0 0) 118 0 (nI 1)) w u) from isMan_0 tm b1 t0, Option.bind_some]
        dsimp only
        rw [if_pos (show nI 0 = 0 by decide)]
        all_goals (try unfold f_X11_far_30)
        all_goals (try unfold f_X11_far_31)
        all_goals rfl
  · refine Ag_bad (c := nI 1) (v := 0) iv0 (by decide) ?_ ?_
    · unfold e_L_far g_X10_far
      rw [zg0, needMan_b cv b0, xb_s, Option.bind_some, hx_0, show (1 : Int32) = nI 1 from rfl]
    · unfold f_X11_far
      rw [zg118, zw118_0, Option.bind_some]
      rw [show f_X11_isMan 118 x0 (mk (s2 σ 118 0 0) w u) = some (nI 0, mk (s2 (s2 σ 118 0 0) 118 0 (nI 1)) w u) from isMan_0 tm b0 t0, Option.bind_some]
      dsimp only
      rw [if_pos (show nI 0 = 0 by decide)]
      all_goals (try unfold f_X11_far_30)
      all_goals (try unfold f_X11_far_31)
      all_goals rfl
theorem ag_apart (x0 : Int32) : Ag (fun h => e_L_apart 0 x0 138 h) (fun h => f_L_apart 0 x0 138 h) (fun h => f_X11_apart 118 x0 h) := by
  intro σ w u iv
  have iv0 := iv
  obtain ⟨A, P, X, cv, rv, ⟨N, K, O, U, S, ca, ra, hN, okA⟩, ⟨M, s, cs, rs, hMs, okS⟩, ik, it0⟩ := iv
  have hx := okA.1
  have t0 : (s2 σ 118 0 0) 118 0 = nI 0 := by rw [s2_at rfl rfl]; rfl
  have rv0 : RV (s2 σ 118 0 0) 0 A P X 0 := RV_F rv (Fr_s (W := fun q k => q = 118 ∧ k = 0) ⟨rfl, rfl⟩) (fun q k e => by omega)
  have tm := rv0.2.1.1.2.1; have tr := rv0.2.1.1.2.2.1; have tb := rv0.2.1.1.1; have hB1 := rv.2.2.2.2.1.1; have hB2 := rv.2.2.2.2.1.2.1; have hM8 := rv.2.2.2.2.1.2.2.1; have hR8 := rv.2.2.2.2.1.2.2.2.1; have hS12 := rv.2.2.2.2.1.2.2.2.2.1; have hT := RV_b rv
  rcases arg_w x0 (a := 1) (b := 12) (by decide) (by decide) with ⟨n, h1_n, h_n, rfl⟩ | b0
  · refine Ag_ok iv0 ?_ rfl (cl_apart cv h1_n h_n) (fun τ fr => re_apart (Ws_rv rv fr) h1_n h_n)
    unfold e_L_apart g_X10_apart
    rw [zg0, show g_X10_needWithin (nI n) 1 12 (mk σ w u) = none from needWithin_g (a := 1) (b := 12) h1_n h_n (by decide), show f_X10_needWithin (nI n) 1 12 (mk σ w u) = some (mk σ w u) from needWithin_f (a := 1) (b := 12) h1_n h_n (by decide), xb_n]
    all_goals rfl
  · refine Ag_bad (c := nI 1) (v := 0) iv0 (by decide) ?_ ?_
    · unfold e_L_apart g_X10_apart
      rw [zg0, show g_X10_needWithin x0 1 12 (mk σ w u) = some (1, mk σ w u) from needWithin_b (a := 1) (b := 12) b0, xb_s, Option.bind_some, hx_1, show (1 : Int32) = nI 1 from rfl]
    · unfold f_X11_apart
      rw [zg118, zw118_0, Option.bind_some]
      rw [show f_X11_within x0 1 12 (mk (s2 σ 118 0 0) w u) = some (nI 0, mk (s2 σ 118 0 0) w u) from within_0 (a := 1) (b := 12) b0 _, Option.bind_some]
      dsimp only
      rw [show f_X11_right 118 (nI 0) 1 (mk (s2 σ 118 0 0) w u) = some (nI 0, mk (s2 (s2 σ 118 0 0) 118 0 (nI 1)) w u) from right_0 (c := 1) (by omega) t0, Option.bind_some]
      dsimp only
      rw [if_pos (show nI 0 = 0 by decide)]
      all_goals rfl
theorem ag_tread (x0 : Int32) : Ag (fun h => e_L_tread 0 x0 138 h) (fun h => f_L_tread 0 x0 138 h) (fun h => f_X11_tread 118 x0 h) := by
  intro σ w u iv
  have iv0 := iv
  obtain ⟨A, P, X, cv, rv, ⟨N, K, O, U, S, ca, ra, hN, okA⟩, ⟨M, s, cs, rs, hMs, okS⟩, ik, it0⟩ := iv
  have hx := okA.1
  have t0 : (s2 σ 118 0 0) 118 0 = nI 0 := by rw [s2_at rfl rfl]; rfl
  have rv0 : RV (s2 σ 118 0 0) 0 A P X 0 := RV_F rv (Fr_s (W := fun q k => q = 118 ∧ k = 0) ⟨rfl, rfl⟩) (fun q k e => by omega)
  have tm := rv0.2.1.1.2.1; have tr := rv0.2.1.1.2.2.1; have tb := rv0.2.1.1.1; have hB1 := rv.2.2.2.2.1.1; have hB2 := rv.2.2.2.2.1.2.1; have hM8 := rv.2.2.2.2.1.2.2.1; have hR8 := rv.2.2.2.2.1.2.2.2.1; have hS12 := rv.2.2.2.2.1.2.2.2.2.1; have hT := RV_b rv
  rcases arg_w x0 (a := 0) (b := 1) (by decide) (by decide) with ⟨q, h1_q, h_q, rfl⟩ | b0
  · refine Ag_ok iv0 ?_ rfl (cl_tread cv h_q) (fun τ fr => re_tread (Ws_rv rv fr) h_q)
    unfold e_L_tread g_X10_tread
    rw [zg0, show g_X10_needWhat (nI q) 1 (mk σ w u) = none from needWhat_g (b := 1) h_q (by decide), show f_X10_needWhat (nI q) 1 (mk σ w u) = some (mk σ w u) from needWhat_f (b := 1) h_q (by decide), xb_n]
    all_goals rfl
  · refine Ag_bad (c := nI 1) (v := 0) iv0 (by decide) ?_ ?_
    · unfold e_L_tread g_X10_tread
      rw [zg0, show g_X10_needWhat x0 1 (mk σ w u) = some (0, mk σ w u) from needWhat_b (b := 1) b0, xb_s, Option.bind_some, hx_0, show (1 : Int32) = nI 1 from rfl]
    · unfold f_X11_tread
      rw [zg118, zw118_0, Option.bind_some]
      rw [show f_X11_isWhat 118 x0 1 (mk (s2 σ 118 0 0) w u) = some (nI 0, mk (s2 (s2 σ 118 0 0) 118 0 (nI 1)) w u) from isWhat_0 (b := 1) b0 t0, Option.bind_some]
      dsimp only
      rw [if_pos (show nI 0 = 0 by decide)]
      all_goals (try unfold f_X11_tread_118)
      all_goals rfl
theorem ag_lost (x0 : Int32) : Ag (fun h => e_L_lost 0 x0 138 h) (fun h => f_L_lost 0 x0 138 h) (fun h => f_X11_lost 118 x0 h) := by
  intro σ w u iv
  have iv0 := iv
  obtain ⟨A, P, X, cv, rv, ⟨N, K, O, U, S, ca, ra, hN, okA⟩, ⟨M, s, cs, rs, hMs, okS⟩, ik, it0⟩ := iv
  have hx := okA.1
  have t0 : (s2 σ 118 0 0) 118 0 = nI 0 := by rw [s2_at rfl rfl]; rfl
  have rv0 : RV (s2 σ 118 0 0) 0 A P X 0 := RV_F rv (Fr_s (W := fun q k => q = 118 ∧ k = 0) ⟨rfl, rfl⟩) (fun q k e => by omega)
  have tm := rv0.2.1.1.2.1; have tr := rv0.2.1.1.2.2.1; have tb := rv0.2.1.1.1; have hB1 := rv.2.2.2.2.1.1; have hB2 := rv.2.2.2.2.1.2.1; have hM8 := rv.2.2.2.2.1.2.2.1; have hR8 := rv.2.2.2.2.1.2.2.2.1; have hS12 := rv.2.2.2.2.1.2.2.2.2.1; have hT := RV_b rv
  rcases arg_d x0 (n := A 1) (by omega) with ⟨m, h_m, rfl⟩ | b0
  · refine Ag_ok iv0 ?_ rfl (cl_lost cv hx h_m) (fun τ fr => re_lost (Ws_rv rv fr) hx h_m)
    unfold e_L_lost g_X10_lost
    rw [zg0, needMan_g cv h_m, needMan_f cv h_m, xb_n]
    all_goals rfl
  · refine Ag_bad (c := nI 1) (v := 0) iv0 (by decide) ?_ ?_
    · unfold e_L_lost g_X10_lost
      rw [zg0, needMan_b cv b0, xb_s, Option.bind_some, hx_0, show (1 : Int32) = nI 1 from rfl]
    · unfold f_X11_lost
      rw [zg118, zw118_0, Option.bind_some]
      rw [show f_X11_isMan 118 x0 (mk (s2 σ 118 0 0) w u) = some (nI 0, mk (s2 (s2 σ 118 0 0) 118 0 (nI 1)) w u) from isMan_0 tm b0 t0, Option.bind_some]
      dsimp only
      rw [if_pos (show nI 0 = 0 by decide)]
      all_goals (try unfold f_X11_lost_55)
      all_goals rfl
theorem ag_mates (x0 : Int32) : Ag (fun h => e_L_mates 0 x0 138 h) (fun h => f_L_mates 0 x0 138 h) (fun h => f_X11_mates 118 x0 h) := by
  intro σ w u iv
  have iv0 := iv
  obtain ⟨A, P, X, cv, rv, ⟨N, K, O, U, S, ca, ra, hN, okA⟩, ⟨M, s, cs, rs, hMs, okS⟩, ik, it0⟩ := iv
  have hx := okA.1
  have t0 : (s2 σ 118 0 0) 118 0 = nI 0 := by rw [s2_at rfl rfl]; rfl
  have rv0 : RV (s2 σ 118 0 0) 0 A P X 0 := RV_F rv (Fr_s (W := fun q k => q = 118 ∧ k = 0) ⟨rfl, rfl⟩) (fun q k e => by omega)
  have tm := rv0.2.1.1.2.1; have tr := rv0.2.1.1.2.2.1; have tb := rv0.2.1.1.1; have hB1 := rv.2.2.2.2.1.1; have hB2 := rv.2.2.2.2.1.2.1; have hM8 := rv.2.2.2.2.1.2.2.1; have hR8 := rv.2.2.2.2.1.2.2.2.1; have hS12 := rv.2.2.2.2.1.2.2.2.2.1; have hT := RV_b rv
  rcases arg_d x0 (n := A 1) (by omega) with ⟨m, h_m, rfl⟩ | b0
  · refine Ag_ok iv0 ?_ rfl (cl_mates cv h_m) (fun τ fr => re_mates (Ws_rv rv fr) h_m)
    unfold e_L_mates g_X10_mates
    rw [zg0, needMan_g cv h_m, needMan_f cv h_m, xb_n]
    all_goals rfl
  · refine Ag_bad (c := nI 1) (v := 0) iv0 (by decide) ?_ ?_
    · unfold e_L_mates g_X10_mates
      rw [zg0, needMan_b cv b0, xb_s, Option.bind_some, hx_0, show (1 : Int32) = nI 1 from rfl]
    · unfold f_X11_mates
      rw [zg118, zw118_0, Option.bind_some]
      rw [show f_X11_isMan 118 x0 (mk (s2 σ 118 0 0) w u) = some (nI 0, mk (s2 (s2 σ 118 0 0) 118 0 (nI 1)) w u) from isMan_0 tm b0 t0, Option.bind_some]
      dsimp only
      rw [if_pos (show nI 0 = 0 by decide)]
      all_goals (try unfold f_X11_mates_46)
      all_goals rfl
theorem ag_chain (x0 x1 x2 : Int32) : Ag (fun h => e_L_chain 0 x0 x1 x2 138 h) (fun h => f_L_chain 0 x0 x1 x2 138 h) (fun h => f_X11_chain 118 x0 x1 x2 h) := by
  intro σ w u iv
  have iv0 := iv
  obtain ⟨A, P, X, cv, rv, ⟨N, K, O, U, S, ca, ra, hN, okA⟩, ⟨M, s, cs, rs, hMs, okS⟩, ik, it0⟩ := iv
  have hx := okA.1
  have t0 : (s2 σ 118 0 0) 118 0 = nI 0 := by rw [s2_at rfl rfl]; rfl
  have rv0 : RV (s2 σ 118 0 0) 0 A P X 0 := RV_F rv (Fr_s (W := fun q k => q = 118 ∧ k = 0) ⟨rfl, rfl⟩) (fun q k e => by omega)
  have tm := rv0.2.1.1.2.1; have tr := rv0.2.1.1.2.2.1; have tb := rv0.2.1.1.1; have hB1 := rv.2.2.2.2.1.1; have hB2 := rv.2.2.2.2.1.2.1; have hM8 := rv.2.2.2.2.1.2.2.1; have hR8 := rv.2.2.2.2.1.2.2.2.1; have hS12 := rv.2.2.2.2.1.2.2.2.2.1; have hT := RV_b rv
  rcases arg_d x0 (n := A 1) (by omega) with ⟨m, h_m, rfl⟩ | b0
  · rcases arg_d x1 (n := A 1) (by omega) with ⟨o, h_o, rfl⟩ | b1
    · rcases arg_w x2 (a := 1) (b := 12) (by decide) (by decide) with ⟨n, h1_n, h_n, rfl⟩ | b2
      · refine Ag_ok iv0 ?_ rfl (cl_chain cv h_m h_o h1_n h_n) (fun τ fr => re_chain (Ws_rv rv fr) h_m h_o h1_n h_n)
        unfold e_L_chain g_X10_chain
        rw [zg0, needMan_g cv h_m, needMan_f cv h_m, xb_n, needMan_g cv h_o, needMan_f cv h_o, xb_n, show g_X10_needWithin (nI n) 1 12 (mk σ w u) = none from needWithin_g (a := 1) (b := 12) h1_n h_n (by decide), show f_X10_needWithin (nI n) 1 12 (mk σ w u) = some (mk σ w u) from needWithin_f (a := 1) (b := 12) h1_n h_n (by decide), xb_n]
        all_goals rfl
      · refine Ag_bad (c := nI 2) (v := 0) iv0 (by decide) ?_ ?_
        · unfold e_L_chain g_X10_chain
          rw [zg0, needMan_g cv h_m, needMan_f cv h_m, xb_n, needMan_g cv h_o, needMan_f cv h_o, xb_n, show g_X10_needWithin x2 1 12 (mk σ w u) = some (1, mk σ w u) from needWithin_b (a := 1) (b := 12) b2, xb_s, Option.bind_some, hx_1, show (2 : Int32) = nI 2 from rfl]
        · unfold f_X11_chain
          rw [zg118, zw118_0, Option.bind_some]
          rw [show f_X11_isMan 118 (nI m) (mk (s2 σ 118 0 0) w u) = some (nI 1, mk (s2 σ 118 0 0) w u) from isMan_1 tm (by omega) h_m t0, Option.bind_some]
          dsimp only
          rw [if_neg (show ¬ nI 1 = 0 by decide)]
          rw [show f_X11_isMan 118 (nI o) (mk (s2 σ 118 0 0) w u) = some (nI 1, mk (s2 σ 118 0 0) w u) from isMan_1 tm (by omega) h_o t0, Option.bind_some]
          dsimp only
          rw [if_neg (show ¬ nI 1 = 0 by decide)]
          rw [show f_X11_within x2 1 12 (mk (s2 σ 118 0 0) w u) = some (nI 0, mk (s2 σ 118 0 0) w u) from within_0 (a := 1) (b := 12) b2 _, Option.bind_some]
          dsimp only
          rw [show f_X11_right 118 (nI 0) 2 (mk (s2 σ 118 0 0) w u) = some (nI 0, mk (s2 (s2 σ 118 0 0) 118 0 (nI 2)) w u) from right_0 (c := 2) (by omega) t0, Option.bind_some]
          dsimp only
          rw [if_pos (show nI 0 = 0 by decide)]
          all_goals (try unfold f_X11_chain_36)
          all_goals rfl
    · refine Ag_bad (c := nI 1) (v := 0) iv0 (by decide) ?_ ?_
      · unfold e_L_chain g_X10_chain
        rw [zg0, needMan_g cv h_m, needMan_f cv h_m, xb_n, needMan_b cv b1, xb_s, Option.bind_some, hx_0, show (1 : Int32) = nI 1 from rfl]
      · unfold f_X11_chain
        rw [zg118, zw118_0, Option.bind_some]
        rw [show f_X11_isMan 118 (nI m) (mk (s2 σ 118 0 0) w u) = some (nI 1, mk (s2 σ 118 0 0) w u) from isMan_1 tm (by omega) h_m t0, Option.bind_some]
        dsimp only
        rw [if_neg (show ¬ nI 1 = 0 by decide)]
        rw [show f_X11_isMan 118 x1 (mk (s2 σ 118 0 0) w u) = some (nI 0, mk (s2 (s2 σ 118 0 0) 118 0 (nI 1)) w u) from isMan_0 tm b1 t0, Option.bind_some]
        dsimp only
        rw [if_pos (show nI 0 = 0 by decide)]
        all_goals (try unfold f_X11_chain_36)
        all_goals rfl
  · refine Ag_bad (c := nI 1) (v := 0) iv0 (by decide) ?_ ?_
    · unfold e_L_chain g_X10_chain
      rw [zg0, needMan_b cv b0, xb_s, Option.bind_some, hx_0, show (1 : Int32) = nI 1 from rfl]
    · unfold f_X11_chain
      rw [zg118, zw118_0, Option.bind_some]
      rw [show f_X11_isMan 118 x0 (mk (s2 σ 118 0 0) w u) = some (nI 0, mk (s2 (s2 σ 118 0 0) 118 0 (nI 1)) w u) from isMan_0 tm b0 t0, Option.bind_some]
      dsimp only
      rw [if_pos (show nI 0 = 0 by decide)]
      all_goals (try unfold f_X11_chain_36)
      all_goals rfl
theorem ag_run (x0 : Int32) : Ag (fun h => e_L_run 0 x0 138 h) (fun h => f_L_run 0 x0 138 h) (fun h => f_X11_run 118 x0 h) := by
  intro σ w u iv
  have iv0 := iv
  obtain ⟨A, P, X, cv, rv, ⟨N, K, O, U, S, ca, ra, hN, okA⟩, ⟨M, s, cs, rs, hMs, okS⟩, ik, it0⟩ := iv
  have hx := okA.1
  have t0 : (s2 σ 118 0 0) 118 0 = nI 0 := by rw [s2_at rfl rfl]; rfl
  have rv0 : RV (s2 σ 118 0 0) 0 A P X 0 := RV_F rv (Fr_s (W := fun q k => q = 118 ∧ k = 0) ⟨rfl, rfl⟩) (fun q k e => by omega)
  have tm := rv0.2.1.1.2.1; have tr := rv0.2.1.1.2.2.1; have tb := rv0.2.1.1.1; have hB1 := rv.2.2.2.2.1.1; have hB2 := rv.2.2.2.2.1.2.1; have hM8 := rv.2.2.2.2.1.2.2.1; have hR8 := rv.2.2.2.2.1.2.2.2.1; have hS12 := rv.2.2.2.2.1.2.2.2.2.1; have hT := RV_b rv
  rcases arg_d x0 (n := A 1) (by omega) with ⟨m, h_m, rfl⟩ | b0
  · refine Ag_ok iv0 ?_ rfl (cl_run cv h_m) (fun τ fr => re_run (Ws_rv rv fr) h_m)
    unfold e_L_run g_X10_run
    rw [zg0, needMan_g cv h_m, needMan_f cv h_m, xb_n]
    all_goals rfl
  · refine Ag_bad (c := nI 1) (v := 0) iv0 (by decide) ?_ ?_
    · unfold e_L_run g_X10_run
      rw [zg0, needMan_b cv b0, xb_s, Option.bind_some, hx_0, show (1 : Int32) = nI 1 from rfl]
    · unfold f_X11_run
      rw [zg118, zw118_0, Option.bind_some]
      rw [show f_X11_isMan 118 x0 (mk (s2 σ 118 0 0) w u) = some (nI 0, mk (s2 (s2 σ 118 0 0) 118 0 (nI 1)) w u) from isMan_0 tm b0 t0, Option.bind_some]
      dsimp only
      rw [if_pos (show nI 0 = 0 by decide)]
      all_goals rfl
theorem ag_passes (x0 x1 : Int32) : Ag (fun h => e_L_passes 0 x0 x1 138 h) (fun h => f_L_passes 0 x0 x1 138 h) (fun h => f_X11_passes 118 x0 x1 h) := by
  intro σ w u iv
  have iv0 := iv
  obtain ⟨A, P, X, cv, rv, ⟨N, K, O, U, S, ca, ra, hN, okA⟩, ⟨M, s, cs, rs, hMs, okS⟩, ik, it0⟩ := iv
  have hx := okA.1
  have t0 : (s2 σ 118 0 0) 118 0 = nI 0 := by rw [s2_at rfl rfl]; rfl
  have rv0 : RV (s2 σ 118 0 0) 0 A P X 0 := RV_F rv (Fr_s (W := fun q k => q = 118 ∧ k = 0) ⟨rfl, rfl⟩) (fun q k e => by omega)
  have tm := rv0.2.1.1.2.1; have tr := rv0.2.1.1.2.2.1; have tb := rv0.2.1.1.1; have hB1 := rv.2.2.2.2.1.1; have hB2 := rv.2.2.2.2.1.2.1; have hM8 := rv.2.2.2.2.1.2.2.1; have hR8 := rv.2.2.2.2.1.2.2.2.1; have hS12 := rv.2.2.2.2.1.2.2.2.2.1; have hT := RV_b rv
  rcases arg_d x0 (n := A 1) (by omega) with ⟨m, h_m, rfl⟩ | b0
  · rcases arg_d x1 (n := A 1) (by omega) with ⟨o, h_o, rfl⟩ | b1
    · refine Ag_ok iv0 ?_ rfl (cl_passes cv hx h_m h_o) (fun τ fr => re_passes (Ws_rv rv fr) hx h_m h_o)
      unfold e_L_passes g_X10_passes
      rw [zg0, needMan_g cv h_m, needMan_f cv h_m, xb_n, needMan_g cv h_o, needMan_f cv h_o, xb_n]
      all_goals rfl
    · refine Ag_bad (c := nI 1) (v := 0) iv0 (by decide) ?_ ?_
      · unfold e_L_passes g_X10_passes
        rw [zg0, needMan_g cv h_m, needMan_f cv h_m, xb_n, needMan_b cv b1, xb_s, Option.bind_some, hx_0, show (1 : Int32) = nI 1 from rfl]
      · unfold f_X11_passes
        rw [zg118, zw118_0, Option.bind_some]
        rw [show f_X11_isMan 118 (nI m) (mk (s2 σ 118 0 0) w u) = some (nI 1, mk (s2 σ 118 0 0) w u) from isMan_1 tm (by omega) h_m t0, Option.bind_some]
        dsimp only
        rw [if_neg (show ¬ nI 1 = 0 by decide)]
        rw [show f_X11_isMan 118 x1 (mk (s2 σ 118 0 0) w u) = some (nI 0, mk (s2 (s2 σ 118 0 0) 118 0 (nI 1)) w u) from isMan_0 tm b1 t0, Option.bind_some]
        dsimp only
        rw [if_pos (show nI 0 = 0 by decide)]
        all_goals (try unfold f_X11_passes_21)
        all_goals rfl
  · refine Ag_bad (c := nI 1) (v := 0) iv0 (by decide) ?_ ?_
    · unfold e_L_passes g_X10_passes
      rw [zg0, needMan_b cv b0, xb_s, Option.bind_some, hx_0, show (1 : Int32) = nI 1 from rfl]
    · unfold f_X11_passes
      rw [zg118, zw118_0, Option.bind_some]
      rw [show f_X11_isMan 118 x0 (mk (s2 σ 118 0 0) w u) = some (nI 0, mk (s2 (s2 σ 118 0 0) 118 0 (nI 1)) w u) from isMan_0 tm b0 t0, Option.bind_some]
      dsimp only
      rw [if_pos (show nI 0 = 0 by decide)]
      all_goals (try unfold f_X11_passes_21)
      all_goals rfl
theorem ag_hidden (x0 : Int32) : Ag (fun h => e_L_hidden 0 x0 138 h) (fun h => f_L_hidden 0 x0 138 h) (fun h => f_X11_hidden 118 x0 h) := by
  intro σ w u iv
  have iv0 := iv
  obtain ⟨A, P, X, cv, rv, ⟨N, K, O, U, S, ca, ra, hN, okA⟩, ⟨M, s, cs, rs, hMs, okS⟩, ik, it0⟩ := iv
  have hx := okA.1
  have t0 : (s2 σ 118 0 0) 118 0 = nI 0 := by rw [s2_at rfl rfl]; rfl
  have rv0 : RV (s2 σ 118 0 0) 0 A P X 0 := RV_F rv (Fr_s (W := fun q k => q = 118 ∧ k = 0) ⟨rfl, rfl⟩) (fun q k e => by omega)
  have tm := rv0.2.1.1.2.1; have tr := rv0.2.1.1.2.2.1; have tb := rv0.2.1.1.1; have hB1 := rv.2.2.2.2.1.1; have hB2 := rv.2.2.2.2.1.2.1; have hM8 := rv.2.2.2.2.1.2.2.1; have hR8 := rv.2.2.2.2.1.2.2.2.1; have hS12 := rv.2.2.2.2.1.2.2.2.2.1; have hT := RV_b rv
  rcases arg_d x0 (n := A 1) (by omega) with ⟨m, h_m, rfl⟩ | b0
  · refine Ag_ok iv0 ?_ rfl (cl_hidden cv hx h_m) (fun τ fr => re_hidden (Ws_rv rv fr) hx h_m)
    unfold e_L_hidden g_X10_hidden
    rw [zg0, needMan_g cv h_m, needMan_f cv h_m, xb_n]
    all_goals rfl
  · refine Ag_bad (c := nI 1) (v := 0) iv0 (by decide) ?_ ?_
    · unfold e_L_hidden g_X10_hidden
      rw [zg0, needMan_b cv b0, xb_s, Option.bind_some, hx_0, show (1 : Int32) = nI 1 from rfl]
    · unfold f_X11_hidden
      rw [zg118, zw118_0, Option.bind_some]
      rw [show f_X11_isMan 118 x0 (mk (s2 σ 118 0 0) w u) = some (nI 0, mk (s2 (s2 σ 118 0 0) 118 0 (nI 1)) w u) from isMan_0 tm b0 t0, Option.bind_some]
      dsimp only
      rw [if_pos (show nI 0 = 0 by decide)]
      all_goals rfl
theorem ag_toSock (x0 : Int32) : Ag (fun h => e_L_toSock 0 x0 138 h) (fun h => f_L_toSock 0 x0 138 h) (fun h => f_X11_toSock 118 x0 h) := by
  intro σ w u iv
  have iv0 := iv
  obtain ⟨A, P, X, cv, rv, ⟨N, K, O, U, S, ca, ra, hN, okA⟩, ⟨M, s, cs, rs, hMs, okS⟩, ik, it0⟩ := iv
  have hx := okA.1
  have t0 : (s2 σ 118 0 0) 118 0 = nI 0 := by rw [s2_at rfl rfl]; rfl
  have rv0 : RV (s2 σ 118 0 0) 0 A P X 0 := RV_F rv (Fr_s (W := fun q k => q = 118 ∧ k = 0) ⟨rfl, rfl⟩) (fun q k e => by omega)
  have tm := rv0.2.1.1.2.1; have tr := rv0.2.1.1.2.2.1; have tb := rv0.2.1.1.1; have hB1 := rv.2.2.2.2.1.1; have hB2 := rv.2.2.2.2.1.2.1; have hM8 := rv.2.2.2.2.1.2.2.1; have hR8 := rv.2.2.2.2.1.2.2.2.1; have hS12 := rv.2.2.2.2.1.2.2.2.2.1; have hT := RV_b rv
  rcases arg_d x0 (n := A 1) (by omega) with ⟨m, h_m, rfl⟩ | b0
  · refine Ag_ok iv0 ?_ rfl (cl_toSock cv hx h_m) (fun τ fr => re_toSock (Ws_rv rv fr) hx h_m)
    unfold e_L_toSock g_X10_toSock
    rw [zg0, needMan_g cv h_m, needMan_f cv h_m, xb_n]
    all_goals rfl
  · refine Ag_bad (c := nI 1) (v := 0) iv0 (by decide) ?_ ?_
    · unfold e_L_toSock g_X10_toSock
      rw [zg0, needMan_b cv b0, xb_s, Option.bind_some, hx_0, show (1 : Int32) = nI 1 from rfl]
    · unfold f_X11_toSock
      rw [zg118, zw118_0, Option.bind_some]
      rw [show f_X11_isMan 118 x0 (mk (s2 σ 118 0 0) w u) = some (nI 0, mk (s2 (s2 σ 118 0 0) 118 0 (nI 1)) w u) from isMan_0 tm b0 t0, Option.bind_some]
      dsimp only
      rw [if_pos (show nI 0 = 0 by decide)]
      all_goals rfl
theorem ag_spoilt (x0 : Int32) : Ag (fun h => e_L_spoilt 0 x0 138 h) (fun h => f_L_spoilt 0 x0 138 h) (fun h => f_X11_spoilt 118 x0 h) := by
  intro σ w u iv
  have iv0 := iv
  obtain ⟨A, P, X, cv, rv, ⟨N, K, O, U, S, ca, ra, hN, okA⟩, ⟨M, s, cs, rs, hMs, okS⟩, ik, it0⟩ := iv
  have hx := okA.1
  have t0 : (s2 σ 118 0 0) 118 0 = nI 0 := by rw [s2_at rfl rfl]; rfl
  have rv0 : RV (s2 σ 118 0 0) 0 A P X 0 := RV_F rv (Fr_s (W := fun q k => q = 118 ∧ k = 0) ⟨rfl, rfl⟩) (fun q k e => by omega)
  have tm := rv0.2.1.1.2.1; have tr := rv0.2.1.1.2.2.1; have tb := rv0.2.1.1.1; have hB1 := rv.2.2.2.2.1.1; have hB2 := rv.2.2.2.2.1.2.1; have hM8 := rv.2.2.2.2.1.2.2.1; have hR8 := rv.2.2.2.2.1.2.2.2.1; have hS12 := rv.2.2.2.2.1.2.2.2.2.1; have hT := RV_b rv
  rcases arg_d x0 (n := A 1) (by omega) with ⟨m, h_m, rfl⟩ | b0
  · refine Ag_ok iv0 ?_ rfl (cl_spoilt cv hx h_m) (fun τ fr => re_spoilt (Ws_rv rv fr) hx h_m)
    unfold e_L_spoilt g_X10_spoilt
    rw [zg0, needMan_g cv h_m, needMan_f cv h_m, xb_n]
    all_goals rfl
  · refine Ag_bad (c := nI 1) (v := 0) iv0 (by decide) ?_ ?_
    · unfold e_L_spoilt g_X10_spoilt
      rw [zg0, needMan_b cv b0, xb_s, Option.bind_some, hx_0, show (1 : Int32) = nI 1 from rfl]
    · unfold f_X11_spoilt
      rw [zg118, zw118_0, Option.bind_some]
      rw [show f_X11_isMan 118 x0 (mk (s2 σ 118 0 0) w u) = some (nI 0, mk (s2 (s2 σ 118 0 0) 118 0 (nI 1)) w u) from isMan_0 tm b0 t0, Option.bind_some]
      dsimp only
      rw [if_pos (show nI 0 = 0 by decide)]
      all_goals rfl
theorem ag_reform (x0 x1 : Int32) : Ag (fun h => e_L_reform 0 x0 x1 138 h) (fun h => f_L_reform 0 x0 x1 138 h) (fun h => f_X11_reform 118 x0 x1 h) := by
  intro σ w u iv
  have iv0 := iv
  obtain ⟨A, P, X, cv, rv, ⟨N, K, O, U, S, ca, ra, hN, okA⟩, ⟨M, s, cs, rs, hMs, okS⟩, ik, it0⟩ := iv
  have hx := okA.1
  have t0 : (s2 σ 118 0 0) 118 0 = nI 0 := by rw [s2_at rfl rfl]; rfl
  have rv0 : RV (s2 σ 118 0 0) 0 A P X 0 := RV_F rv (Fr_s (W := fun q k => q = 118 ∧ k = 0) ⟨rfl, rfl⟩) (fun q k e => by omega)
  have tm := rv0.2.1.1.2.1; have tr := rv0.2.1.1.2.2.1; have tb := rv0.2.1.1.1; have hB1 := rv.2.2.2.2.1.1; have hB2 := rv.2.2.2.2.1.2.1; have hM8 := rv.2.2.2.2.1.2.2.1; have hR8 := rv.2.2.2.2.1.2.2.2.1; have hS12 := rv.2.2.2.2.1.2.2.2.2.1; have hT := RV_b rv
  rcases arg_d x0 (n := A 1) (by omega) with ⟨m, h_m, rfl⟩ | b0
  · rcases arg_w x1 (a := 0) (b := 1) (by decide) (by decide) with ⟨q, h1_q, h_q, rfl⟩ | b1
    · refine Ag_ok iv0 ?_ rfl (cl_reform cv hx h_m h_q) (fun τ fr => re_reform (Ws_rv rv fr) hx h_m h_q)
      unfold e_L_reform g_X10_reform
      rw [zg0, needMan_g cv h_m, needMan_f cv h_m, xb_n, show g_X10_needWhat (nI q) 1 (mk σ w u) = none from needWhat_g (b := 1) h_q (by decide), show f_X10_needWhat (nI q) 1 (mk σ w u) = some (mk σ w u) from needWhat_f (b := 1) h_q (by decide), xb_n]
      all_goals rfl
    · refine Ag_bad (c := nI 1) (v := 0) iv0 (by decide) ?_ ?_
      · unfold e_L_reform g_X10_reform
        rw [zg0, needMan_g cv h_m, needMan_f cv h_m, xb_n, show g_X10_needWhat x1 1 (mk σ w u) = some (0, mk σ w u) from needWhat_b (b := 1) b1, xb_s, Option.bind_some, hx_0, show (1 : Int32) = nI 1 from rfl]
      · unfold f_X11_reform
        rw [zg118, zw118_0, Option.bind_some]
        rw [show f_X11_isMan 118 (nI m) (mk (s2 σ 118 0 0) w u) = some (nI 1, mk (s2 σ 118 0 0) w u) from isMan_1 tm (by omega) h_m t0, Option.bind_some]
        dsimp only
        rw [if_neg (show ¬ nI 1 = 0 by decide)]
        rw [show f_X11_isWhat 118 x1 1 (mk (s2 σ 118 0 0) w u) = some (nI 0, mk (s2 (s2 σ 118 0 0) 118 0 (nI 1)) w u) from isWhat_0 (b := 1) b1 t0, Option.bind_some]
        dsimp only
        rw [if_pos (show nI 0 = 0 by decide)]
        all_goals (try unfold f_X11_reform_148)
        all_goals (try unfold f_X11_reform_22)
        all_goals rfl
  · refine Ag_bad (c := nI 1) (v := 0) iv0 (by decide) ?_ ?_
    · unfold e_L_reform g_X10_reform
      rw [zg0, needMan_b cv b0, xb_s, Option.bind_some, hx_0, show (1 : Int32) = nI 1 from rfl]
    · unfold f_X11_reform
      rw [zg118, zw118_0, Option.bind_some]
      rw [show f_X11_isMan 118 x0 (mk (s2 σ 118 0 0) w u) = some (nI 0, mk (s2 (s2 σ 118 0 0) 118 0 (nI 1)) w u) from isMan_0 tm b0 t0, Option.bind_some]
      dsimp only
      rw [if_pos (show nI 0 = 0 by decide)]
      all_goals (try unfold f_X11_reform_148)
      all_goals (try unfold f_X11_reform_22)
      all_goals rfl
theorem ag_reviews (x0 x1 x2 : Int32) : Ag (fun h => e_L_reviews 0 x0 x1 x2 138 h) (fun h => f_L_reviews 0 x0 x1 x2 138 h) (fun h => f_X11_reviews 118 x0 x1 x2 h) := by
  intro σ w u iv
  have iv0 := iv
  obtain ⟨A, P, X, cv, rv, ⟨N, K, O, U, S, ca, ra, hN, okA⟩, ⟨M, s, cs, rs, hMs, okS⟩, ik, it0⟩ := iv
  have hx := okA.1
  have t0 : (s2 σ 118 0 0) 118 0 = nI 0 := by rw [s2_at rfl rfl]; rfl
  have rv0 : RV (s2 σ 118 0 0) 0 A P X 0 := RV_F rv (Fr_s (W := fun q k => q = 118 ∧ k = 0) ⟨rfl, rfl⟩) (fun q k e => by omega)
  have tm := rv0.2.1.1.2.1; have tr := rv0.2.1.1.2.2.1; have tb := rv0.2.1.1.1; have hB1 := rv.2.2.2.2.1.1; have hB2 := rv.2.2.2.2.1.2.1; have hM8 := rv.2.2.2.2.1.2.2.1; have hR8 := rv.2.2.2.2.1.2.2.2.1; have hS12 := rv.2.2.2.2.1.2.2.2.2.1; have hT := RV_b rv
  rcases arg_w x2 (a := 0) (b := 2) (by decide) (by decide) with ⟨q, h1_q, h_q, rfl⟩ | b0
  · rcases arg_w x1 (a := 0) (b := 40) (by decide) (by decide) with ⟨n, h1_n, h_n, rfl⟩ | b1
    · refine Ag_ok iv0 ?_ rfl (cl_reviews cv hx h_n h_q) (fun τ fr => re_reviews (Ws_rv rv fr) hx h_n h_q)
      unfold e_L_reviews g_X10_reviews
      rw [zg0, show g_X10_needWhat (nI q) 2 (mk σ w u) = none from needWhat_g (b := 2) h_q (by decide), show f_X10_needWhat (nI q) 2 (mk σ w u) = some (mk σ w u) from needWhat_f (b := 2) h_q (by decide), xb_n, show g_X10_needWithin (nI n) 0 40 (mk σ w u) = none from needWithin_g (a := 0) (b := 40) h1_n h_n (by decide), show f_X10_needWithin (nI n) 0 40 (mk σ w u) = some (mk σ w u) from needWithin_f (a := 0) (b := 40) h1_n h_n (by decide), xb_n]
      all_goals rfl
    · refine Ag_bad (c := nI 2) (v := 0) iv0 (by decide) ?_ ?_
      · unfold e_L_reviews g_X10_reviews
        rw [zg0, show g_X10_needWhat (nI q) 2 (mk σ w u) = none from needWhat_g (b := 2) h_q (by decide), show f_X10_needWhat (nI q) 2 (mk σ w u) = some (mk σ w u) from needWhat_f (b := 2) h_q (by decide), xb_n, show g_X10_needWithin x1 0 40 (mk σ w u) = some (1, mk σ w u) from needWithin_b (a := 0) (b := 40) b1, xb_s, Option.bind_some, hx_1, show (2 : Int32) = nI 2 from rfl]
      · unfold f_X11_reviews
        rw [zg118, zw118_0, Option.bind_some]
        rw [show f_X11_isWhat 118 (nI q) 2 (mk (s2 σ 118 0 0) w u) = some (nI 1, mk (s2 σ 118 0 0) w u) from isWhat_1 (b := 2) h_q (by decide) t0, Option.bind_some]
        dsimp only
        rw [if_neg (show ¬ nI 1 = 0 by decide)]
        rw [show f_X11_isNights 118 x1 0 2 (mk (s2 σ 118 0 0) w u) = some (nI 0, mk (s2 (s2 σ 118 0 0) 118 0 (nI 2)) w u) from isNights_0 (a := 0) (c := 2) b1 (by omega) t0, Option.bind_some]
        dsimp only
        rw [if_pos (show nI 0 = 0 by decide)]
        all_goals (try unfold f_X11_reviews_176)
        all_goals (try unfold f_X11_reviews_24)
        all_goals rfl
  · refine Ag_bad (c := nI 1) (v := 0) iv0 (by decide) ?_ ?_
    · unfold e_L_reviews g_X10_reviews
      rw [zg0, show g_X10_needWhat x2 2 (mk σ w u) = some (0, mk σ w u) from needWhat_b (b := 2) b0, xb_s, Option.bind_some, hx_0, show (1 : Int32) = nI 1 from rfl]
    · unfold f_X11_reviews
      rw [zg118, zw118_0, Option.bind_some]
      rw [show f_X11_isWhat 118 x2 2 (mk (s2 σ 118 0 0) w u) = some (nI 0, mk (s2 (s2 σ 118 0 0) 118 0 (nI 1)) w u) from isWhat_0 (b := 2) b0 t0, Option.bind_some]
      dsimp only
      rw [if_pos (show nI 0 = 0 by decide)]
      all_goals (try unfold f_X11_reviews_176)
      all_goals (try unfold f_X11_reviews_24)
      all_goals rfl
theorem ag_limped (x0 : Int32) : Ag (fun h => e_L_limped 0 x0 138 h) (fun h => f_L_limped 0 x0 138 h) (fun h => f_X11_limped 118 x0 h) := by
  intro σ w u iv
  have iv0 := iv
  obtain ⟨A, P, X, cv, rv, ⟨N, K, O, U, S, ca, ra, hN, okA⟩, ⟨M, s, cs, rs, hMs, okS⟩, ik, it0⟩ := iv
  have hx := okA.1
  have t0 : (s2 σ 118 0 0) 118 0 = nI 0 := by rw [s2_at rfl rfl]; rfl
  have rv0 : RV (s2 σ 118 0 0) 0 A P X 0 := RV_F rv (Fr_s (W := fun q k => q = 118 ∧ k = 0) ⟨rfl, rfl⟩) (fun q k e => by omega)
  have tm := rv0.2.1.1.2.1; have tr := rv0.2.1.1.2.2.1; have tb := rv0.2.1.1.1; have hB1 := rv.2.2.2.2.1.1; have hB2 := rv.2.2.2.2.1.2.1; have hM8 := rv.2.2.2.2.1.2.2.1; have hR8 := rv.2.2.2.2.1.2.2.2.1; have hS12 := rv.2.2.2.2.1.2.2.2.2.1; have hT := RV_b rv
  rcases arg_w x0 (a := 0) (b := 2) (by decide) (by decide) with ⟨q, h1_q, h_q, rfl⟩ | b0
  · refine Ag_ok iv0 ?_ rfl (cl_limped cv cs okS hx h_q) (fun τ fr => re_limped (M := M) (s := s) (Ws_rv rv fr) (by rw [fr 118 45 (by unfold Ws; omega)]; exact hMs) (RSe_F rs fr (fun k e => by unfold Ws at e; omega)) okS hx h_q)
    unfold e_L_limped g_X10_limped
    rw [zg0, show g_X10_needWhat (nI q) 2 (mk σ w u) = none from needWhat_g (b := 2) h_q (by decide), show f_X10_needWhat (nI q) 2 (mk σ w u) = some (mk σ w u) from needWhat_f (b := 2) h_q (by decide), xb_n]
    all_goals rfl
  · refine Ag_bad (c := nI 1) (v := 0) iv0 (by decide) ?_ ?_
    · unfold e_L_limped g_X10_limped
      rw [zg0, show g_X10_needWhat x0 2 (mk σ w u) = some (0, mk σ w u) from needWhat_b (b := 2) b0, xb_s, Option.bind_some, hx_0, show (1 : Int32) = nI 1 from rfl]
    · unfold f_X11_limped
      rw [zg118, zw118_0, Option.bind_some]
      rw [show f_X11_isWhat 118 x0 2 (mk (s2 σ 118 0 0) w u) = some (nI 0, mk (s2 (s2 σ 118 0 0) 118 0 (nI 1)) w u) from isWhat_0 (b := 2) b0 t0, Option.bind_some]
      dsimp only
      rw [if_pos (show nI 0 = 0 by decide)]
      all_goals (try unfold f_X11_limped_117)
      all_goals (try unfold f_X11_limped_37)
      all_goals rfl
theorem ag_next (x0 : Int32) : Ag (fun h => e_L_next 0 x0 138 h) (fun h => f_L_next 0 x0 138 h) (fun h => f_X11_next 118 x0 h) := by
  intro σ w u iv
  have iv0 := iv
  obtain ⟨A, P, X, cv, rv, ⟨N, K, O, U, S, ca, ra, hN, okA⟩, ⟨M, s, cs, rs, hMs, okS⟩, ik, it0⟩ := iv
  have hx := okA.1
  have t0 : (s2 σ 118 0 0) 118 0 = nI 0 := by rw [s2_at rfl rfl]; rfl
  have rv0 : RV (s2 σ 118 0 0) 0 A P X 0 := RV_F rv (Fr_s (W := fun q k => q = 118 ∧ k = 0) ⟨rfl, rfl⟩) (fun q k e => by omega)
  have tm := rv0.2.1.1.2.1; have tr := rv0.2.1.1.2.2.1; have tb := rv0.2.1.1.1; have hB1 := rv.2.2.2.2.1.1; have hB2 := rv.2.2.2.2.1.2.1; have hM8 := rv.2.2.2.2.1.2.2.1; have hR8 := rv.2.2.2.2.1.2.2.2.1; have hS12 := rv.2.2.2.2.1.2.2.2.2.1; have hT := RV_b rv
  rcases arg_w x0 (a := 0) (b := 1) (by decide) (by decide) with ⟨q, h1_q, h_q, rfl⟩ | b0
  · refine Ag_ok iv0 ?_ rfl (cl_next cv cs okS hx h_q) (fun τ fr => re_next (M := M) (s := s) (Ws_rv rv fr) (by rw [fr 118 45 (by unfold Ws; omega)]; exact hMs) (RSe_F rs fr (fun k e => by unfold Ws at e; omega)) okS hx h_q)
    unfold e_L_next g_X10_next
    rw [zg0, show g_X10_needWhat (nI q) 1 (mk σ w u) = none from needWhat_g (b := 1) h_q (by decide), show f_X10_needWhat (nI q) 1 (mk σ w u) = some (mk σ w u) from needWhat_f (b := 1) h_q (by decide), xb_n]
    all_goals rfl
  · refine Ag_bad (c := nI 1) (v := 0) iv0 (by decide) ?_ ?_
    · unfold e_L_next g_X10_next
      rw [zg0, show g_X10_needWhat x0 1 (mk σ w u) = some (0, mk σ w u) from needWhat_b (b := 1) b0, xb_s, Option.bind_some, hx_0, show (1 : Int32) = nI 1 from rfl]
    · unfold f_X11_next
      rw [zg118, zw118_0, Option.bind_some]
      rw [show f_X11_isWhat 118 x0 1 (mk (s2 σ 118 0 0) w u) = some (nI 0, mk (s2 (s2 σ 118 0 0) 118 0 (nI 1)) w u) from isWhat_0 (b := 1) b0 t0, Option.bind_some]
      dsimp only
      rw [if_pos (show nI 0 = 0 by decide)]
      all_goals (try unfold f_X11_next_243)
      all_goals rfl
theorem ag_nearest : Ag0 (fun h => f_X10_nearest 0 h) (fun h => f_X11_nearest 118 h) := by
  intro σ w u iv
  have iv0 := iv
  obtain ⟨A, P, X, cv, rv, ⟨N, K, O, U, S, ca, ra, hN, okA⟩, ⟨M, s, cs, rs, hMs, okS⟩, ik, it0⟩ := iv
  have hx := okA.1
  exact Ag0_ok iv0 (cl_nearest cv) (fun τ fr => re_nearest (Ws_rv rv fr))
theorem ag_step : Ag0 (fun h => f_X10_step 0 h) (fun h => f_X11_step 118 h) := by
  intro σ w u iv
  have iv0 := iv
  obtain ⟨A, P, X, cv, rv, ⟨N, K, O, U, S, ca, ra, hN, okA⟩, ⟨M, s, cs, rs, hMs, okS⟩, ik, it0⟩ := iv
  have hx := okA.1
  exact Ag0_ok iv0 (cl_step cv) (fun τ fr => re_step (Ws_rv rv fr))
theorem ag_rarest : Ag0 (fun h => f_X10_rarest 0 h) (fun h => f_X11_rarest 118 h) := by
  intro σ w u iv
  have iv0 := iv
  obtain ⟨A, P, X, cv, rv, ⟨N, K, O, U, S, ca, ra, hN, okA⟩, ⟨M, s, cs, rs, hMs, okS⟩, ik, it0⟩ := iv
  have hx := okA.1
  exact Ag0_ok iv0 (cl_rarest cv) (fun τ fr => re_rarest (Ws_rv rv fr))
theorem ag_loudest : Ag0 (fun h => f_X10_loudest 0 h) (fun h => f_X11_loudest 118 h) := by
  intro σ w u iv
  have iv0 := iv
  obtain ⟨A, P, X, cv, rv, ⟨N, K, O, U, S, ca, ra, hN, okA⟩, ⟨M, s, cs, rs, hMs, okS⟩, ik, it0⟩ := iv
  have hx := okA.1
  exact Ag0_ok iv0 (cl_loudest cv) (fun τ fr => re_loudest (Ws_rv rv fr))
theorem ag_swap : Ag0 (fun h => f_X10_swap 0 h) (fun h => f_X11_swap 118 h) := by
  intro σ w u iv
  have iv0 := iv
  obtain ⟨A, P, X, cv, rv, ⟨N, K, O, U, S, ca, ra, hN, okA⟩, ⟨M, s, cs, rs, hMs, okS⟩, ik, it0⟩ := iv
  have hx := okA.1
  exact Ag0_ok iv0 (cl_swap cv hx) (fun τ fr => re_swap (Ws_rv rv fr) hx)
end AH
