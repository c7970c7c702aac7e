/-! L3: class and reference agree, by hand -/
section AK
variable {w u : Int64}
theorem ag_review (x0 : Int32) : Ag (fun h => e_L_review 0 x0 138 h) (fun h => f_L_review 0 x0 138 h) (fun h => f_X11_review 118 x0 h) := by
  intro σ w u iv
  have iv0 := iv
  obtain ⟨A, P, X, cv, rv, ⟨N, K, O, U, S, ca, ra, hN, okA⟩, ⟨M, s, cs, rs, hMs, okS⟩, ik, it0⟩ := iv
  have hx := okA.1
  have t0 : (s2 σ 118 0 0) 118 0 = nI 0 := by rw [s2_at rfl rfl]; rfl
  have rv0 : RV (s2 σ 118 0 0) 0 A P X 0 := RV_F rv (Fr_s (W := fun q k => q = 118 ∧ k = 0) ⟨rfl, rfl⟩) (fun q k e => by omega)
  have tm := rv0.2.1.1.2.1; have tr := rv0.2.1.1.2.2.1; have tb := rv0.2.1.1.1; have hB1 := rv.2.2.2.2.1.1; have hB2 := rv.2.2.2.2.1.2.1; have hM8 := rv.2.2.2.2.1.2.2.1; have hR8 := rv.2.2.2.2.1.2.2.2.1; have hS12 := rv.2.2.2.2.1.2.2.2.2.1; have hT := RV_b rv
  by_cases c0 : x0 = -1
  · rw [show x0 = nJ 0 from c0]
    refine Ag_ok iv0 ?_ rfl (cl_review cv hx (c := 0) (by omega)) (fun τ fr => re_review (Ws_rv rv fr) hx (c := 0) (by omega))
    unfold e_L_review g_X10_review
    rw [zg0, if_pos (show nJ 0 = -1 from rfl)]
    rfl
  · rcases arg_d x0 (n := A 2) (by omega) with ⟨r, h_r, rfl⟩ | b0
    · have e := cl_review (w := w) (u := u) cv hx (c := r + 1) (by omega)
      rw [nJ_S] at e
      refine Ag_ok iv0 ?_ rfl e (fun τ fr => ?_)
      · unfold e_L_review g_X10_review
        rw [zg0, if_neg c0, needRow_g cv h_r, needRow_f cv h_r, xb_n]
        rfl
      · have e := re_review (w := w) (u := (rvw A P X (r + 1)).toInt64) (Ws_rv rv fr) hx (c := r + 1) (by omega)
        rw [nJ_S] at e
        exact e
    · refine Ag_bad (c := nI 1) (v := 0) iv0 (by decide) ?_ ?_
      · unfold e_L_review g_X10_review
        rw [zg0, if_neg c0, needRow_b cv b0, xb_s, Option.bind_some, hx_0, show (1 : Int32) = nI 1 from rfl]
      · have k1 : f_X11_review_23 118 x0 118 (mk (s2 σ 118 0 0) w u) = some (0, mk (s2 (s2 σ 118 0 0) 118 0 (nI 1)) w u) := by
          unfold f_X11_review_23 f_X11_review_24
          rw [show f_X11_right 118 0 1 (mk (s2 σ 118 0 0) w u) = some (nI 0, mk (s2 (s2 σ 118 0 0) 118 0 (nI 1)) w u) from right_0 (c := 1) (by omega) t0, Option.bind_some]
          dsimp only
          rw [if_pos (show nI 0 = 0 from rfl)]
        unfold f_X11_review
        rw [zg118, zw118_0, Option.bind_some]
        by_cases c1 : x0 < -1
        · rw [if_pos c1]
          exact k1
        · rw [if_neg c1, zi118_3, Option.bind_some, tr]
          have c2 : nI (A 2) ≤ x0 := by
            rcases b0 with b | b
            · exact absurd c0 (by
                intro h
                apply h
                have h1 := Int32.not_lt.mp c1
                rw [Int32.le_iff_toInt_le] at h1
                rw [Int32.lt_iff_toInt_lt] at b
                apply Int32.toInt_inj.mp
                have e1 : (-1 : Int32).toInt = -1 := by decide
                have e2 : (0 : Int32).toInt = 0 := by decide
                rw [e1] at h1 ⊢
                rw [e2] at b
                omega)
            · exact b
          rw [if_pos c2]
          exact k1
theorem ag_byMud (x0 x1 x2 : Int32) : Ag (fun h => e_L_byMud 0 x0 x1 x2 138 h) (fun h => f_L_byMud 0 x0 x1 x2 138 h) (fun h => f_X11_byMud 118 x0 x1 x2 h) := by
  intro σ w u iv
  have iv0 := iv
  obtain ⟨A, P, X, cv, rv, ⟨N, K, O, U, S, ca, ra, hN, okA⟩, ⟨M, s, cs, rs, hMs, okS⟩, ik, it0⟩ := iv
  have hx := okA.1
  have t0 : (s2 σ 118 0 0) 118 0 = nI 0 := by rw [s2_at rfl rfl]; rfl
  have rv0 : RV (s2 σ 118 0 0) 0 A P X 0 := RV_F rv (Fr_s (W := fun q k => q = 118 ∧ k = 0) ⟨rfl, rfl⟩) (fun q k e => by omega)
  have tm := rv0.2.1.1.2.1; have tr := rv0.2.1.1.2.2.1; have tb := rv0.2.1.1.1; have hB1 := rv.2.2.2.2.1.1; have hB2 := rv.2.2.2.2.1.2.1; have hM8 := rv.2.2.2.2.1.2.2.1; have hR8 := rv.2.2.2.2.1.2.2.2.1; have hS12 := rv.2.2.2.2.1.2.2.2.2.1; have hT := RV_b rv
  rcases arg_d x0 (n := A 1) (by omega) with ⟨m, h_m, rfl⟩ | b0
  · have k1 : f_X11_byMud_37 118 (nI m) x1 x2 118 (mk (s2 σ 118 0 0) w u) = some (0, mk (s2 (s2 σ 118 0 0) 118 0 (nI 2)) w u) := by
      unfold f_X11_byMud_37 f_X11_byMud_38
      rw [show f_X11_right 118 0 2 (mk (s2 σ 118 0 0) w u) = some (nI 0, mk (s2 (s2 σ 118 0 0) 118 0 (nI 2)) w u) from right_0 (c := 2) (by omega) t0, Option.bind_some]
      dsimp only
      rw [if_pos (show nI 0 = 0 from rfl)]
      rfl
    rcases arg_w x1 (a := 1) (b := 5) (by decide) (by decide) with ⟨n, h1_n, h_n, rfl⟩ | b1
    · rcases arg_w x2 (a := 0) (b := 10) (by decide) (by decide) with ⟨t, h1_t, h_t, rfl⟩ | b2
      · refine Ag_ok iv0 ?_ rfl (cl_byMud cv hx h_m h1_n h_n h_t) (fun τ fr => re_byMud (Ws_rv rv fr) hx h_m h1_n h_n h_t)
        unfold e_L_byMud g_X10_byMud
        rw [zg0, needMan_g cv h_m, needMan_f cv h_m, xb_n, show g_X10_needWithin (nI n) 1 5 (mk σ w u) = none from needWithin_g (a := 1) (b := 5) h1_n h_n (by decide), show f_X10_needWithin (nI n) 1 5 (mk σ w u) = some (mk σ w u) from needWithin_f (a := 1) (b := 5) h1_n h_n (by decide), xb_n, show g_X10_needWithin (nI t) 0 10 (mk σ w u) = none from needWithin_g (a := 0) (b := 10) h1_t h_t (by decide), show f_X10_needWithin (nI t) 0 10 (mk σ w u) = some (mk σ w u) from needWithin_f (a := 0) (b := 10) h1_t h_t (by decide), xb_n]
        rfl
      · refine Ag_bad (c := nI 2) (v := 0) iv0 (by decide) ?_ ?_
        · unfold e_L_byMud g_X10_byMud
          rw [zg0, needMan_g cv h_m, needMan_f cv h_m, xb_n, show g_X10_needWithin (nI n) 1 5 (mk σ w u) = none from needWithin_g (a := 1) (b := 5) h1_n h_n (by decide), show f_X10_needWithin (nI n) 1 5 (mk σ w u) = some (mk σ w u) from needWithin_f (a := 1) (b := 5) h1_n h_n (by decide), xb_n, show g_X10_needWithin x2 0 10 (mk σ w u) = some (1, mk σ w u) from needWithin_b (a := 0) (b := 10) b2, xb_s, Option.bind_some, hx_1, show (2 : Int32) = nI 2 from rfl]
        · unfold f_X11_byMud
          rw [zg118, zw118_0, Option.bind_some, show f_X11_isMan 118 (nI m) (mk (s2 σ 118 0 0) w u) = some (nI 1, mk (s2 σ 118 0 0) w u) from isMan_1 tm (by omega) h_m t0, Option.bind_some]
          dsimp only
          rw [if_neg (show ¬ nI 1 = 0 by decide), show f_X11_within (nI n) 1 5 (mk (s2 σ 118 0 0) w u) = some (nI 1, mk (s2 σ 118 0 0) w u) from within_1 (a := 1) (b := 5) h1_n h_n (by decide) _, Option.bind_some]
          dsimp only
          rw [if_neg (show ¬ nI 1 = 0 by decide), show f_X11_within x2 0 10 (mk (s2 σ 118 0 0) w u) = some (nI 0, mk (s2 σ 118 0 0) w u) from within_0 (a := 0) (b := 10) b2 _, Option.bind_some]
          dsimp only
          rw [if_pos (show nI 0 = 0 from rfl)]
          exact k1
    · refine Ag_bad (c := nI 2) (v := 0) iv0 (by decide) ?_ ?_
      · unfold e_L_byMud g_X10_byMud
        rw [zg0, needMan_g cv h_m, needMan_f cv h_m, xb_n, show g_X10_needWithin x1 1 5 (mk σ w u) = some (1, mk σ w u) from needWithin_b (a := 1) (b := 5) b1, xb_s, Option.bind_some, hx_1, show (2 : Int32) = nI 2 from rfl]
      · unfold f_X11_byMud
        rw [zg118, zw118_0, Option.bind_some, show f_X11_isMan 118 (nI m) (mk (s2 σ 118 0 0) w u) = some (nI 1, mk (s2 σ 118 0 0) w u) from isMan_1 tm (by omega) h_m t0, Option.bind_some]
        dsimp only
        rw [if_neg (show ¬ nI 1 = 0 by decide), show f_X11_within x1 1 5 (mk (s2 σ 118 0 0) w u) = some (nI 0, mk (s2 σ 118 0 0) w u) from within_0 (a := 1) (b := 5) b1 _, Option.bind_some]
        dsimp only
        rw [if_pos (show nI 0 = 0 from rfl)]
        exact k1
  · refine Ag_bad (c := nI 1) (v := 0) iv0 (by decide) ?_ ?_
    · unfold e_L_byMud g_X10_byMud
      rw [zg0, needMan_b cv b0, xb_s, Option.bind_some, hx_0, show (1 : Int32) = nI 1 from rfl]
    · unfold f_X11_byMud
      rw [zg118, zw118_0, Option.bind_some, show f_X11_isMan 118 x0 (mk (s2 σ 118 0 0) w u) = some (nI 0, mk (s2 (s2 σ 118 0 0) 118 0 (nI 1)) w u) from isMan_0 tm b0 t0, Option.bind_some]
      dsimp only
      rw [if_pos (show nI 0 = 0 from rfl)]
      rfl
theorem ag_game (x0 x1 x2 : Int32) : Ag (fun h => e_L_game 0 x0 x1 x2 138 h) (fun h => f_L_game 0 x0 x1 x2 138 h) (fun h => f_X11_game 118 x0 x1 x2 h) := by
  intro σ w u iv
  have iv0 := iv
  obtain ⟨A, P, X, cv, rv, ⟨N, K, O, U, S, ca, ra, hN, okA⟩, ⟨M, s, cs, rs, hMs, okS⟩, ik, it0⟩ := iv
  have hx := okA.1
  have t0 : (s2 σ 118 0 0) 118 0 = nI 0 := by rw [s2_at rfl rfl]; rfl
  have rv0 : RV (s2 σ 118 0 0) 0 A P X 0 := RV_F rv (Fr_s (W := fun q k => q = 118 ∧ k = 0) ⟨rfl, rfl⟩) (fun q k e => by omega)
  have tm := rv0.2.1.1.2.1; have tr := rv0.2.1.1.2.2.1; have tb := rv0.2.1.1.1; have hB1 := rv.2.2.2.2.1.1; have hB2 := rv.2.2.2.2.1.2.1; have hM8 := rv.2.2.2.2.1.2.2.1; have hR8 := rv.2.2.2.2.1.2.2.2.1; have hS12 := rv.2.2.2.2.1.2.2.2.2.1; have hT := RV_b rv
  have nj1 : ∀ c, c ≤ 8 → (nJ c = -1 ↔ c = 0) := fun c hc => by
    have h : nJ c = nJ 0 ↔ c = 0 := q_JJ (by omega) (by omega)
    exact h
  rcases arg_d x0 (n := A 1) (by omega) with ⟨m, h_m, rfl⟩ | b0
  · rcases arg_d x1 (n := A 1) (by omega) with ⟨o, h_o, rfl⟩ | b1
    · rcases arg_w x2 (a := 0) (b := 1) (by decide) (by decide) with ⟨q, h1_q, h_q, rfl⟩ | b2
      · have hr1 := ro_le A X m
        have hr2 := ro_le A X o
        have k1 : f_X11_game_60 118 (nI m) (nI o) (nI q) 118 (mk (s2 σ 118 0 0) w u) = some (0, mk (s2 (s2 σ 118 0 0) 118 0 (nI 2)) w u) := by
          unfold f_X11_game_60 f_X11_game_61
          rw [show f_X11_right 118 0 2 (mk (s2 σ 118 0 0) w u) = some (nI 0, mk (s2 (s2 σ 118 0 0) 118 0 (nI 2)) w u) from right_0 (c := 2) (by omega) t0, Option.bind_some]
          dsimp only
          rw [if_pos (show nI 0 = 0 from rfl)]
          rfl
        have k2 : ∀ P' : Prop, f_X11_game 118 (nI m) (nI o) (nI q) (mk σ w u) = (if nI m = nI o then (f_X11_game_60 118 (nI m) (nI o) (nI q) 118 (mk (s2 σ 118 0 0) w u)) else (if nJ (ro A X m) = (-1) then (f_X11_game_60 118 (nI m) (nI o) (nI q) 118 (mk (s2 σ 118 0 0) w u)) else (if nJ (ro A X o) = (-1) then (f_X11_game_60 118 (nI m) (nI o) (nI q) 118 (mk (s2 σ 118 0 0) w u)) else (f_X11_game_61 118 (nI m) (nI o) (nI q) 118 1 (mk (s2 σ 118 0 0) w u))))) := fun _ => by
          unfold f_X11_game
          rw [zg118, zw118_0, Option.bind_some, show f_X11_isMan 118 (nI m) (mk (s2 σ 118 0 0) w u) = some (nI 1, mk (s2 σ 118 0 0) w u) from isMan_1 tm (by omega) h_m t0, Option.bind_some]
          dsimp only
          rw [if_neg (show ¬ nI 1 = 0 by decide), show f_X11_isMan 118 (nI o) (mk (s2 σ 118 0 0) w u) = some (nI 1, mk (s2 σ 118 0 0) w u) from isMan_1 tm (by omega) h_o t0, Option.bind_some]
          dsimp only
          rw [if_neg (show ¬ nI 1 = 0 by decide), show f_X11_isWhat 118 (nI q) 1 (mk (s2 σ 118 0 0) w u) = some (nI 1, mk (s2 σ 118 0 0) w u) from isWhat_1 (b := 1) h_q (by decide) t0, Option.bind_some]
          dsimp only
          rw [if_neg (show ¬ nI 1 = 0 by decide), show f_X11_rowOf 118 0 (nI m) (mk (s2 σ 118 0 0) w u) = some (nJ (ro A X m), mk (s2 σ 118 0 0) w u) from rowOf_R rv0 (by omega), Option.bind_some]
          dsimp only
          rw [show f_X11_rowOf 118 0 (nI o) (mk (s2 σ 118 0 0) w u) = some (nJ (ro A X o), mk (s2 σ 118 0 0) w u) from rowOf_R rv0 (by omega), Option.bind_some]
        have k3 : g_X10_game 0 (nI m) (nI o) (nI q) (mk σ w u) = (if nI m = nI o then some (1, mk σ w u) else (if nJ (ro A X m) = (-1) then some (1, mk σ w u) else (if nJ (ro A X o) = (-1) then some (1, mk σ w u) else none))) := by
          unfold g_X10_game g_X10_game_44
          rw [zg0, needMan_g cv h_m, needMan_f cv h_m, xb_n, needMan_g cv h_o, needMan_f cv h_o, xb_n, show g_X10_needWhat (nI q) 1 (mk σ w u) = none from needWhat_g (b := 1) h_q (by decide), show f_X10_needWhat (nI q) 1 (mk σ w u) = some (mk σ w u) from needWhat_f (b := 1) h_q (by decide), xb_n, zr0_8, Option.bind_some, rowOf_f cv (by omega), Option.bind_some]
          dsimp only
          rw [zr0_8, Option.bind_some, rowOf_f cv (by omega), Option.bind_some]
        by_cases cc : m ≠ o ∧ ro A X m ≠ 0 ∧ ro A X o ≠ 0
        · refine Ag_ok iv0 ?_ rfl (cl_game cv hx h_m h_o h_q cc.1 cc.2.1 cc.2.2) (fun τ fr => re_game (Ws_rv rv fr) hx h_m h_o h_q cc.1 cc.2.1 cc.2.2)
          unfold e_L_game
          rw [k3, if_neg (fun e => cc.1 ((nI_eq (by omega) (by omega)).mp e)), if_neg (fun e => cc.2.1 ((nj1 _ (by omega)).mp e)), if_neg (fun e => cc.2.2 ((nj1 _ (by omega)).mp e))]
          rfl
        · have k4 : g_X10_game 0 (nI m) (nI o) (nI q) (mk σ w u) = some (1, mk σ w u) := by
            rw [k3]
            by_cases c1 : m = o
            · rw [c1, if_pos rfl]
            · rw [if_neg (fun e => c1 ((nI_eq (by omega) (by omega)).mp e))]
              by_cases c2 : ro A X m = 0
              · rw [if_pos ((nj1 _ (by omega)).mpr c2)]
              · rw [if_neg (fun e => c2 ((nj1 _ (by omega)).mp e)), if_pos ((nj1 _ (by omega)).mpr (Classical.not_not.mp (fun c3 => cc ⟨c1, c2, c3⟩)))]
          have k5 : f_X11_game 118 (nI m) (nI o) (nI q) (mk σ w u) = some (0, mk (s2 (s2 σ 118 0 0) 118 0 (nI 2)) w u) := by
            rw [k2 True]
            by_cases c1 : m = o
            · rw [if_pos (by rw [c1]), k1]
            · rw [if_neg (fun e => c1 ((nI_eq (by omega) (by omega)).mp e))]
              by_cases c2 : ro A X m = 0
              · rw [if_pos ((nj1 _ (by omega)).mpr c2), k1]
              · rw [if_neg (fun e => c2 ((nj1 _ (by omega)).mp e)), if_pos ((nj1 _ (by omega)).mpr (Classical.not_not.mp (fun c3 => cc ⟨c1, c2, c3⟩))), k1]
          refine Ag_bad (c := nI 2) (v := 0) iv0 (by decide) ?_ k5
          unfold e_L_game
          rw [k4, Option.bind_some, hx_1, show (2 : Int32) = nI 2 from rfl]
      · refine Ag_bad (c := nI 1) (v := 0) iv0 (by decide) ?_ ?_
        · unfold e_L_game g_X10_game
          rw [zg0, needMan_g cv h_m, needMan_f cv h_m, xb_n, needMan_g cv h_o, needMan_f cv h_o, xb_n, show g_X10_needWhat x2 1 (mk σ w u) = some (0, mk σ w u) from needWhat_b (b := 1) b2, xb_s, Option.bind_some, hx_0, show (1 : Int32) = nI 1 from rfl]
        · unfold f_X11_game
          rw [zg118, zw118_0, Option.bind_some, show f_X11_isMan 118 (nI m) (mk (s2 σ 118 0 0) w u) = some (nI 1, mk (s2 σ 118 0 0) w u) from isMan_1 tm (by omega) h_m t0, Option.bind_some]
          dsimp only
          rw [if_neg (show ¬ nI 1 = 0 by decide), show f_X11_isMan 118 (nI o) (mk (s2 σ 118 0 0) w u) = some (nI 1, mk (s2 σ 118 0 0) w u) from isMan_1 tm (by omega) h_o t0, Option.bind_some]
          dsimp only
          rw [if_neg (show ¬ nI 1 = 0 by decide), show f_X11_isWhat 118 x2 1 (mk (s2 σ 118 0 0) w u) = some (nI 0, mk (s2 (s2 σ 118 0 0) 118 0 (nI 1)) w u) from isWhat_0 (b := 1) b2 t0, Option.bind_some]
          dsimp only
          rw [if_pos (show nI 0 = 0 from rfl)]
          rfl
    · refine Ag_bad (c := nI 1) (v := 0) iv0 (by decide) ?_ ?_
      · unfold e_L_game g_X10_game
        rw [zg0, needMan_g cv h_m, needMan_f cv h_m, xb_n, needMan_b cv b1, xb_s, Option.bind_some, hx_0, show (1 : Int32) = nI 1 from rfl]
      · unfold f_X11_game
        rw [zg118, zw118_0, Option.bind_some, show f_X11_isMan 118 (nI m) (mk (s2 σ 118 0 0) w u) = some (nI 1, mk (s2 σ 118 0 0) w u) from isMan_1 tm (by omega) h_m t0, Option.bind_some]
        dsimp only
        rw [if_neg (show ¬ nI 1 = 0 by decide), show f_X11_isMan 118 x1 (mk (s2 σ 118 0 0) w u) = some (nI 0, mk (s2 (s2 σ 118 0 0) 118 0 (nI 1)) w u) from isMan_0 tm b1 t0, Option.bind_some]
        dsimp only
        rw [if_pos (show nI 0 = 0 from rfl)]
        rfl
  · refine Ag_bad (c := nI 1) (v := 0) iv0 (by decide) ?_ ?_
    · unfold e_L_game g_X10_game
      rw [zg0, needMan_b cv b0, xb_s, Option.bind_some, hx_0, show (1 : Int32) = nI 1 from rfl]
    · unfold f_X11_game
      rw [zg118, zw118_0, Option.bind_some, show f_X11_isMan 118 x0 (mk (s2 σ 118 0 0) w u) = some (nI 0, mk (s2 (s2 σ 118 0 0) 118 0 (nI 1)) w u) from isMan_0 tm b0 t0, Option.bind_some]
      dsimp only
      rw [if_pos (show nI 0 = 0 from rfl)]
      rfl
theorem ag_nextTo (x0 : Int32) : Ag (fun h => e_L_nextTo 0 x0 138 h) (fun h => f_L_nextTo 0 x0 138 h) (fun h => f_X11_nextTo 118 x0 h) := by
  intro σ w u iv
  have iv0 := iv
  obtain ⟨A, P, X, cv, rv, ⟨N, K, O, U, S, ca, ra, hN, okA⟩, ⟨M, s, cs, rs, hMs, okS⟩, ik, it0⟩ := iv
  have hx := okA.1
  have t0 : (s2 σ 118 0 0) 118 0 = nI 0 := by rw [s2_at rfl rfl]; rfl
  have rv0 : RV (s2 σ 118 0 0) 0 A P X 0 := RV_F rv (Fr_s (W := fun q k => q = 118 ∧ k = 0) ⟨rfl, rfl⟩) (fun q k e => by omega)
  have tm := rv0.2.1.1.2.1; have tr := rv0.2.1.1.2.2.1; have tb := rv0.2.1.1.1; have hB1 := rv.2.2.2.2.1.1; have hB2 := rv.2.2.2.2.1.2.1; have hM8 := rv.2.2.2.2.1.2.2.1; have hR8 := rv.2.2.2.2.1.2.2.2.1; have hS12 := rv.2.2.2.2.1.2.2.2.2.1; have hT := RV_b rv
  have hp := Nat.two_pow_pos (A 0)
  have h12 : 2 ^ A 0 ≤ 2 ^ 12 := Nat.pow_le_pow_right (by decide) hB2
  rcases arg_w x0 (a := 0) (b := 2 ^ A 0 - 1) (by decide) (by omega) with ⟨v, h1_v, h_v, rfl⟩ | b0
  · refine Ag_ok iv0 ?_ rfl (cl_nextTo cv h_v) (fun τ fr => re_nextTo (Ws_rv rv fr) h_v)
    unfold e_L_nextTo g_X10_nextTo
    rw [zg0, zr0_4, Option.bind_some, allBeats_f cv, Option.bind_some]
    dsimp only
    rw [show g_X10_needWithin (nI v) 0 (nI (2 ^ A 0 - 1)) (mk σ w u) = none from needWithin_g (a := 0) h1_v h_v (by omega), show f_X10_needWithin (nI v) 0 (nI (2 ^ A 0 - 1)) (mk σ w u) = some (mk σ w u) from needWithin_f (a := 0) h1_v h_v (by omega), xb_n]
    rfl
  · refine Ag_bad (c := nI 1) (v := 0) iv0 (by decide) ?_ ?_
    · unfold e_L_nextTo g_X10_nextTo
      rw [zg0, zr0_4, Option.bind_some, allBeats_f cv, Option.bind_some]
      dsimp only
      rw [show g_X10_needWithin x0 0 (nI (2 ^ A 0 - 1)) (mk σ w u) = some (1, mk σ w u) from needWithin_b (a := 0) b0, xb_s, Option.bind_some, hx_1, show (1 : Int32) = nI 1 from rfl]
    · unfold f_X11_nextTo
      rw [zg118, zw118_0, Option.bind_some, areBeats_0 rv0 t0 b0, Option.bind_some]
      dsimp only
      rw [if_pos (show nI 0 = 0 from rfl)]
      rfl
theorem ag_alike (x0 : Int32) : Ag (fun h => e_L_alike 0 x0 138 h) (fun h => f_L_alike 0 x0 138 h) (fun h => f_X11_alike 118 x0 h) := by
  intro σ w u iv
  have iv0 := iv
  obtain ⟨A, P, X, cv, rv, ⟨N, K, O, U, S, ca, ra, hN, okA⟩, ⟨M, s, cs, rs, hMs, okS⟩, ik, it0⟩ := iv
  have hx := okA.1
  have t0 : (s2 σ 118 0 0) 118 0 = nI 0 := by rw [s2_at rfl rfl]; rfl
  have rv0 : RV (s2 σ 118 0 0) 0 A P X 0 := RV_F rv (Fr_s (W := fun q k => q = 118 ∧ k = 0) ⟨rfl, rfl⟩) (fun q k e => by omega)
  have tm := rv0.2.1.1.2.1; have tr := rv0.2.1.1.2.2.1; have tb := rv0.2.1.1.1; have hB1 := rv.2.2.2.2.1.1; have hB2 := rv.2.2.2.2.1.2.1; have hM8 := rv.2.2.2.2.1.2.2.1; have hR8 := rv.2.2.2.2.1.2.2.2.1; have hS12 := rv.2.2.2.2.1.2.2.2.2.1; have hT := RV_b rv
  have hp := Nat.two_pow_pos (A 0)
  have h12 : 2 ^ A 0 ≤ 2 ^ 12 := Nat.pow_le_pow_right (by decide) hB2
  rcases arg_w x0 (a := 0) (b := 2 ^ A 0 - 1) (by decide) (by omega) with ⟨v, h1_v, h_v, rfl⟩ | b0
  · refine Ag_ok iv0 ?_ rfl (cl_alike cv h_v) (fun τ fr => re_alike (Ws_rv rv fr) h_v)
    unfold e_L_alike g_X10_alike
    rw [zg0, zr0_4, Option.bind_some, allBeats_f cv, Option.bind_some]
    dsimp only
    rw [show g_X10_needWithin (nI v) 0 (nI (2 ^ A 0 - 1)) (mk σ w u) = none from needWithin_g (a := 0) h1_v h_v (by omega), show f_X10_needWithin (nI v) 0 (nI (2 ^ A 0 - 1)) (mk σ w u) = some (mk σ w u) from needWithin_f (a := 0) h1_v h_v (by omega), xb_n]
    rfl
  · refine Ag_bad (c := nI 1) (v := 0) iv0 (by decide) ?_ ?_
    · unfold e_L_alike g_X10_alike
      rw [zg0, zr0_4, Option.bind_some, allBeats_f cv, Option.bind_some]
      dsimp only
      rw [show g_X10_needWithin x0 0 (nI (2 ^ A 0 - 1)) (mk σ w u) = some (1, mk σ w u) from needWithin_b (a := 0) b0, xb_s, Option.bind_some, hx_1, show (1 : Int32) = nI 1 from rfl]
    · unfold f_X11_alike
      rw [zg118, zw118_0, Option.bind_some, areBeats_0 rv0 t0 b0, Option.bind_some]
      dsimp only
      rw [if_pos (show nI 0 = 0 from rfl)]
end AK
