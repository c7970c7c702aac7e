/-! L3: put, nights, undo -/
section AR
variable {w u : Int64} {A X : Nat → Nat} {P : List (Nat × Nat)}
theorem an_z {x m : Nat} (h : bt x m = 0) : an x (2 ^ m) = x := by
  apply Nat.eq_of_testBit_eq
  intro k
  rw [an_tb, Nat.testBit_two_pow]
  by_cases c : m = k
  · subst c
    have : x.testBit m = false := by
      cases hc : x.testBit m with
      | false => rfl
      | true => rw [← bt_i] at hc; omega
    rw [this]
    rfl
  · rw [show decide (m = k) = false by simp [c]]
    simp
theorem an_o {x m : Nat} (h : bt x m = 1) : an x (2 ^ m) ||| 2 ^ m = x := by
  apply Nat.eq_of_testBit_eq
  intro k
  rw [Nat.testBit_or, an_tb, Nat.testBit_two_pow]
  by_cases c : m = k
  · subst c
    rw [bt_i.mp h]
    simp
  · rw [show decide (m = k) = false by simp [c]]
    simp
theorem an_an (x m : Nat) : an (an x (2 ^ m)) (2 ^ m) = an x (2 ^ m) := by
  apply Nat.eq_of_testBit_eq
  intro k
  rw [an_tb, an_tb, Nat.testBit_two_pow]
  cases x.testBit k <;> cases decide (m = k) <;> rfl
theorem an_or (x m : Nat) : an (an x (2 ^ m) ||| 2 ^ m) (2 ^ m) = an x (2 ^ m) := by
  apply Nat.eq_of_testBit_eq
  intro k
  rw [an_tb, Nat.testBit_or, an_tb, Nat.testBit_two_pow]
  cases x.testBit k <;> cases decide (m = k) <;> rfl
/-- a man's row is the one that holds him -/
theorem ro_row (wx : WX A X) (hR : A 2 ≤ 8) {m r : Nat} (hr : r < A 2) : bt (X (25 + r)) m = if ro A X m = r + 1 then 1 else 0 := by
  have hb := bt_lt (X (25 + r)) m
  by_cases c : ro A X m = r + 1
  · rw [if_pos c]
    obtain ⟨-, -, h3, -⟩ := fi_S _ _ _ _ c
    omega
  · rw [if_neg c]
    by_cases c2 : bt (X (25 + r)) m = 0
    · exact c2
    · exfalso
      have h0 : ro A X m ≠ 0 := fun e => c2 (ro_0.mp e r hr)
      obtain ⟨r', hr'⟩ : ∃ r', ro A X m = r' + 1 := ⟨ro A X m - 1, by omega⟩
      obtain ⟨-, h2, h3, -⟩ := fi_S _ _ _ _ hr'
      have hb2 := bt_lt (X (25 + r')) m
      have h2' : r' < A 2 := by omega
      have := wx.2.2.1 r r' m (by omega) (by omega) (by omega) (by omega)
      omega
theorem pl_pl (wx : WX A X) (hR : A 2 ≤ 8) {m c : Nat} (j : Nat) : pl A m (ro A X m) (pl A m c X) j = X j := by
  by_cases h : 25 ≤ j ∧ j < 25 + A 2
  · obtain ⟨i, rfl⟩ : ∃ i, j = 25 + i := ⟨j - 25, by omega⟩
    have hi : i < A 2 := by omega
    have hr := ro_row (m := m) wx hR hi
    have e : an (pl A m c X (25 + i)) (2 ^ m) = an (X (25 + i)) (2 ^ m) := by
      rw [pl_r hi]
      split
      · exact an_or _ _
      · exact an_an _ _
    rw [pl_r hi, e]
    by_cases c2 : ro A X m = i + 1
    · rw [if_pos c2] at hr
      rw [if_pos c2.symm, an_o hr]
    · rw [if_neg c2] at hr
      rw [if_neg (fun h => c2 h.symm), an_z hr]
  · rw [pl_k (by omega), pl_k (by omega)]
theorem ag_put (x0 x1 : Int32) : Ag (fun h => e_L_put 0 x0 x1 138 h) (fun h => f_L_put 0 x0 x1 138 h) (fun h => f_X11_put 118 x0 x1 h) := by
  intro σ w u iv
  have iv0 := iv
  obtain ⟨A, P, X, cv, rv, ⟨N, K, O, U, S, ca, ra, hN, okA⟩, is0, ik, it0⟩ := iv
  have hx := okA.1
  have wx := cv.2.2.2.2.1
  have wa := cv.2.2.2.1
  have t0 : (s2 σ 118 0 0) 118 0 = nI 0 := by rw [s2_at rfl rfl]; rfl
  have rv0 : RV (s2 σ 118 0 0) 0 A P X 0 := RV_F rv (Fr_s (W := fun q k => q = 118 ∧ k = 0) ⟨rfl, rfl⟩) (fun q k e => by omega)
  have tm := rv0.2.1.1.2.1; have tr := rv0.2.1.1.2.2.1; have tb := rv0.2.1.1.1; have hB1 := rv.2.2.2.2.1.1; have hB2 := rv.2.2.2.2.1.2.1; have hM8 := rv.2.2.2.2.1.2.2.1; have hR8 := rv.2.2.2.2.1.2.2.2.1; have hS12 := rv.2.2.2.2.1.2.2.2.2.1; have hT := RV_b rv
  rcases arg_d x0 (n := A 1) (by omega) with ⟨m, h_m, rfl⟩ | b0
  · have hm8 : m < 8 := by omega
    have hro := ro_le A X m
    have good : ∀ c, c ≤ A 2 → ∃ cc v τ w' u' h1, IV τ ∧ eh (e_L_put 0 (nI m) (nJ c) 138 (mk σ w u)) (f_L_put 0 (nI m) (nJ c) 138 (mk σ w u)) = some (cc, h1) ∧ f_X11_put 118 (nI m) (nJ c) h1 = some (v, mk τ w' u') ∧ τ 118 0 = cc ∧ (cc = 0 → u' = v.toInt64) := by
      intro c hc
      have nj1 : nJ c = -1 ↔ c = 0 := by
        have h : nJ c = nJ 0 ↔ c = 0 := q_JJ (by omega) (by omega)
        exact h
      have ge : e_L_put 0 (nI m) (nJ c) 138 (mk σ w u) = none := by
        unfold e_L_put g_X10_put
        rw [zg0, needMan_g cv h_m, needMan_f cv h_m, xb_n]
        by_cases c0 : c = 0
        · rw [if_pos (nj1.mpr c0)]; rfl
        · rw [if_neg (fun e => c0 (nj1.mp e)), nJ_pos (by omega), needRow_g cv (by omega), needRow_f cv (by omega), xb_n]; rfl
      have hcl : ∀ G, f_X10_put_15 0 (nI m) (nJ c) (mk σ w u) = G → f_X10_put 0 (nI m) (nJ c) (mk σ w u) = G := fun G h => by
        unfold f_X10_put
        rw [zg0, needMan_f cv h_m, Option.bind_some]
        by_cases c0 : c = 0
        · rw [if_pos (nj1.mpr c0)]; exact h
        · rw [if_neg (fun e => c0 (nj1.mp e)), show f_X10_needRow 0 (nJ c) (mk σ w u) = some (mk σ w u) from by rw [nJ_pos (by omega)]; exact needRow_f cv (by omega), Option.bind_some]; exact h
      have hre : ∀ τ U9 G, RV (s2 τ 118 0 0) 0 A P X 0 → (if nJ (ro A X m) = nJ c then f_X11_put_74 118 (mk (s2 τ 118 0 0) w U9) else (if nJ c = (-1) then (f_X11_put_82 118 (nI m) (nJ c) (nJ (ro A X m)) (mk (s2 τ 118 0 0) w U9)) else ((rd_R (mk (s2 τ 118 0 0) w U9) 118 11 36).bind fun v3 => (rd_A (mk (s2 τ 118 0 0) w U9) 0 v3 (25 + nJ c)).bind fun v4 => (f_X11_bits v4 (mk (s2 τ 118 0 0) w U9)).bind fun r5 => if r5.1 = 4 then (f_X11_put_74 118 r5.2) else (f_X11_put_82 118 (nI m) (nJ c) (nJ (ro A X m)) r5.2)))) = G → f_X11_put 118 (nI m) (nJ c) (mk τ w U9) = G := fun τ U9 G r0 h => by
        have t1 : (s2 τ 118 0 0) 118 0 = nI 0 := by rw [s2_at rfl rfl]; rfl
        unfold f_X11_put f_X11_put_32
        rw [zg118, zw118_0, Option.bind_some, isMan_1 r0.2.1.1.2.1 (by omega) h_m t1, Option.bind_some]
        dsimp only
        rw [if_neg (show ¬ nI 1 = 0 by decide), if_neg (show ¬ nJ c < -1 from fun e => by have e2 : nJ c < nJ 0 := e; rw [q_JJlt (by omega) (by omega)] at e2; omega), zi118_3, Option.bind_some, r0.2.1.1.2.2.1, if_neg (fun e => by have e2 : nI (A 2) ≤ nJ c := e; rw [q_leJ (by omega) (by omega)] at e2; omega), show f_X11_right 118 1 1 (mk (s2 τ 118 0 0) w U9) = some (nI 1, mk (s2 τ 118 0 0) w U9) from right_1 t1, Option.bind_some]
        dsimp only
        rw [if_neg (show ¬ nI 1 = 0 by decide), show f_X11_rowOf 118 0 (nI m) (mk (s2 τ 118 0 0) w U9) = some (nJ (ro A X m), mk (s2 τ 118 0 0) w U9) from rowOf_R r0 (by omega), Option.bind_some]
        dsimp only
        exact h
      have refu : f_X10_put_15 0 (nI m) (nJ c) (mk σ w u) = f_X10_put_41 0 (mk σ w u) → (∀ τ U9, RV (s2 τ 118 0 0) 0 A P X 0 → f_X11_put 118 (nI m) (nJ c) (mk τ w U9) = f_X11_put_74 118 (mk (s2 τ 118 0 0) w U9)) → ∃ cc v τ w' u' h1, IV τ ∧ eh (e_L_put 0 (nI m) (nJ c) 138 (mk σ w u)) (f_L_put 0 (nI m) (nJ c) 138 (mk σ w u)) = some (cc, h1) ∧ f_X11_put 118 (nI m) (nJ c) h1 = some (v, mk τ w' u') ∧ τ 118 0 = cc ∧ (cc = 0 → u' = v.toInt64) := fun h1 h2 => by
        refine Ag_ref (e := fun h => e_L_put 0 (nI m) (nJ c) 138 h) (f := fun h => f_L_put 0 (nI m) (nJ c) 138 h) (m := fun h => f_X11_put 118 (nI m) (nJ c) h) iv0 (i := 1) (V := -2) (by omega) ge ?_ ?_
        · refine hf_std (u := u) _ (hcl _ (h1.trans ?_))
          unfold f_X10_put_41
          rw [show f_X10_refuse 0 1 (mk σ w u) = some (mk (s2 σ 4 1 (σ 4 1 + 1)) w u) from refuse_f (i := 1) (by omega), Option.bind_some]
        · have r1 : RV (s2 (s2 σ 4 1 (σ 4 1 + 1)) 118 0 0) 0 A P X 0 := RV_F rv (Fr_st (Fr_s (W := fun q k => q = 4 ∨ (q = 118 ∧ k = 0)) (Or.inl rfl)) (Or.inr ⟨rfl, rfl⟩)) (fun q k e => by omega)
          show f_X11_put 118 (nI m) (nJ c) _ = _
          rw [h2 _ _ r1]
          unfold f_X11_put_74
          rw [show f_X11_refuses 118 1 (mk (s2 (s2 σ 4 1 (σ 4 1 + 1)) 118 0 0) w (-2 : Int32).toInt64) = some (-1, mk (s2 (s2 (s2 σ 4 1 (σ 4 1 + 1)) 118 0 0) 122 1 ((s2 (s2 σ 4 1 (σ 4 1 + 1)) 118 0 0) 122 1 + 1)) w (-2 : Int32).toInt64) from refuses_R (i := 1) (by omega), Option.bind_some]
          dsimp only
          rw [show (-1 : Int32) - 1 = -2 from by decide, s2_off (by omega), s2_off (by omega)]
      by_cases c1 : ro A X m = c
      · refine refu ?_ (fun τ U9 r0 => ?_)
        · unfold f_X10_put_15
          rw [zr0_8, Option.bind_some, rowOf_f cv (by omega), Option.bind_some]
          dsimp only
          rw [if_pos (by rw [c1])]
        · exact hre τ U9 _ r0 (by rw [if_pos (by rw [c1])])
      · have hne : ¬ nJ (ro A X m) = nJ c := fun e => c1 ((q_JJ (by omega) (by omega)).mp e)
        by_cases c2 : c = 0 ∨ pc (an (X (24 + c)) (2 ^ m)) 12 < 4
        · refine Ag_act (e := fun h => e_L_put 0 (nI m) (nJ c) 138 h) (f := fun h => f_L_put 0 (nI m) (nJ c) 138 h) (m := fun h => f_X11_put 118 (nI m) (nJ c) h) (V := nJ (ro A X m)) (Y := pl A m c X) (F := f_X10_put 0 (nI m) (nJ c) (mk σ w u)) cv rv is0 ik it0 ge hf_std (K := pu N K 1) (O := pu N O m) (U := pu N U (ro A X m)) (N := nN N + 1) (S := pu N S X) ?_ (fun τ cm => ?_) (OkA_push okA ca.1 wx (by rw [pl_k (by omega)]; exact hx) (Or.inr (Or.inl ⟨rfl, h_m, hro⟩)) (fun j hj => ?_)) (pl_W wa wx h_m c2)
          · have h := act_C (w := w) (u := u) (V := nJ (ro A X m)) (Y := pl A m c X) cv ca (kd := 1) (on := m) (two := ro A X m) (G := fun x => x.bind fun r10 => some (nJ (ro A X m), r10)) (g := fun r8 => f_X3_place 34 (nI m) (nJ c) r8) (fun τ cc => place_f cc (by omega) hc) (fun τ fr mv => by rw [Option.bind_some])
            obtain ⟨τ, c3, e1⟩ := h
            refine ⟨τ, c3, hcl _ ?_⟩
            rw [← e1]
            have hfull : f_X3_isFullFor 34 (nI m) (nJ c) (mk σ w u) = some (nI 0, mk σ w u) := by
              by_cases c0 : c = 0
              · rw [c0]; exact isFullFor_N cv (by omega)
              · have h4 : pc (an (X (24 + c)) (2 ^ m)) 12 < 4 := by rcases c2 with h | h; exact absurd h c0; exact h
                rw [nJ_pos (by omega), isFullFor_f cv (by omega) (by omega), show 25 + (c - 1) = 24 + c by omega, if_pos h4]
            unfold f_X10_put_15
            rw [zr0_8, Option.bind_some, rowOf_f cv (by omega), Option.bind_some]
            dsimp only
            rw [if_neg hne, zr0_8, Option.bind_some, hfull, Option.bind_some]
            dsimp only
            rw [if_pos (show nI 0 = 0 from rfl), zr0_5, Option.bind_some, zr15_1, Option.bind_some, zr0_8, Option.bind_some, show (1 : Int32) = nI 1 from rfl, show f_X0_keep 16 (nI 1) (nI m) (nJ (ro A X m)) 34 (mk σ w u) = f_X0_keep 16 (nI 1) (nI m) (tw 1 (ro A X m)) 34 (mk σ w u) from by unfold tw; rw [if_pos rfl]]
            obtain ⟨τ1, ⟨f1, a1⟩, e2⟩ := keep_f (w := w) (u := u) isAc_16 cv (by omega) ca (kd := 1) (on := m) (two := ro A X m)
            rw [e2, Option.bind_some, Option.bind_some, zr0_8, Option.bind_some]
          · obtain ⟨r0, t1, n1, a1⟩ := CM_r rv hN ra cm
            obtain ⟨τ2, f2, r2, a2, n2, e2⟩ := act_R (w := w) (u := (nJ (ro A X m)).toInt64) r0 n1 a1
            obtain ⟨τ3, ⟨f3, r3⟩, e3⟩ := puts0_R (w := w) (u := (nJ (ro A X m)).toInt64) r2 (man := m) (c := c) (by omega) hc
            refine ⟨τ3, RM_mk f2 a2 n2 (Fr_m f3 (fun q k e => by unfold Wb at e; omega)) r3, ?_⟩
            have k82 : f_X11_put_82 118 (nI m) (nJ c) (nJ (ro A X m)) (mk (s2 τ 118 0 0) w (nJ (ro A X m)).toInt64) = some (nJ (ro A X m), mk τ3 w (nJ (ro A X m)).toInt64) := by
              unfold f_X11_put_82
              rw [e2, Option.bind_some, show f_X11_puts0 118 0 (nI m) (nJ c) (mk τ2 w (nJ (ro A X m)).toInt64) = some (mk τ3 w (nJ (ro A X m)).toInt64) from e3, Option.bind_some]
            refine hre τ _ _ r0 ?_
            rw [if_neg hne]
            by_cases c0 : c = 0
            · rw [if_pos (nj1.mpr c0)]; exact k82
            · have h4 : pc (an (X (24 + c)) (2 ^ m)) 12 < 4 := by rcases c2 with h | h; exact absurd h c0; exact h
              have hb0 := ro_row (m := m) wx hR8 (r := c - 1) (by omega)
              rw [if_neg (by omega), show 25 + (c - 1) = 24 + c by omega] at hb0
              rw [an_z hb0] at h4
              have eS := RV_0s r0 (c - 1) (by omega)
              have hs := (hT (c - 1) (by omega)).2.2.2
              rw [show 25 + (c - 1) = 24 + c by omega] at hs eS
              rw [if_neg (fun e => c0 (nj1.mp e)), zr118_36, Option.bind_some, show (25 : Int32) + nJ c = nI (24 + c) from by rw [nJ_pos (by omega), show 24 + c = 25 + (c - 1) by omega]; exact nI_add 25 _, za128 (by omega), Option.bind_some, eS, bits_f (by omega), Option.bind_some]
              dsimp only
              rw [if_neg (show ¬ nI (pc (X (24 + c)) 12) = 4 from fun e => by have e2 : nI (pc (X (24 + c)) 12) = nI 4 := e; rw [nI_eq (by omega) (by omega)] at e2; omega)]
              exact k82
          · unfold bk
            rw [if_neg (by omega), if_pos rfl]
            exact pl_pl wx hR8 j
        · have c0 : c ≠ 0 := fun e => c2 (Or.inl e)
          have h4 : ¬ pc (an (X (24 + c)) (2 ^ m)) 12 < 4 := fun e => c2 (Or.inr e)
          refine refu ?_ (fun τ U9 r0 => ?_)
          · unfold f_X10_put_15
            rw [zr0_8, Option.bind_some, rowOf_f cv (by omega), Option.bind_some]
            dsimp only
            rw [if_neg hne, zr0_8, Option.bind_some, nJ_pos (k := c) (by omega), isFullFor_f cv (by omega) (by omega), show 25 + (c - 1) = 24 + c by omega, if_neg h4, Option.bind_some]
            dsimp only
            rw [if_neg (show ¬ nI 1 = 0 by decide)]
          · have hb0 := ro_row (m := m) wx hR8 (r := c - 1) (by omega)
            rw [if_neg (by omega), show 25 + (c - 1) = 24 + c by omega] at hb0
            rw [an_z hb0] at h4
            have eS := RV_0s r0 (c - 1) (by omega)
            have hs := (hT (c - 1) (by omega)).2.2.2
            have h5 := (wx.2.1 (c - 1) (by omega)).2.2.2.2
            rw [show 25 + (c - 1) = 24 + c by omega] at hs eS h5
            refine hre τ _ _ r0 ?_
            rw [if_neg hne, if_neg (fun e => c0 (nj1.mp e)), zr118_36, Option.bind_some, show (25 : Int32) + nJ c = nI (24 + c) from by rw [nJ_pos (by omega), show 24 + c = 25 + (c - 1) by omega]; exact nI_add 25 _, za128 (by omega), Option.bind_some, eS, bits_f (by omega), Option.bind_some]
            dsimp only
            rw [if_pos (show nI (pc (X (24 + c)) 12) = 4 from by rw [show pc (X (24 + c)) 12 = 4 by omega]; rfl)]
    by_cases c0 : x1 = -1
    · rw [show x1 = nJ 0 from c0]
      exact good 0 (by omega)
    · rcases arg_d x1 (n := A 2) (by omega) with ⟨r, h_r, rfl⟩ | b1
      · have h := good (r + 1) (by omega)
        rw [nJ_S] at h
        exact h
      · refine Ag_bad (c := nI 1) (v := 0) iv0 (by decide) ?_ ?_
        · unfold e_L_put g_X10_put
          rw [zg0, needMan_g cv h_m, needMan_f cv h_m, xb_n, if_neg c0, needRow_b cv b1, xb_s, Option.bind_some, hx_0, show (1 : Int32) = nI 1 from rfl]
        · have k1 : f_X11_put_31 118 (nI m) x1 118 (mk (s2 σ 118 0 0) w u) = some (0, mk (s2 (s2 σ 118 0 0) 118 0 (nI 1)) w u) := by
            unfold f_X11_put_31 f_X11_put_32
            rw [show f_X11_right 118 0 1 (mk (s2 σ 118 0 0) w u) = some (nI 0, mk (s2 (s2 σ 118 0 0) 118 0 (nI 1)) w u) from right_0 (c := 1) (by omega) t0, Option.bind_some]
            dsimp only
            rw [if_pos (show nI 0 = 0 from rfl)]
            rfl
          unfold f_X11_put
          rw [zg118, zw118_0, Option.bind_some, isMan_1 tm (by omega) h_m t0, Option.bind_some]
          dsimp only
          rw [if_neg (show ¬ nI 1 = 0 by decide)]
          by_cases c1 : x1 < -1
          · rw [if_pos c1]; exact k1
          · rw [if_neg c1, zi118_3, Option.bind_some, tr]
            have c2 : nI (A 2) ≤ x1 := by
              rcases b1 with b | b
              · exact absurd c0 (by
                  intro h
                  apply h
                  have h1 := Int32.not_lt.mp c1
                  rw [Int32.le_iff_toInt_le] at h1
                  rw [Int32.lt_iff_toInt_lt] at b
                  apply Int32.toInt_inj.mp
                  have e1 : (-1 : Int32).toInt = -1 := by decide
                  have e2 : (0 : Int32).toInt = 0 := by decide
                  rw [e1] at h1 ⊢
                  rw [e2] at b
                  omega)
              · exact b
            rw [if_pos c2]
            exact k1
  · refine Ag_bad (c := nI 1) (v := 0) iv0 (by decide) ?_ ?_
    · unfold e_L_put g_X10_put
      rw [zg0, needMan_b cv b0, xb_s, Option.bind_some, hx_0, show (1 : Int32) = nI 1 from rfl]
    · unfold f_X11_put
      rw [zg118, zw118_0, Option.bind_some, isMan_0 tm b0 t0, Option.bind_some]
      dsimp only
      rw [if_pos (show nI 0 = 0 from rfl)]
      rfl
end AR
