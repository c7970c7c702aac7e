/-! L3: image, restore, see, feed -/
section AT
variable {w u : Int64}
theorem ag_image : AgN (fun h => f_X10_image 0 h) (fun h => f_X11_image 118 h) := by
  intro σ w u iv
  obtain ⟨A, P, X, h1, h2, ⟨N, K, O, U, S, ca, ra, hN, okA⟩, ⟨M, s, cs, rs, hMs, okS⟩, h5, h6⟩ := iv
  have ia : IA σ A X := ⟨N, K, O, U, S, ca, ra, hN, okA⟩
  have is : IS σ A := ⟨M, s, cs, rs, hMs, okS⟩
  obtain ⟨τ1, ⟨f1, m1, a1, s1⟩, e1⟩ := image_f (w := w) (u := u) h1.2.2.1 ca cs
  have f2 : Fr (fun q k => Wst 28 q k ∨ (q = 0 ∧ k = 7)) σ (s2 τ1 0 7 1) := Fr_st (Fr_m f1 (fun q k e => Or.inl e)) (Or.inr ⟨rfl, rfl⟩)
  have r2 : RV (s2 τ1 0 7 1) 0 A P X 0 := RV_F h2 f2 (fun q k e => by unfold Wst Wm Wa at e; omega)
  have n2 : (s2 τ1 0 7 1) 118 38 = nI N := by rw [f2 118 38 (by unfold Wst Wm Wa; omega)]; exact hN
  have b2 : (s2 τ1 0 7 1) 118 45 = nI M := by rw [f2 118 45 (by unfold Wst Wm Wa; omega)]; exact hMs
  obtain ⟨τ3, ⟨f3, t0, k49, k50, k51, k135, a3, s3⟩, e3⟩ := image_R (w := w) (u := u) r2.2.2.1 n2 (RAc_F ra f2 (fun k e => by unfold Wst Wm Wa at e; omega)) b2 (RSe_F rs f2 (fun k e => by unfold Wst Wm Wa at e; omega))
  have f4 : Fr (fun q k => (Wst 28 q k ∨ (q = 0 ∧ k = 7)) ∨ Wri q k) σ τ3 := Fr_t (Fr_m f2 (fun q k e => Or.inl e)) (Fr_m f3 (fun q k e => Or.inr e))
  have f5 : Fr (fun q k => (q = 0 ∧ k = 7) ∨ Wri q k) τ1 τ3 := Fr_t (Fr_s (Or.inl ⟨rfl, rfl⟩)) (Fr_m f3 (fun q k e => Or.inr e))
  refine ⟨τ3, w, mk (s2 τ1 0 7 1) w u, ⟨A, P, X, CV_F h1 f4 (fun q k e => ?_), RV_F h2 f4 (fun q k e => ?_), IA_F ia f4 (fun q k e => ?_), IS_F is f4 (fun q k e => ?_), ⟨1, by omega, ?_, k49, fun _ => ⟨X, N, K, O, U, S, M, s, Mv_F m1 f5 (fun q k e => ?_), k135, h1.2.2.2.2.1, CA_F a1 f5 (fun q k e => ?_), a3, k50, okA, CS_F s1 f5 (fun q k e => ?_), s3, k51, okS⟩⟩, IT_F h6 f4 (fun q k e => ?_)⟩, ?_, e3⟩
  · unfold Wst Wm Wa Wri at e; omega
  · unfold Wst Wm Wa Wri at e; omega
  · unfold Wst Wm Wa Wri at e; unfold Wa; omega
  · unfold Wst Wm Wa Wri at e; unfold Wa; omega
  · rw [f3 0 7 (by unfold Wri; omega), s2_at rfl rfl]; rfl
  · unfold Wri at e; omega
  · unfold Wri at e; unfold Wa; omega
  · unfold Wri at e; unfold Wa; omega
  · unfold Wst Wm Wa Wri at e; omega
  · show f_X10_image 0 _ = _
    unfold f_X10_image
    rw [zg0, zr0_6, Option.bind_some, zr0_5, Option.bind_some, e1, Option.bind_some, zw0_7 (Or.inr rfl), Option.bind_some]
theorem ag_restore : Ag0 (fun h => f_X10_restore 0 h) (fun h => f_X11_restore 118 h) := by
  intro σ w u iv
  have iv0 := iv
  obtain ⟨A, P, X, h1, h2, ia, is, ⟨kp, hkp, h07, h49, hk⟩, h6⟩ := iv
  by_cases c : kp = 0
  · subst c
    refine Ag0_ok iv0 (V := 0) ⟨σ, Fr_r _ _, ?_⟩ (fun τ fr => ⟨s2 τ 118 0 0, Fr_r _ _, ?_⟩)
    · show f_X10_restore 0 _ = _
      unfold f_X10_restore f_X10_restore_18
      rw [zg0, zi0_7, Option.bind_some, h07, if_pos (show nI 0 = 0 from rfl), Option.bind_some, if_pos (Or.inl (show nI 0 = 0 from rfl))]
      rfl
    · show f_X11_restore 118 _ = _
      unfold f_X11_restore
      rw [zg118, zw118_0, Option.bind_some, zi118_49, Option.bind_some, s2_off (by omega), fr 118 49 (by unfold Ws; omega), h49, if_pos (show nI 0 = 0 from rfl), if_pos (by decide)]
  · have ek : kp = 1 := by omega
    subst ek
    obtain ⟨Y, N, K, O, U, S, M, s, m62, k135, wy, ca, ra, hN, okA, cs, rs, hMs, okS⟩ := hk rfl
    obtain ⟨τ1, ⟨f1, m1, a1, s1⟩, e1⟩ := restore_f (w := w) (u := u) m62 ca cs
    have g49 : τ1 118 49 = nI 1 := by rw [f1 118 49 (by unfold Wst Wm Wa; omega)]; exact h49
    obtain ⟨τ3, ⟨f3, t0, n3, b3, r3, a3, s3⟩, e3⟩ := restore_R (w := w) (u := u) (X := Y) (N := N) (S := S) (M := M) (s := s) g49 (fun k hk => by rw [f1 135 k (by unfold Wst Wm Wa; omega)]; exact k135 k hk) (by rw [f1 118 50 (by unfold Wst Wm Wa; omega)]; exact hN) (RAc_F ra f1 (fun k e => by unfold Wst Wm Wa at e; omega)) (by rw [f1 118 51 (by unfold Wst Wm Wa; omega)]; exact hMs) (RSe_F rs f1 (fun k e => by unfold Wst Wm Wa at e; omega))
    have f4 : Fr (fun q k => Wst 0 q k ∨ Wrr q k) σ τ3 := Fr_t (Fr_m f1 (fun q k e => Or.inl e)) (Fr_m f3 (fun q k e => Or.inr e))
    have ik : IK σ A := ⟨1, by omega, h07, h49, hk⟩
    refine ⟨nI 1, τ3, w, mk τ1 w u, ⟨A, P, Y, CV_new h1 f4 (fun q k e => ?_) (Mv_F m1 f3 (fun q k e => ?_)) wy, RV_new h2 f4 (fun q k e => ?_) r3 wy, ⟨N, K, O, U, S, CA_F a1 f3 (fun q k e => ?_), a3, n3, okA⟩, ⟨M, s, CS_F s1 f3 (fun q k e => ?_), s3, b3, okS⟩, IK_F ik f4 (fun q k e => ?_), IT_F h6 f4 (fun q k e => ?_)⟩, ?_, e3⟩
    · unfold Wst Wm Wa Wrr at e; omega
    · unfold Wrr at e; omega
    · unfold Wst Wm Wa Wrr at e; omega
    · unfold Wrr at e; unfold Wa; omega
    · unfold Wrr at e; unfold Wa; omega
    · unfold Wst Wm Wa Wrr at e; unfold Wst Wm Wa; omega
    · unfold Wst Wm Wa Wrr at e; omega
    · show f_X10_restore 0 _ = _
      unfold f_X10_restore f_X10_restore_18
      rw [zg0, zi0_7, Option.bind_some, h07, if_neg (show ¬ nI 1 = 0 by decide), zr0_5, Option.bind_some, zr0_6, Option.bind_some, e1, Option.bind_some, zi0_7, Option.bind_some, f1 0 7 (by unfold Wst Wm Wa; omega), h07, if_pos (Or.inr (show nI 1 = 1 from rfl))]
theorem sk_OkS {A : Nat → Nat} {M : Nat} {s : Nat → Nat → Nat} {r k b e : Nat} (ok : OkS A M s) (h1 : r < A 2) (h2 : 1 ≤ k) (h3 : k ≤ 12) (h4 : b < A 0) (h5 : e < 2) : OkS A (M + 1) (sk1 M s r k b e) := by
  intro i hi
  unfold sk1
  by_cases c : i = M
  · rw [if_pos c, if_pos c, if_pos c, if_pos c]
    exact ⟨h1, h2, h3, h4, h5⟩
  · rw [if_neg c, if_neg c, if_neg c, if_neg c]
    exact ok i (by omega)
theorem ag_see (x0 x1 x2 x3 : Int32) : Ag (fun h => e_L_see 0 x0 x1 x2 x3 138 h) (fun h => f_L_see 0 x0 x1 x2 x3 138 h) (fun h => f_X11_see 118 x0 x1 x2 x3 h) := by
  intro σ w u iv
  have iv0 := iv
  obtain ⟨A, P, X, cv, rv, ia, ⟨M, s, cs, rs, hMs, okS⟩, ik, it0⟩ := iv
  have t0 : (s2 σ 118 0 0) 118 0 = nI 0 := by rw [s2_at rfl rfl]; rfl
  have rv0 : RV (s2 σ 118 0 0) 0 A P X 0 := RV_F rv (Fr_s (W := fun q k => q = 118 ∧ k = 0) ⟨rfl, rfl⟩) (fun q k e => by omega)
  have tm := rv0.2.1.1.2.1; have tr := rv0.2.1.1.2.2.1; have tb := rv0.2.1.1.1; have hB1 := rv.2.2.2.2.1.1; have hB2 := rv.2.2.2.2.1.2.1; have hM8 := rv.2.2.2.2.1.2.2.1; have hR8 := rv.2.2.2.2.1.2.2.2.1; have hS12 := rv.2.2.2.2.1.2.2.2.2.1; have hT := RV_b rv
  have hM := cs.1
  rcases arg_d x0 (n := A 2) (by omega) with ⟨r, h_r, rfl⟩ | b0
  · have k1 : ∀ t, f_X11_see_31 118 (nI r) x1 x2 x3 118 0 (mk (s2 σ 118 0 0) w t) = some (0, mk (s2 (s2 σ 118 0 0) 118 0 (nI 1)) w t) := fun t => by
      unfold f_X11_see_31
      rw [show f_X11_right 118 0 1 (mk (s2 σ 118 0 0) w t) = some (nI 0, mk (s2 (s2 σ 118 0 0) 118 0 (nI 1)) w t) from right_0 (c := 1) (by omega) t0, Option.bind_some]
      dsimp only
      rw [if_pos (show nI 0 = 0 from rfl)]
      rfl
    rcases arg_d x2 (n := A 0) (by omega) with ⟨b, h_b, rfl⟩ | b1
    · have ge : e_L_see 0 (nI r) x1 (nI b) x3 138 (mk σ w u) = none := by
        unfold e_L_see g_X10_see
        rw [zg0, needRow_g cv h_r, needRow_f cv h_r, xb_n, needBeat_g cv h_b, needBeat_f cv h_b, xb_n]
        rfl
      have hre : ∀ τ U9, RV (s2 τ 118 0 0) 0 A P X 0 → (s2 τ 118 0 0) 118 45 = nI M → f_X11_see 118 (nI r) x1 (nI b) x3 (mk τ w U9) = (if nI M = 8 then (f_X11_see_59 118 (mk (s2 τ 118 0 0) w U9)) else ((f_X11_within x1 1 12 (mk (s2 τ 118 0 0) w U9)).bind fun r3 => if r3.1 = 0 then (f_X11_see_59 118 r3.2) else ((rd_R r3.2 118 11 46).bind fun v4 => (rd_I r3.2 118 11 45).bind fun v5 => (wr_A r3.2 v4 (4 * v5) (nI r)).bind fun h6 => (rd_R h6 118 11 46).bind fun v7 => (rd_I h6 118 11 45).bind fun v8 => (wr_A h6 v7 ((4 * v8) + 1) x1).bind fun h9 => (rd_R h9 118 11 46).bind fun v10 => (rd_I h9 118 11 45).bind fun v11 => (wr_A h9 v10 ((4 * v11) + 2) (nI b)).bind fun h12 => (rd_R h12 118 11 46).bind fun v13 => (rd_I h12 118 11 45).bind fun v14 => if x3 = 0 then (f_X11_see_127 118 v13 ((4 * v14) + 3) 0 h12) else (f_X11_see_127 118 v13 ((4 * v14) + 3) 1 h12)))) := fun τ U9 r0 m0 => by
        have t1 : (s2 τ 118 0 0) 118 0 = nI 0 := by rw [s2_at rfl rfl]; rfl
        unfold f_X11_see f_X11_see_31
        rw [zg118, zw118_0, Option.bind_some, isRow_1 r0.2.1.1.2.2.1 (by omega) h_r t1, Option.bind_some]
        dsimp only
        rw [if_neg (show ¬ nI 1 = 0 by decide), if_neg (nI_pos (by omega)), zi118_1, Option.bind_some, r0.2.1.1.1, if_neg (nI_ge h_b (by omega)), show f_X11_right 118 1 1 (mk (s2 τ 118 0 0) w U9) = some (nI 1, mk (s2 τ 118 0 0) w U9) from right_1 t1, Option.bind_some]
        dsimp only
        rw [if_neg (show ¬ nI 1 = 0 by decide), zi118_45, Option.bind_some, m0]
      have hcl : f_X10_see 0 (nI r) x1 (nI b) x3 (mk σ w u) = (if 8 ≤ nI M then (f_X10_see_36 0 (mk σ w u)) else (if x1 < 1 then (f_X10_see_36 0 (mk σ w u)) else (if x1 ≤ 12 then (if x3 = 0 then (f_X10_see_63 25 (nI r) x1 (nI b) 0 (mk σ w u)) else (f_X10_see_63 25 (nI r) x1 (nI b) 1 (mk σ w u))) else (f_X10_see_36 0 (mk σ w u))))) := by
        unfold f_X10_see
        rw [zg0, needRow_f cv h_r, Option.bind_some, needBeat_f cv h_b, Option.bind_some, zr0_5, Option.bind_some, zr15_2, Option.bind_some, zi25_4, Option.bind_some, cs.2.1, Option.bind_some, zr15_2, Option.bind_some]
      have refu : f_X10_see 0 (nI r) x1 (nI b) x3 (mk σ w u) = f_X10_see_36 0 (mk σ w u) → (∀ τ U9, RV (s2 τ 118 0 0) 0 A P X 0 → (s2 τ 118 0 0) 118 45 = nI M → f_X11_see 118 (nI r) x1 (nI b) x3 (mk τ w U9) = f_X11_see_59 118 (mk (s2 τ 118 0 0) w U9)) → ∃ cc v τ w' u' h1, IV τ ∧ eh (e_L_see 0 (nI r) x1 (nI b) x3 138 (mk σ w u)) (f_L_see 0 (nI r) x1 (nI b) x3 138 (mk σ w u)) = some (cc, h1) ∧ f_X11_see 118 (nI r) x1 (nI b) x3 h1 = some (v, mk τ w' u') ∧ τ 118 0 = cc ∧ (cc = 0 → u' = v.toInt64) := fun h1 h2 => by
        refine Ag_ref (e := fun h => e_L_see 0 (nI r) x1 (nI b) x3 138 h) (f := fun h => f_L_see 0 (nI r) x1 (nI b) x3 138 h) (m := fun h => f_X11_see 118 (nI r) x1 (nI b) x3 h) iv0 (i := 2) (V := -1) (by omega) ge ?_ ?_
        · refine hf_std (u := u) _ (h1.trans ?_)
          unfold f_X10_see_36
          rw [show f_X10_refuse 0 2 (mk σ w u) = some (mk (s2 σ 4 2 (σ 4 2 + 1)) w u) from refuse_f (i := 2) (by omega), Option.bind_some]
        · have r1 : RV (s2 (s2 σ 4 2 (σ 4 2 + 1)) 118 0 0) 0 A P X 0 := RV_F rv (Fr_st (Fr_s (W := fun q k => q = 4 ∨ (q = 118 ∧ k = 0)) (Or.inl rfl)) (Or.inr ⟨rfl, rfl⟩)) (fun q k e => by omega)
          show f_X11_see 118 (nI r) x1 (nI b) x3 _ = _
          rw [h2 _ _ r1 (by rw [s2_off (by omega), s2_off (by omega)]; exact hMs)]
          unfold f_X11_see_59
          rw [show f_X11_refuses 118 2 (mk (s2 (s2 σ 4 2 (σ 4 2 + 1)) 118 0 0) w (-1 : Int32).toInt64) = some (-1, mk (s2 (s2 (s2 σ 4 2 (σ 4 2 + 1)) 118 0 0) 122 2 ((s2 (s2 σ 4 2 (σ 4 2 + 1)) 118 0 0) 122 2 + 1)) w (-1 : Int32).toInt64) from refuses_R (i := 2) (by omega), Option.bind_some, s2_off (by omega), s2_off (by omega)]
      by_cases c8 : M = 8
      · refine refu ?_ (fun τ U9 r0 m0 => ?_)
        · rw [hcl, if_pos (by rw [c8]; decide)]
        · rw [hre τ U9 r0 m0, if_pos (by rw [c8]; rfl)]
      · have c8' : ¬ (8 : Int32) ≤ nI M := nI_ge (b := 8) (a := M) (by omega) (by decide)
        have c8'' : ¬ nI M = 8 := fun e => c8 ((nI_eq (b := 8) (by omega) (by decide)).mp e)
        rcases arg_w x1 (a := 1) (b := 12) (by decide) (by decide) with ⟨k, h1_k, h_k, rfl⟩ | b2
        · obtain ⟨e, he, hx3⟩ : ∃ e, e < 2 ∧ ((x3 = 0 ∧ e = 0) ∨ (x3 ≠ 0 ∧ e = 1)) := by
            by_cases c : x3 = 0
            · exact ⟨0, by omega, Or.inl ⟨c, rfl⟩⟩
            · exact ⟨1, by omega, Or.inr ⟨c, rfl⟩⟩
          obtain ⟨τ1, ⟨f1, s1⟩, e1⟩ := seeKeep_f (w := w) (u := u) isSi_25 cs (by omega) (r := r) (k := k) (b := b) (e := e) h1_k
          have ec : f_X10_see 0 (nI r) (nI k) (nI b) x3 (mk σ w u) = some (nI (M + 1), mk τ1 w u) := by
            have e63 : f_X10_see_63 25 (nI r) (nI k) (nI b) (nI e) (mk σ w u) = some (nI (M + 1), mk τ1 w u) := by
              unfold f_X10_see_63
              rw [e1, Option.bind_some]
            rw [hcl, if_neg c8', if_neg (show ¬ nI k < 1 from nI_nlt (a := k) (b := 1) h1_k (by omega)), if_pos (show nI k ≤ 12 from nI_le (b := 12) h_k (by decide))]
            rcases hx3 with ⟨c, ce⟩ | ⟨c, ce⟩
            · rw [if_pos c]; rw [ce] at e63; exact e63
            · rw [if_neg c]; rw [ce] at e63; exact e63
          have f0 : Fr (fun q k => Wa 25 q k ∨ (q = 118 ∧ k = 0)) σ (s2 τ1 118 0 0) := Fr_t (Fr_m f1 (fun q k e => Or.inl e)) (Fr_s (Or.inr ⟨rfl, rfl⟩))
          have r0 : RV (s2 τ1 118 0 0) 0 A P X 0 := RV_F rv f0 (fun q k e => by unfold Wa at e; omega)
          have m0 : (s2 τ1 118 0 0) 118 45 = nI M := by rw [f0 118 45 (by unfold Wa; omega)]; exact hMs
          have s0 : RSe (s2 τ1 118 0 0) 133 M s := RSe_F rs f0 (fun k e => by unfold Wa at e; omega)
          obtain ⟨τ2, hτ2⟩ : ∃ τ2, τ2 = s2 τ1 118 0 0 := ⟨_, rfl⟩
          have er : ∀ U9, f_X11_see 118 (nI r) (nI k) (nI b) x3 (mk τ1 w U9) = some (nI (M + 1), mk (s2 (s2 (s2 (s2 (s2 τ2 133 (4 * M) (nI r)) 133 (4 * M + 1) (nI k)) 133 (4 * M + 2) (nI b)) 133 (4 * M + 3) (nI e)) 118 45 (nI (M + 1))) w U9) := fun U9 => by
            rw [hre τ1 U9 r0 m0, if_neg c8'']
            rw [← hτ2] at m0 ⊢
            have e127 : f_X11_see_127 118 133 (nI (4 * M + 3)) (nI e) (mk (s2 (s2 (s2 τ2 133 (4 * M) (nI r)) 133 (4 * M + 1) (nI k)) 133 (4 * M + 2) (nI b)) w U9) = some (nI (M + 1), mk (s2 (s2 (s2 (s2 (s2 τ2 133 (4 * M) (nI r)) 133 (4 * M + 1) (nI k)) 133 (4 * M + 2) (nI b)) 133 (4 * M + 3) (nI e)) 118 45 (nI (M + 1))) w U9) := by
              unfold f_X11_see_127
              rw [zb133 (by omega), Option.bind_some, zi118_45, Option.bind_some, s2_off (by omega), s2_off (by omega), s2_off (by omega), s2_off (by omega), m0, nI_1, zw118_45, Option.bind_some, zi118_45, Option.bind_some, s2_at rfl rfl]
            rw [show f_X11_within (nI k) 1 12 (mk τ2 w U9) = some (nI 1, mk τ2 w U9) from within_1 (a := 1) (b := 12) h1_k h_k (by decide) _, Option.bind_some]
            dsimp only
            rw [if_neg (show ¬ nI 1 = 0 by decide), zr118_46, Option.bind_some, zi118_45, Option.bind_some, m0, show (4 : Int32) * nI M = nI (4 * M) from pk_mul 4 M, zb133 (by omega), Option.bind_some, zr118_46, Option.bind_some, zi118_45, Option.bind_some, s2_off (by omega), m0, show (4 : Int32) * nI M = nI (4 * M) from pk_mul 4 M, nI_1, zb133 (by omega), Option.bind_some, zr118_46, Option.bind_some, zi118_45, Option.bind_some, s2_off (by omega), s2_off (by omega), m0, show (4 : Int32) * nI M = nI (4 * M) from pk_mul 4 M, show nI (4 * M) + (2 : Int32) = nI (4 * M + 2) from nI_add _ 2, zb133 (by omega), Option.bind_some, zr118_46, Option.bind_some, zi118_45, Option.bind_some, s2_off (by omega), s2_off (by omega), s2_off (by omega), m0, show (4 : Int32) * nI M = nI (4 * M) from pk_mul 4 M, show nI (4 * M) + (3 : Int32) = nI (4 * M + 3) from nI_add _ 3]
            rcases hx3 with ⟨c, ce⟩ | ⟨c, ce⟩
            · rw [if_pos c]; rw [ce] at e127 ⊢; exact e127
            · rw [if_neg c]; rw [ce] at e127 ⊢; exact e127
          refine ⟨0, nI (M + 1), _, w, (nI (M + 1)).toInt64, mk τ1 w (nI (M + 1)).toInt64, ?_, ?_, er _, ?_, fun _ => rfl⟩
          · have f3 : Fr (fun q k => q = 133 ∨ (q = 118 ∧ (k = 0 ∨ k = 45))) τ1 (s2 (s2 (s2 (s2 (s2 τ2 133 (4 * M) (nI r)) 133 (4 * M + 1) (nI k)) 133 (4 * M + 2) (nI b)) 133 (4 * M + 3) (nI e)) 118 45 (nI (M + 1))) := by
              rw [hτ2]
              exact Fr_st (Fr_st (Fr_st (Fr_st (Fr_st (Fr_s (Or.inr ⟨rfl, Or.inl rfl⟩)) (Or.inl rfl)) (Or.inl rfl)) (Or.inl rfl)) (Or.inl rfl)) (Or.inr ⟨rfl, Or.inr rfl⟩)
            have f4 : Fr (fun q k => Wa 25 q k ∨ (q = 133 ∨ (q = 118 ∧ (k = 0 ∨ k = 45)))) σ (s2 (s2 (s2 (s2 (s2 τ2 133 (4 * M) (nI r)) 133 (4 * M + 1) (nI k)) 133 (4 * M + 2) (nI b)) 133 (4 * M + 3) (nI e)) 118 45 (nI (M + 1))) := Fr_t (Fr_m f1 (fun q k e => Or.inl e)) (Fr_m f3 (fun q k e => Or.inr e))
            refine ⟨A, P, X, CV_F cv f4 (fun q k e => ?_), RV_F rv f4 (fun q k e => ?_), IA_F ia f4 (fun q k e => ?_), ⟨M + 1, _, CS_F s1 f3 (fun q k e => ?_), ⟨by omega, fun i hi => ?_⟩, s2_at rfl rfl, sk_OkS okS h_r h1_k h_k h_b he⟩, IK_F ik f4 (fun q k e => ?_), IT_F it0 f4 (fun q k e => ?_)⟩
            · unfold Wa at e; omega
            · unfold Wa at e; omega
            · unfold Wa at e; unfold Wa; omega
            · unfold Wa; omega
            · unfold sk1
              by_cases c : i = M
              · subst c
                refine ⟨?_, ?_, ?_, ?_⟩
                · rw [s2_off (by omega), s2_off (by omega), s2_off (by omega), s2_off (by omega), s2_at rfl rfl]; simp
                · rw [s2_off (by omega), s2_off (by omega), s2_off (by omega), s2_at rfl rfl]; simp
                · rw [s2_off (by omega), s2_off (by omega), s2_at rfl rfl]; simp
                · rw [s2_off (by omega), s2_at rfl rfl]; simp
              · rw [if_neg c, if_neg c, if_neg c, if_neg c]
                have gg : ∀ j, j < 4 * M → (s2 (s2 (s2 (s2 (s2 τ2 133 (4 * M) (nI r)) 133 (4 * M + 1) (nI k)) 133 (4 * M + 2) (nI b)) 133 (4 * M + 3) (nI e)) 118 45 (nI (M + 1))) 133 j = τ2 133 j := fun j hj => by rw [s2_off (by omega), s2_off (by omega), s2_off (by omega), s2_off (by omega), s2_off (by omega)]
                rw [gg _ (by omega), gg _ (by omega), gg _ (by omega), gg _ (by omega), hτ2]
                exact s0.2 i (by omega)
            · unfold Wa at e; unfold Wst Wm Wa; omega
            · unfold Wa at e; omega
          · show eh (e_L_see 0 (nI r) (nI k) (nI b) x3 138 (mk σ w u)) (f_L_see 0 (nI r) (nI k) (nI b) x3 138 (mk σ w u)) = _
            rw [ge, eh_n]
            exact hf_std (u := u) _ ec
          · rw [s2_off (by omega), s2_off (by omega), s2_off (by omega), s2_off (by omega), s2_off (by omega), hτ2, s2_at rfl rfl]
        · refine refu ?_ (fun τ U9 r0 m0 => ?_)
          · rw [hcl, if_neg c8']
            by_cases c : x1 < 1
            · rw [if_pos c]
            · rw [if_neg c, if_neg (by rcases b2 with b | b; exact absurd b c; exact b.2.1)]
          · rw [hre τ U9 r0 m0, if_neg c8'', show f_X11_within x1 1 12 (mk (s2 τ 118 0 0) w U9) = some (nI 0, mk (s2 τ 118 0 0) w U9) from within_0 (a := 1) (b := 12) b2 _, Option.bind_some]
            dsimp only
            rw [if_pos (show nI 0 = 0 from rfl)]
    · refine Ag_bad (c := nI 1) (v := 0) iv0 (by decide) ?_ ?_
      · unfold e_L_see g_X10_see
        rw [zg0, needRow_g cv h_r, needRow_f cv h_r, xb_n, needBeat_b cv b1, xb_s, Option.bind_some, hx_0, show (1 : Int32) = nI 1 from rfl]
      · unfold f_X11_see
        rw [zg118, zw118_0, Option.bind_some, isRow_1 tr (by omega) h_r t0, Option.bind_some]
        dsimp only
        rw [if_neg (show ¬ nI 1 = 0 by decide)]
        by_cases c : x2 < 0
        · rw [if_pos c]; exact k1 u
        · rw [if_neg c, zi118_1, Option.bind_some, tb, if_pos (by rcases b1 with b | b; exact absurd b c; exact b)]
          exact k1 u
  · refine Ag_bad (c := nI 1) (v := 0) iv0 (by decide) ?_ ?_
    · unfold e_L_see g_X10_see
      rw [zg0, needRow_b cv b0, xb_s, Option.bind_some, hx_0, show (1 : Int32) = nI 1 from rfl]
    · unfold f_X11_see
      rw [zg118, zw118_0, Option.bind_some, isRow_0 tr b0 t0, Option.bind_some]
      dsimp only
      rw [if_pos (show nI 0 = 0 from rfl)]
      rfl
end AT
