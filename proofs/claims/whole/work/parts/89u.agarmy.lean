/-! L3: army agrees -/
section AU9
variable {σ τ : Nat → Nat → Int32} {w u : Int64} {T : Nat → Nat} {n : Nat} {Q : Nat → Nat} {P : List (Nat × Nat)}
theorem fin_0 {f p : Nat} (rf : RF σ f p) : f_X11_army_138 118 (mk σ w u) = some (nI f, mk (s2 σ 122 0 (σ 122 0 + 1)) w u) := by
  unfold f_X11_army_138
  rw [gd_n rf, Option.bind_some]
  dsimp only
  rw [if_pos (show nI 0 = 0 from rfl), zr118_13, Option.bind_some, show rd_A (mk σ w u) 0 122 0 = some (σ 122 0) from za122 (i := 0) (by omega), Option.bind_some, show wr_A (mk σ w u) 122 0 (σ 122 0 + 1) = some (mk (s2 σ 122 0 (σ 122 0 + 1)) w u) from zb122 (i := 0) (by omega), Option.bind_some, zi118_11, Option.bind_some, s2_off (by omega), rf.1]
def Wr1 (q k : Nat) : Prop := (q = 118 ∧ ((1 ≤ k ∧ k ≤ 6) ∨ k = 38 ∨ k = 45 ∨ k = 49)) ∨ q = 119 ∨ q = 120 ∨ q = 128
theorem fin_1 (h11 : σ 118 11 = nI 0) (rb : RB σ Q P) (wq : WQ Q P) : RQ (fun τ => Fr Wr1 σ τ ∧ Ra τ (AQ Q) P ∧ Rr τ 0 (XQ Q) ∧ τ 118 38 = nI 0 ∧ τ 118 45 = nI 0 ∧ τ 118 49 = nI 0) w u (nI 0) (f_X11_army_138 118 (mk σ w u)) := by
  obtain ⟨a0, a1, a2, a3, a4, a5, a6, a7, a8⟩ := rb
  obtain ⟨b4, b12⟩ := bq_b wq
  have w1 := wq.2.1
  have w4 := wq.2.2.2.2.1
  have h0 : Q 0 ≤ 12 := by have := wq.1; omega
  have h3 : Q 3 ≤ 13 := wq.2.2.2.1
  have s1 : f_X11_army_138 118 (mk σ w u) = f_X11_army_178 118 118 (nI (bq Q)) (mk σ w u) := by
    unfold f_X11_army_138
    rw [isGood_1 h11, Option.bind_some]
    dsimp only
    rw [if_neg (show ¬ nI 1 = 0 by decide), zi118_22, Option.bind_some, a0]
    by_cases c : Q 0 = 0
    · rw [if_pos ((eb_0 _ h0).mpr c), show bq Q = 8 by unfold bq; rw [if_pos c]]
      rfl
    · rw [if_neg (fun e => c ((eb_0 _ h0).mp e)), Option.bind_some, show eb (Q 0) = nI (bq Q) by unfold eb bq; rw [if_neg c, if_neg c]]
  obtain ⟨σ1, hσ1⟩ : ∃ σ1, σ1 = s2 (s2 (s2 (s2 σ 118 1 (nI (bq Q))) 118 2 (nI (Q 1))) 118 3 (nI (Q 2))) 118 4 (nI (Q 4)) := ⟨_, rfl⟩
  have f1 : Fr (fun q k => q = 118 ∧ 1 ≤ k ∧ k ≤ 4) σ σ1 := by
    rw [hσ1]
    exact Fr_st (Fr_st (Fr_st (Fr_s (by omega)) (by omega)) (by omega)) (by omega)
  have s2' : f_X11_army_178 118 118 (nI (bq Q)) (mk σ w u) = f_X11_army_222 118 118 (nI (sq3 Q)) (mk σ1 w u) := by
    unfold f_X11_army_178
    rw [zw118_1, Option.bind_some, zi118_23, Option.bind_some, s2_off (by omega), a1, zw118_2, Option.bind_some, zi118_24, Option.bind_some, s2_off (by omega), s2_off (by omega), a2, zw118_3, Option.bind_some, zi118_25, Option.bind_some, s2_off (by omega), s2_off (by omega), s2_off (by omega), a3, zw118_4, Option.bind_some, ← hσ1, zi118_26, Option.bind_some, f1 118 26 (by omega), a4]
    by_cases c : Q 3 = 0
    · rw [if_pos ((nJ_0 _ h3).mpr c), show sq3 Q = 2 by unfold sq3; rw [if_pos c]]
      rfl
    · rw [if_neg (fun e => c ((nJ_0 _ h3).mp e)), Option.bind_some, nJ_pos (by omega), show sq3 Q = Q 3 - 1 by unfold sq3; rw [if_neg c]]
  obtain ⟨σ2, hσ2⟩ : ∃ σ2, σ2 = s2 (s2 σ1 118 5 (nI (sq3 Q))) 118 6 (σ 118 27) := ⟨_, rfl⟩
  have f2 : Fr (fun q k => q = 118 ∧ (k = 5 ∨ k = 6)) σ1 σ2 := by
    rw [hσ2]
    exact Fr_st (Fr_s (by omega)) (by omega)
  obtain ⟨σ3, ⟨f3, c3⟩, e3⟩ := copies_R (σ := σ2) (w := w) (u := u) (q := 123) (q' := 119) (n := 8) rfl rfl (by decide) (by decide)
  obtain ⟨σ4, ⟨f4, c4⟩, e4⟩ := copies_R (σ := σ3) (w := w) (u := u) (q := 125) (q' := 120) (n := 1400) rfl rfl (by decide) (by decide)
  have s3 : f_X11_army_222 118 118 (nI (sq3 Q)) (mk σ1 w u) = l_X11_army_259 118 0 (mk σ4 w u) := by
    unfold f_X11_army_222
    rw [zw118_5, Option.bind_some, zi118_27, Option.bind_some, s2_off (by omega), f1 118 27 (by omega), zw118_6, Option.bind_some, ← hσ2, zr118_31, Option.bind_some, zr118_7, Option.bind_some, e3, Option.bind_some, zr118_33, Option.bind_some, zr118_8, Option.bind_some, e4, Option.bind_some]
  have f14 : Fr (fun q k => (q = 118 ∧ 1 ≤ k ∧ k ≤ 6) ∨ q = 119 ∨ q = 120) σ σ4 := Fr_t (Fr_m f1 (fun q k e => by omega)) (Fr_t (Fr_m f2 (fun q k e => by omega)) (Fr_t (Fr_m f3 (fun q k e => by omega)) (Fr_m f4 (fun q k e => by omega))))
  have g18 : ∀ k, σ4 118 k = σ2 118 k := fun k => by rw [f4 118 k (by omega), f3 118 k (by omega)]
  have v1 : σ4 118 1 = nI (bq Q) := by rw [g18, f2 118 1 (by omega), hσ1, s2_off (by omega), s2_off (by omega), s2_off (by omega), s2_at rfl rfl]
  have v2 : σ4 118 2 = nI (Q 1) := by rw [g18, f2 118 2 (by omega), hσ1, s2_off (by omega), s2_off (by omega), s2_at rfl rfl]
  have v3 : σ4 118 3 = nI (Q 2) := by rw [g18, f2 118 3 (by omega), hσ1, s2_off (by omega), s2_at rfl rfl]
  have v4 : σ4 118 4 = nI (Q 4) := by rw [g18, f2 118 4 (by omega), hσ1, s2_at rfl rfl]
  have v5 : σ4 118 5 = nI (sq3 Q) := by rw [g18, hσ2, s2_off (by omega), s2_at rfl rfl]
  have v6 : σ4 118 6 = σ 118 27 := by rw [g18, hσ2, s2_at rfl rfl]
  have v119 : ∀ j, j < 8 → σ4 119 j = σ 123 j := fun j hj => by rw [f4 119 j (by omega), c3 j hj, f2 123 j (by omega), f1 123 j (by omega)]
  have v120 : ∀ j, j < 1400 → σ4 120 j = σ 125 j := fun j hj => by rw [c4 j hj, f3 125 j (by omega), f2 125 j (by omega), f1 125 j (by omega)]
  rw [s1, s2', s3]
  have fin : ∀ τ, Fr (fun q k => q = 128) σ4 τ → (∀ k, k < 33 → τ 128 k = nI (XQ Q k)) → RQ (fun τ => Fr Wr1 σ τ ∧ Ra τ (AQ Q) P ∧ Rr τ 0 (XQ Q) ∧ τ 118 38 = nI 0 ∧ τ 118 45 = nI 0 ∧ τ 118 49 = nI 0) w u (nI 0) (f_X11_army_324 118 (mk τ w u)) := by
    intro τ fr hx
    have f9 : Fr (fun q k => q = 118 ∧ (k = 38 ∨ k = 45 ∨ k = 49)) τ (s2 (s2 (s2 τ 118 38 0) 118 45 0) 118 49 0) := Fr_st (Fr_st (Fr_s (by omega)) (by omega)) (by omega)
    unfold f_X11_army_324
    rw [zw118_38, Option.bind_some, zw118_45, Option.bind_some, zw118_49 (by decide), Option.bind_some]
    have g : ∀ q k, q ≠ 128 → ¬ (q = 118 ∧ (k = 38 ∨ k = 45 ∨ k = 49)) → (s2 (s2 (s2 τ 118 38 0) 118 45 0) 118 49 0) q k = σ4 q k := fun q k x1 x2 => by rw [f9 q k x2, fr q k x1]
    refine ⟨_, ⟨Fr_t (Fr_m f14 (fun q k e => by unfold Wr1; omega)) (Fr_t (Fr_m fr (fun q k e => by unfold Wr1; omega)) (Fr_m f9 (fun q k e => by unfold Wr1; omega))), ⟨⟨?_, ?_, ?_, ?_, ?_⟩, fun j hj => ?_, ?_⟩, fun k hk => ?_, ?_, ?_, ?_⟩, rfl⟩
    · rw [g _ _ (by omega) (by omega)]; exact v1
    · rw [g _ _ (by omega) (by omega), AQ_k (by omega) (by omega)]; exact v2
    · rw [g _ _ (by omega) (by omega), AQ_k (by omega) (by omega)]; exact v3
    · rw [g _ _ (by omega) (by omega), AQ_k (by omega) (by omega)]; exact v4
    · rw [g _ _ (by omega) (by omega)]; exact v5
    · rw [AQ_k (by omega) (by omega)] at hj ⊢
      rw [g _ _ (by omega) (by omega), v119 j (by omega)]
      exact a7 j hj
    · by_cases cp : P = []
      · exact Or.inl ⟨cp, by rw [g _ _ (by omega) (by omega), v6]; exact (a5 cp).1⟩
      · obtain ⟨x1, x2, x3⟩ := a6 cp
        refine Or.inr ⟨cp, by rw [g _ _ (by omega) (by omega), v6]; exact x1, cdR_fl _ P 0 (fun j x hx => ?_) (by omega)⟩
        have hj : j < 1400 := by
          have := (List.getElem?_eq_some_iff.mp hx).1
          rw [List.length_append] at this
          have h1 : [nI 0].length = 1 := rfl
          omega
        rw [Nat.zero_add, g _ _ (by omega) (by omega), v120 j hj]
        exact x2 j x hx
    · rw [Nat.zero_add, f9 128 k (by omega)]
      exact hx k hk
    · rw [s2_off (by omega), s2_off (by omega), s2_at rfl rfl]; rfl
    · rw [s2_off (by omega), s2_at rfl rfl]; rfl
    · rw [s2_at rfl rfl]; rfl
  unfold l_X11_army_259
  refine lp_S (RQ (fun τ => Fr Wr1 σ τ ∧ Ra τ (AQ Q) P ∧ Rr τ 0 (XQ Q) ∧ τ 118 38 = nI 0 ∧ τ 118 45 = nI 0 ∧ τ 118 49 = nI 0) w u (nI 0)) (fun i τ => (118, nI i, mk τ w u)) (fun i τ => Fr (fun q k => q = 128) σ4 τ ∧ ∀ k, k < i → τ 128 k = nI (ZQ Q k)) 33 ?_ ?_ 33 0 100000 σ4 (by omega) (by omega) ⟨Fr_r _ _, fun k hk => by omega⟩
  · intro i hi k τ ⟨fr, h128⟩ hk
    dsimp only
    unfold f_X11_army_259
    rw [if_neg (show ¬ (33 : Int32) ≤ nI i from nI_ge (b := 33) hi (by decide)), zr118_36, Option.bind_some, zr118_32, Option.bind_some, za124 hi, Option.bind_some, fr 124 i (by omega), f14 124 i (by omega), a8 i hi, zb128 (by omega), Option.bind_some, nI_1]
    refine hk _ ⟨Fr_st fr rfl, fun k hk2 => ?_⟩
    by_cases c : k = i
    · rw [s2_at rfl c, c]
    · rw [s2_off (by omega)]; exact h128 k (by omega)
  · intro k τ ⟨fr, h128⟩
    dsimp only
    unfold f_X11_army_259 f_X11_army_283 l_X11_army_285
    rw [if_pos (by decide)]
    refine lp_S (RQ (fun τ => Fr Wr1 σ τ ∧ Ra τ (AQ Q) P ∧ Rr τ 0 (XQ Q) ∧ τ 118 38 = nI 0 ∧ τ 118 45 = nI 0 ∧ τ 118 49 = nI 0) w u (nI 0)) (fun i τ => (118, nI i, mk τ w u)) (fun i τ => Fr (fun q k => q = 128) σ4 τ ∧ ∀ k, k < 33 → τ 128 k = nI (if 1 ≤ k ∧ k < 1 + i then ZQ Q k &&& (2 ^ bq Q - 1) else ZQ Q k)) (Q 1) ?_ ?_ (Q 1) 0 100000 τ (by omega) (by omega) ⟨fr, fun k hk => by rw [if_neg (by omega)]; exact h128 k hk⟩
    · intro i hi k τ ⟨fr, hx⟩ hk
      have g1 : τ 118 1 = nI (bq Q) := by rw [fr 118 1 (by omega)]; exact v1
      have g2 : τ 118 2 = nI (Q 1) := by rw [fr 118 2 (by omega)]; exact v2
      have hp : 2 ^ bq Q ≤ 2 ^ 12 := Nat.pow_le_pow_right (by decide) b12
      have hp0 : 0 < 2 ^ bq Q := Nat.two_pow_pos _
      have e1 : (1 : Int32) <<< (nI (bq Q) &&& 31) = nI (2 ^ bq Q) := x_one (by omega)
      have e2 : nI (2 ^ bq Q) - (1 : Int32) = nI (2 ^ bq Q - 1) := pk_sub (b := 1) (by omega)
      dsimp only
      unfold f_X11_army_285
      rw [zi118_2, Option.bind_some, g2, if_neg (nI_ge hi (by omega)), zr118_36, Option.bind_some, Option.bind_some, i1, za128 (by omega), Option.bind_some, hx (1 + i) (by omega), if_neg (by omega), zi118_1, Option.bind_some, g1, e1, e2, x_and, zb128 (by omega), Option.bind_some, nI_1]
      refine hk _ ⟨Fr_st fr rfl, fun k hk2 => ?_⟩
      by_cases c : k = 1 + i
      · rw [s2_at rfl c, c, if_pos (by omega)]
      · rw [s2_off (by omega), hx k hk2]
        by_cases c2 : 1 ≤ k ∧ k < 1 + i
        · rw [if_pos c2, if_pos (by omega)]
        · rw [if_neg c2, if_neg (by omega)]
    · intro k τ ⟨fr, hx⟩
      have g2 : τ 118 2 = nI (Q 1) := by rw [fr 118 2 (by omega)]; exact v2
      dsimp only
      unfold f_X11_army_285
      rw [zi118_2, Option.bind_some, g2, if_pos (nI_le (Nat.le_refl _) (by omega))]
      refine fin τ fr (fun k hk => ?_)
      rw [hx k hk]
      unfold XQ ZQ
      by_cases k0 : k = 0
      · rw [if_neg (by omega), if_pos k0, if_pos k0]
      · rw [if_neg k0, if_neg k0]
        by_cases k9 : k < 9
        · rw [if_pos k9, if_pos (show k < 17 by omega)]
          by_cases c : 1 ≤ k ∧ k < 1 + Q 1
          · rw [if_pos c]
          · obtain ⟨i, rfl⟩ : ∃ i, k = 1 + i := ⟨k - 1, by omega⟩
            rw [if_neg c, show 12 + (1 + i) = 13 + i by omega, (wq.2.2.2.2.2.1 i (by omega)).2.2.2.2.2 (by omega), and_0]
        · rw [if_neg (show ¬ (1 ≤ k ∧ k < 1 + Q 1) by omega), if_neg k9]
theorem ag_army (x : Int32) : Ag (fun h => e_L_army 0 x 138 h) (fun h => f_L_army 0 x 138 h) (fun h => f_X11_army 118 x h) := by
  intro σ w u iv
  have iv0 := iv
  obtain ⟨A, P, X, cv, rv, ia, is, ik, ⟨t, T, ht, ht1, ht2, hT2, hf2, hst⟩⟩ := iv
  dsimp only
  rcases arg_d x (n := t + 1) (by omega) with ⟨n, hn, rfl⟩ | hb
  · have hn : n ≤ t := by omega
    have hn7 : n ≤ 700 := by omega
    have tp : Tp σ 2 T := fun i hi => ⟨(hT2 i hi).1, (hT2 i hi).2.1⟩
    have ge : e_L_army 0 (nI n) 138 (mk σ w u) = none := by
      unfold e_L_army g_X10_army
      rw [zg0, if_neg (nI_pos (by omega)), zi0_1, Option.bind_some, ht1, if_pos (nI_le hn (by omega))]
      rfl
    have hC := army_C (w := w) (u := u) tp ht ht1 hn
    have hg := ln9_g (T := T) (n := n) hn7 701 Q0 [] (tok T n 0) ⟨(tok_ok hn7 (Nat.zero_le _)).1, tok_L, tok_D⟩ WQ_0 (by omega)
    match hr : ln9 T n 701 Q0 [] (tok T n 0), hC, hg with
    | .inl (f, p), hC, hg =>
      obtain ⟨g1, g2, g3⟩ := hg
      obtain ⟨τ1, ⟨fr1, q1, q2, q4⟩, e1⟩ := hC (by omega) (by omega)
      have tp1 : Tp τ1 121 T := fun i hi => ⟨(hT2 i hi).1, by rw [fr1 121 i (by unfold Wc0; omega)]; exact (hT2 i hi).2.2⟩
      obtain ⟨τ2, w2, fr2, z0, z10, rg2, rb2, e2⟩ := init_R (w := w) (u := (nI f).toInt64) tp1 ht (by rw [fr1 118 10 (by unfold Wc0; omega)]; exact ht2) hn
      have hR := rarmy_l (u := (nI f).toInt64) hn7 701 Q0 [] (tok T n 0) τ2 w2 (99999 + 1) rg2 rb2 WQ_0 (by omega) (by omega)
      rw [hr] at hR
      obtain ⟨τ3, w3, fr3, rf3, e3⟩ := hR
      have f23 : Fr Wr0 τ1 τ3 := Fr_t fr2 (Fr_m fr3 (fun q k e => by unfold Wrz at e; unfold Wr0; omega))
      have f4 : Fr (fun q k => q = 122 ∧ k = 0) τ3 (s2 τ3 122 0 (τ3 122 0 + 1)) := Fr_s ⟨rfl, rfl⟩
      have fall : Fr (fun q k => Wc0 q k ∨ Wr0 q k ∨ (q = 122 ∧ k = 0)) σ (s2 τ3 122 0 (τ3 122 0 + 1)) := Fr_t (Fr_m fr1 (fun q k e => Or.inl e)) (Fr_t (Fr_m f23 (fun q k e => Or.inr (Or.inl e))) (Fr_m f4 (fun q k e => Or.inr (Or.inr e))))
      have g : ∀ q k, ¬ Wr0 q k → ¬ (q = 122 ∧ k = 0) → (s2 τ3 122 0 (τ3 122 0 + 1)) q k = τ1 q k := fun q k x1 x2 => by rw [f4 q k x2, f23 q k x1]
      refine ⟨0, nI f, s2 τ3 122 0 (τ3 122 0 + 1), w3, (nI f).toInt64, mk τ1 w (nI f).toInt64, ⟨A, P, X, CV_F cv fall (fun q k e => by unfold Wc0 Wr0 at e; omega), RV_F rv fall (fun q k e => by unfold Wc0 Wr0 at e; omega), IA_F ia fall (fun q k e => by unfold Wc0 Wr0 at e; unfold Wa; omega), IS_F is fall (fun q k e => by unfold Wc0 Wr0 at e; unfold Wa; omega), IK_F ik fall (fun q k e => by unfold Wc0 Wr0 at e; unfold Wst Wm Wa; omega), ⟨0, T, by omega, ?_, ?_, fun j hj => ⟨(hT2 j hj).1, ?_, ?_⟩, ?_, fun i hi => ?_⟩⟩, ?_, ?_, ?_, fun _ => rfl⟩
      · rw [g 0 1 (by unfold Wr0; omega) (by omega)]; exact q1
      · rw [f4 118 10 (by omega), fr3 118 10 (by unfold Wrz; omega)]; exact z10
      · rw [fall 2 j (by unfold Wc0 Wr0; omega)]; exact (hT2 j hj).2.1
      · rw [fall 121 j (by unfold Wc0 Wr0; omega)]; exact (hT2 j hj).2.2
      · rw [g 0 2 (by unfold Wr0; omega) (by omega), q2, f4 118 12 (by omega), rf3.2.1]
      · rw [g 4 i (by unfold Wr0; omega) (by omega)]
        by_cases c : i = 0
        · subst c
          rw [q4, s2_at rfl rfl, f23 122 0 (by unfold Wr0; omega), fr1 122 0 (by unfold Wc0; omega), hst 0 hi]
        · rw [fr1 4 i (by unfold Wc0; omega), f4 122 i (by omega), f23 122 i (by unfold Wr0; omega), fr1 122 i (by unfold Wc0; omega)]
          exact hst i hi
      · rw [ge, eh_n]
        show ((f_X10_army 0 (nI n) (mk σ w u)).bind fun r1 => (wr_AJ r1.2 138 0 (Int32.toInt64 r1.1)).bind fun h2 => some (0, h2)) = _
        exact hf_std τ1 e1
      · rw [e2, e3, fin_0 rf3]
      · rw [f4 118 0 (by omega), fr3 118 0 (by unfold Wrz; omega), z0]
        rfl
    | .inr (Q1, P1, K1), hC, wq =>
      obtain ⟨τ1, ⟨fr1, q1, q2, av, mv, y16, y25, y07⟩, e1⟩ := hC wq
      have tp1 : Tp τ1 121 T := fun i hi => ⟨(hT2 i hi).1, by rw [fr1 121 i (by unfold Wc1; omega)]; exact (hT2 i hi).2.2⟩
      obtain ⟨τ2, w2, fr2, z0, z10, rg2, rb2, e2⟩ := init_R (w := w) (u := (nI 0).toInt64) tp1 ht (by rw [fr1 118 10 (by unfold Wc1; omega)]; exact ht2) hn
      have hR := rarmy_l (u := (nI 0).toInt64) hn7 701 Q0 [] (tok T n 0) τ2 w2 (99999 + 1) rg2 rb2 WQ_0 (by omega) (by omega)
      rw [hr] at hR
      obtain ⟨τ3, w3, fr3, z11, z12, rb3, e3⟩ := hR
      obtain ⟨τ4, ⟨fr4, ra4, rr4, y38, y45, y49⟩, e4⟩ := fin_1 (w := w3) (u := (nI 0).toInt64) z11 rb3 wq
      have f24 : Fr (fun q k => Wr0 q k ∨ Wr1 q k) τ1 τ4 := Fr_t (Fr_m fr2 (fun q k e => Or.inl e)) (Fr_t (Fr_m fr3 (fun q k e => Or.inl (by unfold Wrz at e; unfold Wr0; omega))) (Fr_m fr4 (fun q k e => Or.inr e)))
      have g : ∀ q k, q < 118 → τ4 q k = τ1 q k := fun q k h => f24 q k (by unfold Wr0 Wr1; omega)
      have fall : Fr (fun q k => Wc1 q k ∨ Wr0 q k ∨ Wr1 q k) σ τ4 := Fr_t (Fr_m fr1 (fun q k e => Or.inl e)) (Fr_m f24 (fun q k e => Or.inr e))
      have wa := WA_Q wq
      have wx := WX_Q wq
      have wp : WP P1 := wq.2.2.2.2.2.2.2.2.2.2.1
      refine ⟨0, nI 0, τ4, w3, (nI 0).toInt64, mk τ1 w (nI 0).toInt64, ⟨AQ Q1, P1, XQ Q1, ⟨Or.inl rfl, ?_, ?_, wa, wx, wp⟩, ⟨Or.inl rfl, ra4, rr4, ⟨?_, by omega⟩, wa, wx, wp⟩, ⟨0, fun _ => 0, fun _ => 0, fun _ => 0, fun _ _ => 0, ⟨by omega, ?_, fun k hk => by omega⟩, ⟨by omega, fun k hk => by omega⟩, y38, ⟨?_, fun k hk => by omega⟩⟩, ⟨0, fun _ _ => 0, ⟨by omega, ?_, fun i hi => by omega⟩, ⟨by omega, fun i hi => by omega⟩, y45, fun i hi => by omega⟩, ⟨0, by omega, ?_, y49, fun h => by omega⟩, ⟨0, T, by omega, ?_, ?_, fun j hj => ⟨(hT2 j hj).1, ?_, ?_⟩, ?_, fun i hi => ?_⟩⟩, ?_, ?_, ?_, fun _ => rfl⟩
      · obtain ⟨⟨c0, c1, c2, c3, c4⟩, c5, c6, c7, c8⟩ := av
        exact ⟨⟨by rw [g _ _ (by omega)]; exact c0, by rw [g _ _ (by omega)]; exact c1, by rw [g _ _ (by omega)]; exact c2, by rw [g _ _ (by omega)]; exact c3, by rw [g _ _ (by omega)]; exact c4⟩, fun j hj => by rw [g _ _ (by omega)]; exact c5 j hj, by rw [g _ _ (by omega)]; exact c6, c7, fun j k m hj => by rw [g _ _ (by omega)]; exact c8 j k m hj⟩
      · exact ⟨by rw [g _ _ (by omega)]; exact mv.1, fun i hi => by rw [g _ _ (by omega), g _ _ (by omega), g _ _ (by omega), g _ _ (by omega)]; exact mv.2 i hi⟩
      · rw [fall 118 41 (by unfold Wc1 Wr0 Wr1; omega)]; exact rv.2.2.2.1.1
      · rw [g _ _ (by omega)]; exact y16
      · show 0 ≤ 999; omega
      · rw [g _ _ (by omega)]; exact y25
      · rw [g _ _ (by omega)]; exact y07
      · rw [g _ _ (by omega)]; exact q1
      · rw [fr4 118 10 (by unfold Wr1; omega), fr3 118 10 (by unfold Wrz; omega)]; exact z10
      · rw [fall 2 j (by unfold Wc1 Wr0 Wr1; omega)]; exact (hT2 j hj).2.1
      · rw [fall 121 j (by unfold Wc1 Wr0 Wr1; omega)]; exact (hT2 j hj).2.2
      · rw [g _ _ (by omega), q2, fr4 118 12 (by unfold Wr1; omega), z12]
      · rw [fall 4 i (by unfold Wc1 Wr0 Wr1; omega), fall 122 i (by unfold Wc1 Wr0 Wr1; omega)]; exact hst i hi
      · rw [ge, eh_n]
        show ((f_X10_army 0 (nI n) (mk σ w u)).bind fun r1 => (wr_AJ r1.2 138 0 (Int32.toInt64 r1.1)).bind fun h2 => some (0, h2)) = _
        exact hf_std τ1 e1
      · rw [e2, e3, e4]
      · rw [fr4 118 0 (by unfold Wr1; omega), fr3 118 0 (by unfold Wrz; omega), z0]
        rfl
  · have r0 : f_X11_right 118 0 1 (mk (s2 σ 118 0 0) w u) = some (nI 0, mk (s2 (s2 σ 118 0 0) 118 0 (nI 1)) w u) := right_0 (c := 1) (Or.inl rfl) (by rw [s2_at rfl rfl]; rfl)
    have h23 : f_X11_army_22 118 x 118 (mk (s2 σ 118 0 0) w u) = some (0, mk (s2 (s2 σ 118 0 0) 118 0 1) w u) := by
      unfold f_X11_army_22 f_X11_army_23
      rw [r0, Option.bind_some]
      dsimp only
      rw [if_pos (show nI 0 = 0 from rfl)]
      rfl
    refine Ag_bad (e := fun h => e_L_army 0 x 138 h) (f := fun h => f_L_army 0 x 138 h) (m := fun h => f_X11_army 118 x h) iv0 (c := 1) (v := 0) (by decide) ?_ ?_
    · show e_L_army 0 x 138 (mk σ w u) = _
      unfold e_L_army g_X10_army g_X10_army_12
      rw [zg0]
      by_cases c : x < 0
      · rw [if_pos c, Option.bind_some, hx_1]
      · have hx : ¬ x ≤ nI t := fun h => by
          rcases hb with hb | hb
          · exact c hb
          · have h2 := Int32.le_trans hb h
            exact nI_ge (show t < t + 1 by omega) (by omega) h2
        rw [if_neg c, zi0_1, Option.bind_some, ht1, if_neg hx, Option.bind_some, hx_1]
    · show f_X11_army 118 x (mk σ w u) = _
      unfold f_X11_army
      rw [zg118, zw118_0, Option.bind_some]
      by_cases c : x < 0
      · rw [if_pos c]; exact h23
      · have hx : nI t < x := by
          rcases hb with hb | hb
          · exact absurd hb c
          · exact Int32.lt_of_lt_of_le ((nI_ltI (by omega) (by omega)).mpr (show t < t + 1 by omega)) hb
        rw [if_neg c, zi118_10, Option.bind_some, s2_off (by omega), ht2, if_pos hx]; exact h23
end AU9
