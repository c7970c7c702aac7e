/-! L3: count, man, row, fault -/
section AC
variable {σ : Nat → Nat → Int32} {w u : Int64} {A X : Nat → Nat} {P : List (Nat × Nat)}
theorem cam_tb (t : Nat) : ∀ n, (cam A X n).testBit t = true ↔ t < A 1 ∧ ∀ r, r < n → bt (X (25 + r)) t = 0 := by
  intro n
  induction n with
  | zero =>
    rw [show cam A X 0 = 2 ^ A 1 - 1 from rfl, Nat.testBit_two_pow_sub_one]
    exact ⟨fun h => ⟨of_decide_eq_true h, fun r hr => by omega⟩, fun h => decide_eq_true h.1⟩
  | succ n ih =>
    have hb := bt_lt (X (25 + n)) t
    rw [show cam A X (n + 1) = an (cam A X n) (X (25 + n)) from rfl, an_tb, Bool.and_eq_true, ih]
    constructor
    · rintro ⟨⟨h1, h2⟩, h3⟩
      refine ⟨h1, fun r hr => ?_⟩
      by_cases c : r = n
      · subst c
        have h4 : ¬ bt (X (25 + r)) t = 1 := fun e => by rw [bt_i] at e; rw [e] at h3; exact absurd h3 (by decide)
        omega
      · exact h2 r (by omega)
    · rintro ⟨h1, h2⟩
      refine ⟨⟨h1, fun r hr => h2 r (by omega)⟩, ?_⟩
      have h3 := h2 n (by omega)
      cases hc : (X (25 + n)).testBit t with
      | false => rfl
      | true => rw [← bt_i] at hc; omega
theorem ci_tb (t : Nat) : ∀ n, (ci A X n).testBit t = true ↔ t < n ∧ ro A X t = 0 := by
  intro n
  induction n with
  | zero => exact ⟨fun h => by (rw [show ci A X 0 = 0 from rfl, Nat.zero_testBit] at h; exact absurd h (by simp)), fun ⟨h, _⟩ => by omega⟩
  | succ n ih =>
    rw [show ci A X (n + 1) = ci A X n ||| (if ro A X n = 0 then 2 ^ n else 0) from rfl, Nat.testBit_or, Bool.or_eq_true, ih]
    constructor
    · rintro (⟨h1, h2⟩ | h)
      · exact ⟨by omega, h2⟩
      · by_cases c : ro A X n = 0
        · rw [if_pos c, ← bt_i, bt_pw] at h
          subst h
          exact ⟨by omega, c⟩
        · rw [if_neg c, Nat.zero_testBit] at h
          exact absurd h (by simp)
    · rintro ⟨h1, h2⟩
      by_cases c : t = n
      · subst c
        rw [if_pos h2]
        exact Or.inr (by rw [← bt_i, bt_pw])
      · exact Or.inl ⟨by omega, h2⟩
theorem cam_e : cam A X (A 2) = ci A X (A 1) := by
  apply Nat.eq_of_testBit_eq
  intro t
  have g : ∀ a b : Bool, (a = true ↔ b = true) → a = b := fun a b h => by cases a <;> cases b <;> simp_all
  apply g
  rw [cam_tb, ci_tb, ro_0]
theorem cs_e (w : Nat) : cs0 A P X w (A 2) = is0 A P X w (A 2) := by
  have h := it_tri (fun r q => if he A P X r w = he A P X q w then 1 else 0) (A 2)
  have e1 : cs0 A P X w (A 2) = it (fun p v => v + it (fun j v => v + (if he A P X (p + 1 + j) w = he A P X p w then 1 else 0)) 0 (A 2 - (p + 1))) 0 (A 2) := by
    unfold cs0
    refine it_c (fun p _ v => ?_)
    unfold cs1
    exact it_add v _
  have e2 : is0 A P X w (A 2) = it (fun r v => v + it (fun q v => v + (if he A P X r w = he A P X q w then 1 else 0)) 0 r) 0 (A 2) := by
    unfold is0
    refine it_c (fun p _ v => ?_)
    unfold is1
    exact it_add v _
  rw [e1, e2]
  exact h
theorem ag_count (x0 : Int32) : Ag (fun h => e_L_count 0 x0 138 h) (fun h => f_L_count 0 x0 138 h) (fun h => f_X11_count 118 x0 h) := by
  intro σ w u iv
  have iv0 := iv
  obtain ⟨A, P, X, cv, rv, ⟨N, K, O, U, S, ca, ra, hN, okA⟩, ⟨M, s, cs, rs, hMs, okS⟩, ik, it0⟩ := iv
  have hx := okA.1
  obtain ⟨t, T, ht, ht1, ht2, hT2, hf2, hst⟩ := it0
  have t0 : (s2 σ 118 0 0) 118 0 = nI 0 := by rw [s2_at rfl rfl]; rfl
  have rv0 : RV (s2 σ 118 0 0) 0 A P X 0 := RV_F rv (Fr_s (W := fun q k => q = 118 ∧ k = 0) ⟨rfl, rfl⟩) (fun q k e => by omega)
  have tm := rv0.2.1.1.2.1; have tr := rv0.2.1.1.2.2.1; have tb := rv0.2.1.1.1; have hB1 := rv.2.2.2.2.1.1; have hB2 := rv.2.2.2.2.1.2.1; have hM8 := rv.2.2.2.2.1.2.2.1; have hR8 := rv.2.2.2.2.1.2.2.2.1; have hS12 := rv.2.2.2.2.1.2.2.2.2.1; have hT := RV_b rv
  rcases arg_w x0 (a := 0) (b := 14) (by decide) (by decide) with ⟨q, h1_q, h_q, rfl⟩ | b0
  · have ge : ∀ k, k ≤ 14 → g_X10_count 0 (nI k) (mk σ w u) = none := by
      intro k hk
      unfold g_X10_count
      rw [zg0]
      by_cases c0 : k = 0
      · rw [c0, if_pos (show nI 0 = 0 by decide)]
      by_cases c1 : k = 1
      · rw [c1, if_neg (show ¬ nI 1 = 0 by decide), if_pos (show nI 1 = 1 by decide)]
      by_cases c2 : k = 2
      · rw [c2, if_neg (show ¬ nI 2 = 0 by decide), if_neg (show ¬ nI 2 = 1 by decide), if_pos (show nI 2 = 2 by decide)]
      by_cases c3 : k = 3
      · rw [c3, if_neg (show ¬ nI 3 = 0 by decide), if_neg (show ¬ nI 3 = 1 by decide), if_neg (show ¬ nI 3 = 2 by decide), if_pos (show nI 3 = 3 by decide)]
      by_cases c4 : k = 4
      · rw [c4, if_neg (show ¬ nI 4 = 0 by decide), if_neg (show ¬ nI 4 = 1 by decide), if_neg (show ¬ nI 4 = 2 by decide), if_neg (show ¬ nI 4 = 3 by decide), if_pos (show nI 4 = 4 by decide)]
      by_cases c5 : k = 5
      · rw [c5, if_neg (show ¬ nI 5 = 0 by decide), if_neg (show ¬ nI 5 = 1 by decide), if_neg (show ¬ nI 5 = 2 by decide), if_neg (show ¬ nI 5 = 3 by decide), if_neg (show ¬ nI 5 = 4 by decide), if_pos (show nI 5 = 5 by decide)]
      by_cases c6 : k = 6
      · rw [c6, if_neg (show ¬ nI 6 = 0 by decide), if_neg (show ¬ nI 6 = 1 by decide), if_neg (show ¬ nI 6 = 2 by decide), if_neg (show ¬ nI 6 = 3 by decide), if_neg (show ¬ nI 6 = 4 by decide), if_neg (show ¬ nI 6 = 5 by decide), if_pos (show nI 6 = 6 by decide)]
      by_cases c7 : k = 7
      · rw [c7, if_neg (show ¬ nI 7 = 0 by decide), if_neg (show ¬ nI 7 = 1 by decide), if_neg (show ¬ nI 7 = 2 by decide), if_neg (show ¬ nI 7 = 3 by decide), if_neg (show ¬ nI 7 = 4 by decide), if_neg (show ¬ nI 7 = 5 by decide), if_neg (show ¬ nI 7 = 6 by decide), if_pos (show nI 7 = 7 by decide)]
      by_cases c8 : k = 8
      · rw [c8, if_neg (show ¬ nI 8 = 0 by decide), if_neg (show ¬ nI 8 = 1 by decide), if_neg (show ¬ nI 8 = 2 by decide), if_neg (show ¬ nI 8 = 3 by decide), if_neg (show ¬ nI 8 = 4 by decide), if_neg (show ¬ nI 8 = 5 by decide), if_neg (show ¬ nI 8 = 6 by decide), if_neg (show ¬ nI 8 = 7 by decide), if_pos (show nI 8 = 8 by decide)]
      by_cases c9 : k = 9
      · rw [c9, if_neg (show ¬ nI 9 = 0 by decide), if_neg (show ¬ nI 9 = 1 by decide), if_neg (show ¬ nI 9 = 2 by decide), if_neg (show ¬ nI 9 = 3 by decide), if_neg (show ¬ nI 9 = 4 by decide), if_neg (show ¬ nI 9 = 5 by decide), if_neg (show ¬ nI 9 = 6 by decide), if_neg (show ¬ nI 9 = 7 by decide), if_neg (show ¬ nI 9 = 8 by decide), if_pos (show nI 9 = 9 by decide)]
      by_cases c10 : k = 10
      · rw [c10, if_neg (show ¬ nI 10 = 0 by decide), if_neg (show ¬ nI 10 = 1 by decide), if_neg (show ¬ nI 10 = 2 by decide), if_neg (show ¬ nI 10 = 3 by decide), if_neg (show ¬ nI 10 = 4 by decide), if_neg (show ¬ nI 10 = 5 by decide), if_neg (show ¬ nI 10 = 6 by decide), if_neg (show ¬ nI 10 = 7 by decide), if_neg (show ¬ nI 10 = 8 by decide), if_neg (show ¬ nI 10 = 9 by decide), if_pos (show nI 10 = 10 by decide)]
      by_cases c11 : k = 11
      · rw [c11, if_neg (show ¬ nI 11 = 0 by decide), if_neg (show ¬ nI 11 = 1 by decide), if_neg (show ¬ nI 11 = 2 by decide), if_neg (show ¬ nI 11 = 3 by decide), if_neg (show ¬ nI 11 = 4 by decide), if_neg (show ¬ nI 11 = 5 by decide), if_neg (show ¬ nI 11 = 6 by decide), if_neg (show ¬ nI 11 = 7 by decide), if_neg (show ¬ nI 11 = 8 by decide), if_neg (show ¬ nI 11 = 9 by decide), if_neg (show ¬ nI 11 = 10 by decide), if_pos (show nI 11 = 11 by decide)]
      by_cases c12 : k = 12
      · rw [c12, if_neg (show ¬ nI 12 = 0 by decide), if_neg (show ¬ nI 12 = 1 by decide), if_neg (show ¬ nI 12 = 2 by decide), if_neg (show ¬ nI 12 = 3 by decide), if_neg (show ¬ nI 12 = 4 by decide), if_neg (show ¬ nI 12 = 5 by decide), if_neg (show ¬ nI 12 = 6 by decide), if_neg (show ¬ nI 12 = 7 by decide), if_neg (show ¬ nI 12 = 8 by decide), if_neg (show ¬ nI 12 = 9 by decide), if_neg (show ¬ nI 12 = 10 by decide), if_neg (show ¬ nI 12 = 11 by decide), if_pos (show nI 12 = 12 by decide)]
      by_cases c13 : k = 13
      · rw [c13, if_neg (show ¬ nI 13 = 0 by decide), if_neg (show ¬ nI 13 = 1 by decide), if_neg (show ¬ nI 13 = 2 by decide), if_neg (show ¬ nI 13 = 3 by decide), if_neg (show ¬ nI 13 = 4 by decide), if_neg (show ¬ nI 13 = 5 by decide), if_neg (show ¬ nI 13 = 6 by decide), if_neg (show ¬ nI 13 = 7 by decide), if_neg (show ¬ nI 13 = 8 by decide), if_neg (show ¬ nI 13 = 9 by decide), if_neg (show ¬ nI 13 = 10 by decide), if_neg (show ¬ nI 13 = 11 by decide), if_neg (show ¬ nI 13 = 12 by decide), if_pos (show nI 13 = 13 by decide)]
      by_cases c14 : k = 14
      · rw [c14, if_neg (show ¬ nI 14 = 0 by decide), if_neg (show ¬ nI 14 = 1 by decide), if_neg (show ¬ nI 14 = 2 by decide), if_neg (show ¬ nI 14 = 3 by decide), if_neg (show ¬ nI 14 = 4 by decide), if_neg (show ¬ nI 14 = 5 by decide), if_neg (show ¬ nI 14 = 6 by decide), if_neg (show ¬ nI 14 = 7 by decide), if_neg (show ¬ nI 14 = 8 by decide), if_neg (show ¬ nI 14 = 9 by decide), if_neg (show ¬ nI 14 = 10 by decide), if_neg (show ¬ nI 14 = 11 by decide), if_neg (show ¬ nI 14 = 12 by decide), if_neg (show ¬ nI 14 = 13 by decide), if_pos (show nI 14 = 14 by decide)]
      omega
    by_cases c0 : q = 0
    · rw [c0]
      refine Ag_ok iv0 (by show (g_X10_count 0 (nI 0) (mk σ w u)).bind _ = none; rw [ge 0 (by omega)]; rfl) rfl (V := nI (A 0)) ⟨σ, Fr_r _ _, ?_⟩ (fun τ fr => ?_)
      · unfold f_X10_count
        rw [zg0, if_pos (show nI 0 = 0 by decide), zr0_4, Option.bind_some, zi5_0, Option.bind_some, cv.2.1.1.1]
      · have r0 : RV (s2 τ 118 0 0) 0 A P X 0 := RV_F (Ws_rv rv fr) (Fr_s (W := fun q k => q = 118 ∧ k = 0) ⟨rfl, rfl⟩) (fun q k e => by omega)
        have t1 : (s2 τ 118 0 0) 118 0 = nI 0 := by rw [s2_at rfl rfl]; rfl
        obtain ⟨U9, hU9⟩ : ∃ U9, U9 = Int32.toInt64 (nI (A 0)) := ⟨_, rfl⟩
        rw [← hU9]
        refine ⟨s2 τ 118 0 0, Fr_r _ _, ?_⟩
        unfold f_X11_count
        rw [zg118, zw118_0, Option.bind_some, show f_X11_within (nI 0) 0 14 (mk (s2 τ 118 0 0) w U9) = some (nI 1, mk (s2 τ 118 0 0) w U9) from within_1 (a := 0) (b := 14) (by omega) (by omega) (by decide) _, Option.bind_some]
        dsimp only
        rw [right_1 t1, Option.bind_some]
        dsimp only
        rw [if_neg (show ¬ nI 1 = 0 by decide), if_pos (show nI 0 = 0 by decide), zi118_1, Option.bind_some, r0.2.1.1.1]
    by_cases c1 : q = 1
    · rw [c1]
      refine Ag_ok iv0 (by show (g_X10_count 0 (nI 1) (mk σ w u)).bind _ = none; rw [ge 1 (by omega)]; rfl) rfl (V := nI (A 1)) ⟨σ, Fr_r _ _, ?_⟩ (fun τ fr => ?_)
      · unfold f_X10_count
        rw [zg0, if_neg (show ¬ nI 1 = 0 by decide), if_pos (show nI 1 = 1 by decide), zr0_4, Option.bind_some, zi5_1, Option.bind_some, cv.2.1.1.2.1]
      · have r0 : RV (s2 τ 118 0 0) 0 A P X 0 := RV_F (Ws_rv rv fr) (Fr_s (W := fun q k => q = 118 ∧ k = 0) ⟨rfl, rfl⟩) (fun q k e => by omega)
        have t1 : (s2 τ 118 0 0) 118 0 = nI 0 := by rw [s2_at rfl rfl]; rfl
        obtain ⟨U9, hU9⟩ : ∃ U9, U9 = Int32.toInt64 (nI (A 1)) := ⟨_, rfl⟩
        rw [← hU9]
        refine ⟨s2 τ 118 0 0, Fr_r _ _, ?_⟩
        unfold f_X11_count
        rw [zg118, zw118_0, Option.bind_some, show f_X11_within (nI 1) 0 14 (mk (s2 τ 118 0 0) w U9) = some (nI 1, mk (s2 τ 118 0 0) w U9) from within_1 (a := 0) (b := 14) (by omega) (by omega) (by decide) _, Option.bind_some]
        dsimp only
        rw [right_1 t1, Option.bind_some]
        dsimp only
        rw [if_neg (show ¬ nI 1 = 0 by decide), if_neg (show ¬ nI 1 = 0 by decide), if_pos (show nI 1 = 1 by decide), zi118_2, Option.bind_some, r0.2.1.1.2.1]
    by_cases c2 : q = 2
    · rw [c2]
      refine Ag_ok iv0 (by show (g_X10_count 0 (nI 2) (mk σ w u)).bind _ = none; rw [ge 2 (by omega)]; rfl) rfl (V := nI (A 2)) ⟨σ, Fr_r _ _, ?_⟩ (fun τ fr => ?_)
      · unfold f_X10_count
        rw [zg0, if_neg (show ¬ nI 2 = 0 by decide), if_neg (show ¬ nI 2 = 1 by decide), if_pos (show nI 2 = 2 by decide), zr0_4, Option.bind_some, zi5_2, Option.bind_some, cv.2.1.1.2.2.1]
      · have r0 : RV (s2 τ 118 0 0) 0 A P X 0 := RV_F (Ws_rv rv fr) (Fr_s (W := fun q k => q = 118 ∧ k = 0) ⟨rfl, rfl⟩) (fun q k e => by omega)
        have t1 : (s2 τ 118 0 0) 118 0 = nI 0 := by rw [s2_at rfl rfl]; rfl
        obtain ⟨U9, hU9⟩ : ∃ U9, U9 = Int32.toInt64 (nI (A 2)) := ⟨_, rfl⟩
        rw [← hU9]
        refine ⟨s2 τ 118 0 0, Fr_r _ _, ?_⟩
        unfold f_X11_count
        rw [zg118, zw118_0, Option.bind_some, show f_X11_within (nI 2) 0 14 (mk (s2 τ 118 0 0) w U9) = some (nI 1, mk (s2 τ 118 0 0) w U9) from within_1 (a := 0) (b := 14) (by omega) (by omega) (by decide) _, Option.bind_some]
        dsimp only
        rw [right_1 t1, Option.bind_some]
        dsimp only
        rw [if_neg (show ¬ nI 1 = 0 by decide), if_neg (show ¬ nI 2 = 0 by decide), if_neg (show ¬ nI 2 = 1 by decide), if_pos (show nI 2 = 2 by decide), zi118_3, Option.bind_some, r0.2.1.1.2.2.1]
    by_cases c3 : q = 3
    · rw [c3]
      refine Ag_ok iv0 (by show (g_X10_count 0 (nI 3) (mk σ w u)).bind _ = none; rw [ge 3 (by omega)]; rfl) rfl (V := nI (A 3)) ⟨σ, Fr_r _ _, ?_⟩ (fun τ fr => ?_)
      · unfold f_X10_count
        rw [zg0, if_neg (show ¬ nI 3 = 0 by decide), if_neg (show ¬ nI 3 = 1 by decide), if_neg (show ¬ nI 3 = 2 by decide), if_pos (show nI 3 = 3 by decide), zr0_4, Option.bind_some, zi5_3, Option.bind_some, cv.2.1.1.2.2.2.1]
      · have r0 : RV (s2 τ 118 0 0) 0 A P X 0 := RV_F (Ws_rv rv fr) (Fr_s (W := fun q k => q = 118 ∧ k = 0) ⟨rfl, rfl⟩) (fun q k e => by omega)
        have t1 : (s2 τ 118 0 0) 118 0 = nI 0 := by rw [s2_at rfl rfl]; rfl
        obtain ⟨U9, hU9⟩ : ∃ U9, U9 = Int32.toInt64 (nI (A 3)) := ⟨_, rfl⟩
        rw [← hU9]
        refine ⟨s2 τ 118 0 0, Fr_r _ _, ?_⟩
        unfold f_X11_count
        rw [zg118, zw118_0, Option.bind_some, show f_X11_within (nI 3) 0 14 (mk (s2 τ 118 0 0) w U9) = some (nI 1, mk (s2 τ 118 0 0) w U9) from within_1 (a := 0) (b := 14) (by omega) (by omega) (by decide) _, Option.bind_some]
        dsimp only
        rw [right_1 t1, Option.bind_some]
        dsimp only
        rw [if_neg (show ¬ nI 1 = 0 by decide), if_neg (show ¬ nI 3 = 0 by decide), if_neg (show ¬ nI 3 = 1 by decide), if_neg (show ¬ nI 3 = 2 by decide), if_pos (show nI 3 = 3 by decide), zi118_5, Option.bind_some, r0.2.1.1.2.2.2.2]
    by_cases c4 : q = 4
    · rw [c4]
      refine Ag_ok iv0 (by show (g_X10_count 0 (nI 4) (mk σ w u)).bind _ = none; rw [ge 4 (by omega)]; rfl) rfl (V := nI (X 0)) ⟨σ, Fr_r _ _, ?_⟩ (fun τ fr => ?_)
      · unfold f_X10_count
        rw [zg0, if_neg (show ¬ nI 4 = 0 by decide), if_neg (show ¬ nI 4 = 1 by decide), if_neg (show ¬ nI 4 = 2 by decide), if_neg (show ¬ nI 4 = 3 by decide), if_pos (show nI 4 = 4 by decide), zr0_8, Option.bind_some, zi34_1, Option.bind_some, cv.2.2.1.1]
      · have r0 : RV (s2 τ 118 0 0) 0 A P X 0 := RV_F (Ws_rv rv fr) (Fr_s (W := fun q k => q = 118 ∧ k = 0) ⟨rfl, rfl⟩) (fun q k e => by omega)
        have t1 : (s2 τ 118 0 0) 118 0 = nI 0 := by rw [s2_at rfl rfl]; rfl
        obtain ⟨U9, hU9⟩ : ∃ U9, U9 = Int32.toInt64 (nI (X 0)) := ⟨_, rfl⟩
        rw [← hU9]
        refine ⟨s2 τ 118 0 0, Fr_r _ _, ?_⟩
        unfold f_X11_count
        rw [zg118, zw118_0, Option.bind_some, show f_X11_within (nI 4) 0 14 (mk (s2 τ 118 0 0) w U9) = some (nI 1, mk (s2 τ 118 0 0) w U9) from within_1 (a := 0) (b := 14) (by omega) (by omega) (by decide) _, Option.bind_some]
        dsimp only
        rw [right_1 t1, Option.bind_some]
        dsimp only
        rw [if_neg (show ¬ nI 1 = 0 by decide), if_neg (show ¬ nI 4 = 0 by decide), if_neg (show ¬ nI 4 = 1 by decide), if_neg (show ¬ nI 4 = 2 by decide), if_neg (show ¬ nI 4 = 3 by decide), if_pos (show nI 4 = 4 by decide), zr118_36, Option.bind_some, show rd_A (mk (s2 τ 118 0 0) w U9) 0 128 0 = some ((s2 τ 118 0 0) 128 0) from za128 (i := 0) (by decide), Option.bind_some, RV_0 r0]
    by_cases c5 : q = 5
    · rw [c5]
      refine Ag_ok iv0 (by show (g_X10_count 0 (nI 5) (mk σ w u)).bind _ = none; rw [ge 5 (by omega)]; rfl) rfl (V := nI (mq A (X 0 + 0))) ⟨σ, Fr_r _ _, ?_⟩ (fun τ fr => ?_)
      · unfold f_X10_count
        rw [zg0, if_neg (show ¬ nI 5 = 0 by decide), if_neg (show ¬ nI 5 = 1 by decide), if_neg (show ¬ nI 5 = 2 by decide), if_neg (show ¬ nI 5 = 3 by decide), if_neg (show ¬ nI 5 = 4 by decide), if_pos (show nI 5 = 5 by decide), zr0_8, Option.bind_some, show f_X3_mudIn 34 0 (mk σ w u) = some (nI (mq A (X 0 + 0)), mk σ w u) from mudIn_f cv (n := 0) (by decide), Option.bind_some]
      · have r0 : RV (s2 τ 118 0 0) 0 A P X 0 := RV_F (Ws_rv rv fr) (Fr_s (W := fun q k => q = 118 ∧ k = 0) ⟨rfl, rfl⟩) (fun q k e => by omega)
        have t1 : (s2 τ 118 0 0) 118 0 = nI 0 := by rw [s2_at rfl rfl]; rfl
        obtain ⟨U9, hU9⟩ : ∃ U9, U9 = Int32.toInt64 (nI (mq A (X 0 + 0))) := ⟨_, rfl⟩
        rw [← hU9]
        refine ⟨s2 τ 118 0 0, Fr_r _ _, ?_⟩
        unfold f_X11_count
        rw [zg118, zw118_0, Option.bind_some, show f_X11_within (nI 5) 0 14 (mk (s2 τ 118 0 0) w U9) = some (nI 1, mk (s2 τ 118 0 0) w U9) from within_1 (a := 0) (b := 14) (by omega) (by omega) (by decide) _, Option.bind_some]
        dsimp only
        rw [right_1 t1, Option.bind_some]
        dsimp only
        rw [if_neg (show ¬ nI 1 = 0 by decide), if_neg (show ¬ nI 5 = 0 by decide), if_neg (show ¬ nI 5 = 1 by decide), if_neg (show ¬ nI 5 = 2 by decide), if_neg (show ¬ nI 5 = 3 by decide), if_neg (show ¬ nI 5 = 4 by decide), if_pos (show nI 5 = 5 by decide), zr118_36, Option.bind_some, show rd_A (mk (s2 τ 118 0 0) w U9) 0 128 0 = some ((s2 τ 118 0 0) 128 0) from za128 (i := 0) (by decide), Option.bind_some, RV_0 r0, mudOf_f r0 (by omega), Option.bind_some, mo_0, Nat.add_zero]
    by_cases c6 : q = 6
    · rw [c6]
      refine Ag_ok iv0 (by show (g_X10_count 0 (nI 6) (mk σ w u)).bind _ = none; rw [ge 6 (by omega)]; rfl) rfl (V := nI (ha A X (A 1))) ⟨σ, Fr_r _ _, ?_⟩ (fun τ fr => ?_)
      · unfold f_X10_count
        rw [zg0, if_neg (show ¬ nI 6 = 0 by decide), if_neg (show ¬ nI 6 = 1 by decide), if_neg (show ¬ nI 6 = 2 by decide), if_neg (show ¬ nI 6 = 3 by decide), if_neg (show ¬ nI 6 = 4 by decide), if_neg (show ¬ nI 6 = 5 by decide), if_pos (show nI 6 = 6 by decide), zr0_8, Option.bind_some, honourOfAll_f cv, Option.bind_some]
      · have r0 : RV (s2 τ 118 0 0) 0 A P X 0 := RV_F (Ws_rv rv fr) (Fr_s (W := fun q k => q = 118 ∧ k = 0) ⟨rfl, rfl⟩) (fun q k e => by omega)
        have t1 : (s2 τ 118 0 0) 118 0 = nI 0 := by rw [s2_at rfl rfl]; rfl
        obtain ⟨U9, hU9⟩ : ∃ U9, U9 = Int32.toInt64 (nI (ha A X (A 1))) := ⟨_, rfl⟩
        rw [← hU9]
        refine ⟨s2 τ 118 0 0, Fr_r _ _, ?_⟩
        unfold f_X11_count
        rw [zg118, zw118_0, Option.bind_some, show f_X11_within (nI 6) 0 14 (mk (s2 τ 118 0 0) w U9) = some (nI 1, mk (s2 τ 118 0 0) w U9) from within_1 (a := 0) (b := 14) (by omega) (by omega) (by decide) _, Option.bind_some]
        dsimp only
        rw [right_1 t1, Option.bind_some]
        dsimp only
        rw [if_neg (show ¬ nI 1 = 0 by decide), if_neg (show ¬ nI 6 = 0 by decide), if_neg (show ¬ nI 6 = 1 by decide), if_neg (show ¬ nI 6 = 2 by decide), if_neg (show ¬ nI 6 = 3 by decide), if_neg (show ¬ nI 6 = 4 by decide), if_neg (show ¬ nI 6 = 5 by decide), if_pos (show nI 6 = 6 by decide), show f_X11_honourOf 118 0 (mk (s2 τ 118 0 0) w U9) = some (nI (ha A X (A 1)), mk (s2 τ 118 0 0) w U9) from honourOf_R r0, Option.bind_some]
    by_cases c7 : q = 7
    · rw [c7]
      refine Ag_ok iv0 (by show (g_X10_count 0 (nI 7) (mk σ w u)).bind _ = none; rw [ge 7 (by omega)]; rfl) rfl (V := nI (ci A X (A 1))) ⟨σ, Fr_r _ _, ?_⟩ (fun τ fr => ?_)
      · unfold f_X10_count
        rw [zg0, if_neg (show ¬ nI 7 = 0 by decide), if_neg (show ¬ nI 7 = 1 by decide), if_neg (show ¬ nI 7 = 2 by decide), if_neg (show ¬ nI 7 = 3 by decide), if_neg (show ¬ nI 7 = 4 by decide), if_neg (show ¬ nI 7 = 5 by decide), if_neg (show ¬ nI 7 = 6 by decide), if_pos (show nI 7 = 7 by decide), zr0_8, Option.bind_some, menInCamp_f cv, Option.bind_some, cam_e]
      · have r0 : RV (s2 τ 118 0 0) 0 A P X 0 := RV_F (Ws_rv rv fr) (Fr_s (W := fun q k => q = 118 ∧ k = 0) ⟨rfl, rfl⟩) (fun q k e => by omega)
        have t1 : (s2 τ 118 0 0) 118 0 = nI 0 := by rw [s2_at rfl rfl]; rfl
        obtain ⟨U9, hU9⟩ : ∃ U9, U9 = Int32.toInt64 (nI (ci A X (A 1))) := ⟨_, rfl⟩
        rw [← hU9]
        refine ⟨s2 τ 118 0 0, Fr_r _ _, ?_⟩
        unfold f_X11_count
        rw [zg118, zw118_0, Option.bind_some, show f_X11_within (nI 7) 0 14 (mk (s2 τ 118 0 0) w U9) = some (nI 1, mk (s2 τ 118 0 0) w U9) from within_1 (a := 0) (b := 14) (by omega) (by omega) (by decide) _, Option.bind_some]
        dsimp only
        rw [right_1 t1, Option.bind_some]
        dsimp only
        rw [if_neg (show ¬ nI 1 = 0 by decide), if_neg (show ¬ nI 7 = 0 by decide), if_neg (show ¬ nI 7 = 1 by decide), if_neg (show ¬ nI 7 = 2 by decide), if_neg (show ¬ nI 7 = 3 by decide), if_neg (show ¬ nI 7 = 4 by decide), if_neg (show ¬ nI 7 = 5 by decide), if_neg (show ¬ nI 7 = 6 by decide), if_pos (show nI 7 = 7 by decide), inCamp_R r0, Option.bind_some]
    by_cases c8 : q = 8
    · rw [c8]
      obtain ⟨τ8, f8, e8⟩ := couplesInStep_f (w := w) (u := u) cv
      refine Ag_ok iv0 (by show (g_X10_count 0 (nI 8) (mk σ w u)).bind _ = none; rw [ge 8 (by omega)]; rfl) rfl (V := nI (is0 A P X (mq A (X 0)) (A 2))) ⟨τ8, Wc_s f8, ?_⟩ (fun τ fr => ?_)
      · unfold f_X10_count
        rw [zg0, if_neg (show ¬ nI 8 = 0 by decide), if_neg (show ¬ nI 8 = 1 by decide), if_neg (show ¬ nI 8 = 2 by decide), if_neg (show ¬ nI 8 = 3 by decide), if_neg (show ¬ nI 8 = 4 by decide), if_neg (show ¬ nI 8 = 5 by decide), if_neg (show ¬ nI 8 = 6 by decide), if_neg (show ¬ nI 8 = 7 by decide), if_pos (show nI 8 = 8 by decide), zr0_8, Option.bind_some, e8, Option.bind_some, cs_e]
      · have r0 : RV (s2 τ 118 0 0) 0 A P X 0 := RV_F (Ws_rv rv fr) (Fr_s (W := fun q k => q = 118 ∧ k = 0) ⟨rfl, rfl⟩) (fun q k e => by omega)
        have t1 : (s2 τ 118 0 0) 118 0 = nI 0 := by rw [s2_at rfl rfl]; rfl
        obtain ⟨U9, hU9⟩ : ∃ U9, U9 = Int32.toInt64 (nI (is0 A P X (mq A (X 0)) (A 2))) := ⟨_, rfl⟩
        rw [← hU9]
        obtain ⟨τ9, f9, e9⟩ := inStep_R (w := w) (u := U9) r0
        rw [mo_0] at e9
        refine ⟨τ9, Wr_q f9, ?_⟩
        unfold f_X11_count
        rw [zg118, zw118_0, Option.bind_some, show f_X11_within (nI 8) 0 14 (mk (s2 τ 118 0 0) w U9) = some (nI 1, mk (s2 τ 118 0 0) w U9) from within_1 (a := 0) (b := 14) (by omega) (by omega) (by decide) _, Option.bind_some]
        dsimp only
        rw [right_1 t1, Option.bind_some]
        dsimp only
        rw [if_neg (show ¬ nI 1 = 0 by decide), if_neg (show ¬ nI 8 = 0 by decide), if_neg (show ¬ nI 8 = 1 by decide), if_neg (show ¬ nI 8 = 2 by decide), if_neg (show ¬ nI 8 = 3 by decide), if_neg (show ¬ nI 8 = 4 by decide), if_neg (show ¬ nI 8 = 5 by decide), if_neg (show ¬ nI 8 = 6 by decide), if_neg (show ¬ nI 8 = 7 by decide), if_pos (show nI 8 = 8 by decide), e9, Option.bind_some]
    by_cases c9 : q = 9
    · rw [c9]
      refine Ag_ok iv0 (by show (g_X10_count 0 (nI 9) (mk σ w u)).bind _ = none; rw [ge 9 (by omega)]; rfl) rfl (V := nI N) ⟨σ, Fr_r _ _, ?_⟩ (fun τ fr => ?_)
      · unfold f_X10_count
        rw [zg0, if_neg (show ¬ nI 9 = 0 by decide), if_neg (show ¬ nI 9 = 1 by decide), if_neg (show ¬ nI 9 = 2 by decide), if_neg (show ¬ nI 9 = 3 by decide), if_neg (show ¬ nI 9 = 4 by decide), if_neg (show ¬ nI 9 = 5 by decide), if_neg (show ¬ nI 9 = 6 by decide), if_neg (show ¬ nI 9 = 7 by decide), if_neg (show ¬ nI 9 = 8 by decide), if_pos (show nI 9 = 9 by decide), zr0_5, Option.bind_some, zr15_1, Option.bind_some, zi16_4, Option.bind_some, ca.2.1]
      · have r0 : RV (s2 τ 118 0 0) 0 A P X 0 := RV_F (Ws_rv rv fr) (Fr_s (W := fun q k => q = 118 ∧ k = 0) ⟨rfl, rfl⟩) (fun q k e => by omega)
        have t1 : (s2 τ 118 0 0) 118 0 = nI 0 := by rw [s2_at rfl rfl]; rfl
        obtain ⟨U9, hU9⟩ : ∃ U9, U9 = Int32.toInt64 (nI N) := ⟨_, rfl⟩
        rw [← hU9]
        refine ⟨s2 τ 118 0 0, Fr_r _ _, ?_⟩
        unfold f_X11_count
        rw [zg118, zw118_0, Option.bind_some, show f_X11_within (nI 9) 0 14 (mk (s2 τ 118 0 0) w U9) = some (nI 1, mk (s2 τ 118 0 0) w U9) from within_1 (a := 0) (b := 14) (by omega) (by omega) (by decide) _, Option.bind_some]
        dsimp only
        rw [right_1 t1, Option.bind_some]
        dsimp only
        rw [if_neg (show ¬ nI 1 = 0 by decide), if_neg (show ¬ nI 9 = 0 by decide), if_neg (show ¬ nI 9 = 1 by decide), if_neg (show ¬ nI 9 = 2 by decide), if_neg (show ¬ nI 9 = 3 by decide), if_neg (show ¬ nI 9 = 4 by decide), if_neg (show ¬ nI 9 = 5 by decide), if_neg (show ¬ nI 9 = 6 by decide), if_neg (show ¬ nI 9 = 7 by decide), if_neg (show ¬ nI 9 = 8 by decide), if_pos (show nI 9 = 9 by decide), zi118_38, Option.bind_some, s2_off (by omega), fr 118 38 (by unfold Ws; omega), hN]
    by_cases c10 : q = 10
    · rw [c10]
      refine Ag_ok iv0 (by show (g_X10_count 0 (nI 10) (mk σ w u)).bind _ = none; rw [ge 10 (by omega)]; rfl) rfl (V := nI M) ⟨σ, Fr_r _ _, ?_⟩ (fun τ fr => ?_)
      · unfold f_X10_count
        rw [zg0, if_neg (show ¬ nI 10 = 0 by decide), if_neg (show ¬ nI 10 = 1 by decide), if_neg (show ¬ nI 10 = 2 by decide), if_neg (show ¬ nI 10 = 3 by decide), if_neg (show ¬ nI 10 = 4 by decide), if_neg (show ¬ nI 10 = 5 by decide), if_neg (show ¬ nI 10 = 6 by decide), if_neg (show ¬ nI 10 = 7 by decide), if_neg (show ¬ nI 10 = 8 by decide), if_neg (show ¬ nI 10 = 9 by decide), if_pos (show nI 10 = 10 by decide), zr0_5, Option.bind_some, zr15_2, Option.bind_some, zi25_4, Option.bind_some, cs.2.1]
      · have r0 : RV (s2 τ 118 0 0) 0 A P X 0 := RV_F (Ws_rv rv fr) (Fr_s (W := fun q k => q = 118 ∧ k = 0) ⟨rfl, rfl⟩) (fun q k e => by omega)
        have t1 : (s2 τ 118 0 0) 118 0 = nI 0 := by rw [s2_at rfl rfl]; rfl
        obtain ⟨U9, hU9⟩ : ∃ U9, U9 = Int32.toInt64 (nI M) := ⟨_, rfl⟩
        rw [← hU9]
        refine ⟨s2 τ 118 0 0, Fr_r _ _, ?_⟩
        unfold f_X11_count
        rw [zg118, zw118_0, Option.bind_some, show f_X11_within (nI 10) 0 14 (mk (s2 τ 118 0 0) w U9) = some (nI 1, mk (s2 τ 118 0 0) w U9) from within_1 (a := 0) (b := 14) (by omega) (by omega) (by decide) _, Option.bind_some]
        dsimp only
        rw [right_1 t1, Option.bind_some]
        dsimp only
        rw [if_neg (show ¬ nI 1 = 0 by decide), if_neg (show ¬ nI 10 = 0 by decide), if_neg (show ¬ nI 10 = 1 by decide), if_neg (show ¬ nI 10 = 2 by decide), if_neg (show ¬ nI 10 = 3 by decide), if_neg (show ¬ nI 10 = 4 by decide), if_neg (show ¬ nI 10 = 5 by decide), if_neg (show ¬ nI 10 = 6 by decide), if_neg (show ¬ nI 10 = 7 by decide), if_neg (show ¬ nI 10 = 8 by decide), if_neg (show ¬ nI 10 = 9 by decide), if_pos (show nI 10 = 10 by decide), zi118_45, Option.bind_some, s2_off (by omega), fr 118 45 (by unfold Ws; omega), hMs]
    by_cases c11 : q = 11
    · rw [c11]
      refine Ag_ok iv0 (by show (g_X10_count 0 (nI 11) (mk σ w u)).bind _ = none; rw [ge 11 (by omega)]; rfl) rfl (V := nI t) ⟨σ, Fr_r _ _, ?_⟩ (fun τ fr => ?_)
      · unfold f_X10_count
        rw [zg0, if_neg (show ¬ nI 11 = 0 by decide), if_neg (show ¬ nI 11 = 1 by decide), if_neg (show ¬ nI 11 = 2 by decide), if_neg (show ¬ nI 11 = 3 by decide), if_neg (show ¬ nI 11 = 4 by decide), if_neg (show ¬ nI 11 = 5 by decide), if_neg (show ¬ nI 11 = 6 by decide), if_neg (show ¬ nI 11 = 7 by decide), if_neg (show ¬ nI 11 = 8 by decide), if_neg (show ¬ nI 11 = 9 by decide), if_neg (show ¬ nI 11 = 10 by decide), if_pos (show nI 11 = 11 by decide), zi0_1, Option.bind_some, ht1]
      · have r0 : RV (s2 τ 118 0 0) 0 A P X 0 := RV_F (Ws_rv rv fr) (Fr_s (W := fun q k => q = 118 ∧ k = 0) ⟨rfl, rfl⟩) (fun q k e => by omega)
        have t1 : (s2 τ 118 0 0) 118 0 = nI 0 := by rw [s2_at rfl rfl]; rfl
        obtain ⟨U9, hU9⟩ : ∃ U9, U9 = Int32.toInt64 (nI t) := ⟨_, rfl⟩
        rw [← hU9]
        refine ⟨s2 τ 118 0 0, Fr_r _ _, ?_⟩
        unfold f_X11_count
        rw [zg118, zw118_0, Option.bind_some, show f_X11_within (nI 11) 0 14 (mk (s2 τ 118 0 0) w U9) = some (nI 1, mk (s2 τ 118 0 0) w U9) from within_1 (a := 0) (b := 14) (by omega) (by omega) (by decide) _, Option.bind_some]
        dsimp only
        rw [right_1 t1, Option.bind_some]
        dsimp only
        rw [if_neg (show ¬ nI 1 = 0 by decide), if_neg (show ¬ nI 11 = 0 by decide), if_neg (show ¬ nI 11 = 1 by decide), if_neg (show ¬ nI 11 = 2 by decide), if_neg (show ¬ nI 11 = 3 by decide), if_neg (show ¬ nI 11 = 4 by decide), if_neg (show ¬ nI 11 = 5 by decide), if_neg (show ¬ nI 11 = 6 by decide), if_neg (show ¬ nI 11 = 7 by decide), if_neg (show ¬ nI 11 = 8 by decide), if_neg (show ¬ nI 11 = 9 by decide), if_neg (show ¬ nI 11 = 10 by decide), if_pos (show nI 11 = 11 by decide), zi118_10, Option.bind_some, s2_off (by omega), fr 118 10 (by unfold Ws; omega), ht2]
    by_cases c12 : q = 12
    · rw [c12]
      refine Ag_ok iv0 (by show (g_X10_count 0 (nI 12) (mk σ w u)).bind _ = none; rw [ge 12 (by omega)]; rfl) rfl (V := σ 4 0) ⟨σ, Fr_r _ _, ?_⟩ (fun τ fr => ?_)
      · unfold f_X10_count
        rw [zg0, if_neg (show ¬ nI 12 = 0 by decide), if_neg (show ¬ nI 12 = 1 by decide), if_neg (show ¬ nI 12 = 2 by decide), if_neg (show ¬ nI 12 = 3 by decide), if_neg (show ¬ nI 12 = 4 by decide), if_neg (show ¬ nI 12 = 5 by decide), if_neg (show ¬ nI 12 = 6 by decide), if_neg (show ¬ nI 12 = 7 by decide), if_neg (show ¬ nI 12 = 8 by decide), if_neg (show ¬ nI 12 = 9 by decide), if_neg (show ¬ nI 12 = 10 by decide), if_neg (show ¬ nI 12 = 11 by decide), if_pos (show nI 12 = 12 by decide), zr0_3, Option.bind_some, show f_X2_at 3 0 (mk σ w u) = some (σ 4 0, mk σ w u) from zt3 (i := 0) (by decide), Option.bind_some]
      · have r0 : RV (s2 τ 118 0 0) 0 A P X 0 := RV_F (Ws_rv rv fr) (Fr_s (W := fun q k => q = 118 ∧ k = 0) ⟨rfl, rfl⟩) (fun q k e => by omega)
        have t1 : (s2 τ 118 0 0) 118 0 = nI 0 := by rw [s2_at rfl rfl]; rfl
        obtain ⟨U9, hU9⟩ : ∃ U9, U9 = Int32.toInt64 (σ 4 0) := ⟨_, rfl⟩
        rw [← hU9]
        refine ⟨s2 τ 118 0 0, Fr_r _ _, ?_⟩
        unfold f_X11_count
        rw [zg118, zw118_0, Option.bind_some, show f_X11_within (nI 12) 0 14 (mk (s2 τ 118 0 0) w U9) = some (nI 1, mk (s2 τ 118 0 0) w U9) from within_1 (a := 0) (b := 14) (by omega) (by omega) (by decide) _, Option.bind_some]
        dsimp only
        rw [right_1 t1, Option.bind_some]
        dsimp only
        rw [if_neg (show ¬ nI 1 = 0 by decide), if_neg (show ¬ nI 12 = 0 by decide), if_neg (show ¬ nI 12 = 1 by decide), if_neg (show ¬ nI 12 = 2 by decide), if_neg (show ¬ nI 12 = 3 by decide), if_neg (show ¬ nI 12 = 4 by decide), if_neg (show ¬ nI 12 = 5 by decide), if_neg (show ¬ nI 12 = 6 by decide), if_neg (show ¬ nI 12 = 7 by decide), if_neg (show ¬ nI 12 = 8 by decide), if_neg (show ¬ nI 12 = 9 by decide), if_neg (show ¬ nI 12 = 10 by decide), if_neg (show ¬ nI 12 = 11 by decide), zr118_13, Option.bind_some, show (nI 12 - 12 : Int32) = nI 0 by decide, za122 (by omega), Option.bind_some, s2_off (by omega), fr 122 0 (by unfold Ws; omega), ← hst 0 (by omega)]
    by_cases c13 : q = 13
    · rw [c13]
      refine Ag_ok iv0 (by show (g_X10_count 0 (nI 13) (mk σ w u)).bind _ = none; rw [ge 13 (by omega)]; rfl) rfl (V := σ 4 1) ⟨σ, Fr_r _ _, ?_⟩ (fun τ fr => ?_)
      · unfold f_X10_count
        rw [zg0, if_neg (show ¬ nI 13 = 0 by decide), if_neg (show ¬ nI 13 = 1 by decide), if_neg (show ¬ nI 13 = 2 by decide), if_neg (show ¬ nI 13 = 3 by decide), if_neg (show ¬ nI 13 = 4 by decide), if_neg (show ¬ nI 13 = 5 by decide), if_neg (show ¬ nI 13 = 6 by decide), if_neg (show ¬ nI 13 = 7 by decide), if_neg (show ¬ nI 13 = 8 by decide), if_neg (show ¬ nI 13 = 9 by decide), if_neg (show ¬ nI 13 = 10 by decide), if_neg (show ¬ nI 13 = 11 by decide), if_neg (show ¬ nI 13 = 12 by decide), if_pos (show nI 13 = 13 by decide), zr0_3, Option.bind_some, show f_X2_at 3 1 (mk σ w u) = some (σ 4 1, mk σ w u) from zt3 (i := 1) (by decide), Option.bind_some]
      · have r0 : RV (s2 τ 118 0 0) 0 A P X 0 := RV_F (Ws_rv rv fr) (Fr_s (W := fun q k => q = 118 ∧ k = 0) ⟨rfl, rfl⟩) (fun q k e => by omega)
        have t1 : (s2 τ 118 0 0) 118 0 = nI 0 := by rw [s2_at rfl rfl]; rfl
        obtain ⟨U9, hU9⟩ : ∃ U9, U9 = Int32.toInt64 (σ 4 1) := ⟨_, rfl⟩
        rw [← hU9]
        refine ⟨s2 τ 118 0 0, Fr_r _ _, ?_⟩
        unfold f_X11_count
        rw [zg118, zw118_0, Option.bind_some, show f_X11_within (nI 13) 0 14 (mk (s2 τ 118 0 0) w U9) = some (nI 1, mk (s2 τ 118 0 0) w U9) from within_1 (a := 0) (b := 14) (by omega) (by omega) (by decide) _, Option.bind_some]
        dsimp only
        rw [right_1 t1, Option.bind_some]
        dsimp only
        rw [if_neg (show ¬ nI 1 = 0 by decide), if_neg (show ¬ nI 13 = 0 by decide), if_neg (show ¬ nI 13 = 1 by decide), if_neg (show ¬ nI 13 = 2 by decide), if_neg (show ¬ nI 13 = 3 by decide), if_neg (show ¬ nI 13 = 4 by decide), if_neg (show ¬ nI 13 = 5 by decide), if_neg (show ¬ nI 13 = 6 by decide), if_neg (show ¬ nI 13 = 7 by decide), if_neg (show ¬ nI 13 = 8 by decide), if_neg (show ¬ nI 13 = 9 by decide), if_neg (show ¬ nI 13 = 10 by decide), if_neg (show ¬ nI 13 = 11 by decide), zr118_13, Option.bind_some, show (nI 13 - 12 : Int32) = nI 1 by decide, za122 (by omega), Option.bind_some, s2_off (by omega), fr 122 1 (by unfold Ws; omega), ← hst 1 (by omega)]
    by_cases c14 : q = 14
    · rw [c14]
      refine Ag_ok iv0 (by show (g_X10_count 0 (nI 14) (mk σ w u)).bind _ = none; rw [ge 14 (by omega)]; rfl) rfl (V := σ 4 2) ⟨σ, Fr_r _ _, ?_⟩ (fun τ fr => ?_)
      · unfold f_X10_count
        rw [zg0, if_neg (show ¬ nI 14 = 0 by decide), if_neg (show ¬ nI 14 = 1 by decide), if_neg (show ¬ nI 14 = 2 by decide), if_neg (show ¬ nI 14 = 3 by decide), if_neg (show ¬ nI 14 = 4 by decide), if_neg (show ¬ nI 14 = 5 by decide), if_neg (show ¬ nI 14 = 6 by decide), if_neg (show ¬ nI 14 = 7 by decide), if_neg (show ¬ nI 14 = 8 by decide), if_neg (show ¬ nI 14 = 9 by decide), if_neg (show ¬ nI 14 = 10 by decide), if_neg (show ¬ nI 14 = 11 by decide), if_neg (show ¬ nI 14 = 12 by decide), if_neg (show ¬ nI 14 = 13 by decide), if_pos (show nI 14 = 14 by decide), zr0_3, Option.bind_some, show f_X2_at 3 2 (mk σ w u) = some (σ 4 2, mk σ w u) from zt3 (i := 2) (by decide), Option.bind_some]
      · have r0 : RV (s2 τ 118 0 0) 0 A P X 0 := RV_F (Ws_rv rv fr) (Fr_s (W := fun q k => q = 118 ∧ k = 0) ⟨rfl, rfl⟩) (fun q k e => by omega)
        have t1 : (s2 τ 118 0 0) 118 0 = nI 0 := by rw [s2_at rfl rfl]; rfl
        obtain ⟨U9, hU9⟩ : ∃ U9, U9 = Int32.toInt64 (σ 4 2) := ⟨_, rfl⟩
        rw [← hU9]
        refine ⟨s2 τ 118 0 0, Fr_r _ _, ?_⟩
        unfold f_X11_count
        rw [zg118, zw118_0, Option.bind_some, show f_X11_within (nI 14) 0 14 (mk (s2 τ 118 0 0) w U9) = some (nI 1, mk (s2 τ 118 0 0) w U9) from within_1 (a := 0) (b := 14) (by omega) (by omega) (by decide) _, Option.bind_some]
        dsimp only
        rw [right_1 t1, Option.bind_some]
        dsimp only
        rw [if_neg (show ¬ nI 1 = 0 by decide), if_neg (show ¬ nI 14 = 0 by decide), if_neg (show ¬ nI 14 = 1 by decide), if_neg (show ¬ nI 14 = 2 by decide), if_neg (show ¬ nI 14 = 3 by decide), if_neg (show ¬ nI 14 = 4 by decide), if_neg (show ¬ nI 14 = 5 by decide), if_neg (show ¬ nI 14 = 6 by decide), if_neg (show ¬ nI 14 = 7 by decide), if_neg (show ¬ nI 14 = 8 by decide), if_neg (show ¬ nI 14 = 9 by decide), if_neg (show ¬ nI 14 = 10 by decide), if_neg (show ¬ nI 14 = 11 by decide), zr118_13, Option.bind_some, show (nI 14 - 12 : Int32) = nI 2 by decide, za122 (by omega), Option.bind_some, s2_off (by omega), fr 122 2 (by unfold Ws; omega), ← hst 2 (by omega)]
    omega
  · refine Ag_bad (c := nI 1) (v := 0) iv0 (by decide) ?_ ?_
    · have hne : ∀ k, k ≤ 14 → x0 ≠ nI k := fun k hk e => by
        subst e
        rcases b0 with b | ⟨-, b, -⟩
        · exact absurd b (nI_nlt (by omega) (by omega))
        · exact b (nI_le hk (by decide))
      unfold e_L_count g_X10_count
      rw [zg0, if_neg (show ¬ x0 = 0 from hne 0 (by omega)), if_neg (show ¬ x0 = 1 from hne 1 (by omega)), if_neg (show ¬ x0 = 2 from hne 2 (by omega)), if_neg (show ¬ x0 = 3 from hne 3 (by omega)), if_neg (show ¬ x0 = 4 from hne 4 (by omega)), if_neg (show ¬ x0 = 5 from hne 5 (by omega)), if_neg (show ¬ x0 = 6 from hne 6 (by omega)), if_neg (show ¬ x0 = 7 from hne 7 (by omega)), if_neg (show ¬ x0 = 8 from hne 8 (by omega)), if_neg (show ¬ x0 = 9 from hne 9 (by omega)), if_neg (show ¬ x0 = 10 from hne 10 (by omega)), if_neg (show ¬ x0 = 11 from hne 11 (by omega)), if_neg (show ¬ x0 = 12 from hne 12 (by omega)), if_neg (show ¬ x0 = 13 from hne 13 (by omega)), if_neg (show ¬ x0 = 14 from hne 14 (by omega)), Option.bind_some, hx_0, show (1 : Int32) = nI 1 from rfl]
    · unfold f_X11_count
      rw [zg118, zw118_0, Option.bind_some, show f_X11_within x0 0 14 (mk (s2 σ 118 0 0) w u) = some (nI 0, mk (s2 σ 118 0 0) w u) from within_0 (a := 0) (b := 14) b0 _, Option.bind_some]
      dsimp only
      rw [show f_X11_right 118 (nI 0) 1 (mk (s2 σ 118 0 0) w u) = some (nI 0, mk (s2 (s2 σ 118 0 0) 118 0 (nI 1)) w u) from right_0 (c := 1) (by omega) t0, Option.bind_some]
      dsimp only
      rw [if_pos (show nI 0 = 0 from rfl)]
end AC
