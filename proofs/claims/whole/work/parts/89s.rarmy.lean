/-! L3: the reference reads a line, an army -/
section RN9
variable {σ τ : Nat → Nat → Int32} {w u : Int64} {T : Nat → Nat} {n : Nat} {K : Nat × Nat × Nat} {Q : Nat → Nat} {P : List (Nat × Nat)}
theorem kw_all : ∀ k, k ≤ 14 → (nJ k = 6 ↔ k = 7) ∧ (nJ k = 7 ↔ k = 8) ∧ (nJ k = 8 ↔ k = 9) ∧ (nJ k = 2 ↔ k = 3) ∧ (nJ k = 9 ↔ k = 10) ∧ (nJ k = 10 ↔ k = 11) := by decide
theorem rbeats (rg : RG σ w T n K) (rb : RB σ Q P) (wq : WQ Q P) : rlq T n σ u (sem9 T n (if Q 0 ≠ 0 then .inl (5, K.1) else match num9 T n 4 12 (nxt T n K) with
    | .inl q => .inl q
    | .inr (a, K1) => .inr (un Q 0 a, P, K1))) (if σ 118 22 = (-1) then (f_X11_line_26 118 118 0 0 (mk σ w u)) else (f_X11_line_26 118 118 0 1 (mk σ w u))) := by
  have h0 : Q 0 ≤ 12 := by have := wq.1; omega
  have wf : ∀ (τ : Nat → Nat → Int32) (x : Int32), Fr (fun q k => q = 118 ∧ k = 22) τ (s2 τ 118 22 x) := fun τ x => Fr_s ⟨rfl, rfl⟩
  rw [rb.1]
  unfold f_X11_line_26
  by_cases c : Q 0 = 0
  · obtain ⟨τ, w1, fr, rg1, e1⟩ := begins_e (u := u) rg
    rw [if_neg (fun h => h c), if_pos ((eb_0 _ h0).mpr c), e1, Option.bind_some]
    dsimp only
    rw [if_neg (by decide)]
    have rb1 := RB_F rb fr (fun q k e => by unfold Wgo at e; omega)
    have ht := number_R (u := u) rg1 (lo := 4) (hi := 12) (by omega) (by omega)
    have hg := num9_g (lo := 4) (hi := 12) rg.2.2.2.2.2.2.2 (K := nxt T n K) (T := T) ⟨rg1.2.2.2.2.2.1, rg1.2.2.2.2.2.2.1⟩
    match hr : num9 T n 4 12 (nxt T n K), ht, hg with
    | .inl (f, p), ht, hg =>
      obtain ⟨v, τ2, fr2, rf2, e2⟩ := ht
      rw [show f_X11_number 118 4 12 (mk τ w1 u) = some (v, mk τ2 w1 u) from e2, Option.bind_some]
      dsimp only
      rw [zw118_22, Option.bind_some]
      exact rend_0 (Fr_t (Wgo_r fr) (Fr_t (Wgf_r fr2) (Fr_m (wf τ2 v) (fun q k e => by unfold Wrz; omega)))) (RF_F rf2 (wf τ2 v) (fun q k e => by omega))
    | .inr (a, K1), ht, hg =>
      obtain ⟨τ2, w2, fr2, rg2, e2⟩ := ht
      obtain ⟨ha, ha2, -⟩ := hg
      rw [show f_X11_number 118 4 12 (mk τ w1 u) = some (nI a, mk τ2 w2 u) from e2, Option.bind_some]
      dsimp only
      rw [zw118_22, Option.bind_some]
      refine rend_1 (Fr_t (Wgo_r fr) (Fr_t (Wgo_r fr2) (Fr_m (wf τ2 _) (fun q k e => by unfold Wrz; omega)))) (RG_F rg2 (wf τ2 _) (fun q k e => by omega)) ?_
      obtain ⟨a0, a1, a2, a3, a4, a5, a6, a7, a8⟩ := RB_F rb1 fr2 (fun q k e => by unfold Wgo at e; omega)
      refine ⟨?_, ?_, ?_, ?_, ?_, ?_, ?_, ?_, ?_⟩
      · rw [s2_at rfl rfl, un_at rfl]; unfold eb; rw [if_neg (by omega)]
      · rw [s2_off (by omega), un_off (by omega)]; exact a1
      · rw [s2_off (by omega), un_off (by omega)]; exact a2
      · rw [s2_off (by omega), un_off (by omega)]; exact a3
      · rw [s2_off (by omega), un_off (by omega)]; exact a4
      · intro h; rw [s2_off (by omega), s2_off (by omega)]; exact a5 h
      · intro h; exact ⟨by rw [s2_off (by omega)]; exact (a6 h).1, fun j x hx => by rw [s2_off (by omega)]; exact (a6 h).2.1 j x hx, (a6 h).2.2⟩
      · intro j hj
        rw [un_off (by omega)] at hj
        rw [s2_off (by omega), un_off (by omega)]; exact a7 j hj
      · intro k hk
        rw [s2_off (by omega), a8 k hk]
        unfold ZQ
        rw [un_off (by omega), un_off (by omega)]
  · obtain ⟨τ, fr, rf, e1⟩ := begins_a (u := u) rg
    rw [if_pos c, if_neg (fun e => c ((eb_0 _ h0).mp e)), e1, Option.bind_some]
    dsimp only
    rw [if_pos rfl]
    exact rend_0 (Wgf_r fr) rf
theorem rslack (rg : RG σ w T n K) (rb : RB σ Q P) (wq : WQ Q P) : rlq T n σ u (sem9 T n (if Q 3 ≠ 0 then .inl (5, K.1) else match num9 T n 0 12 (nxt T n K) with
    | .inl q => .inl q
    | .inr (a, K1) => .inr (un Q 3 (a + 1), P, K1))) (if σ 118 26 = (-1) then (f_X11_line_169 118 118 0 0 (mk σ w u)) else (f_X11_line_169 118 118 0 1 (mk σ w u))) := by
  have h0 : Q 3 ≤ 13 := wq.2.2.2.1
  have wf : ∀ (τ : Nat → Nat → Int32) (x : Int32), Fr (fun q k => q = 118 ∧ k = 26) τ (s2 τ 118 26 x) := fun τ x => Fr_s ⟨rfl, rfl⟩
  rw [rb.2.2.2.2.1]
  unfold f_X11_line_169
  by_cases c : Q 3 = 0
  · obtain ⟨τ, w1, fr, rg1, e1⟩ := begins_e (u := u) rg
    rw [if_neg (fun h => h c), if_pos ((nJ_0 _ h0).mpr c), e1, Option.bind_some]
    dsimp only
    rw [if_neg (by decide)]
    have rb1 := RB_F rb fr (fun q k e => by unfold Wgo at e; omega)
    have ht := number_R (u := u) rg1 (lo := 0) (hi := 12) (by omega) (by omega)
    match hr : num9 T n 0 12 (nxt T n K), ht with
    | .inl (f, p), ht =>
      obtain ⟨v, τ2, fr2, rf2, e2⟩ := ht
      rw [show f_X11_number 118 0 12 (mk τ w1 u) = some (v, mk τ2 w1 u) from e2, Option.bind_some]
      dsimp only
      rw [zw118_26, Option.bind_some]
      exact rend_0 (Fr_t (Wgo_r fr) (Fr_t (Wgf_r fr2) (Fr_m (wf τ2 v) (fun q k e => by unfold Wrz; omega)))) (RF_F rf2 (wf τ2 v) (fun q k e => by omega))
    | .inr (a, K1), ht =>
      obtain ⟨τ2, w2, fr2, rg2, e2⟩ := ht
      rw [show f_X11_number 118 0 12 (mk τ w1 u) = some (nI a, mk τ2 w2 u) from e2, Option.bind_some]
      dsimp only
      rw [zw118_26, Option.bind_some]
      refine rend_1 (Fr_t (Wgo_r fr) (Fr_t (Wgo_r fr2) (Fr_m (wf τ2 _) (fun q k e => by unfold Wrz; omega)))) (RG_F rg2 (wf τ2 _) (fun q k e => by omega)) ?_
      obtain ⟨a0, a1, a2, a3, a4, a5, a6, a7, a8⟩ := RB_F rb1 fr2 (fun q k e => by unfold Wgo at e; omega)
      refine ⟨?_, ?_, ?_, ?_, ?_, ?_, ?_, ?_, ?_⟩
      · rw [s2_off (by omega), un_off (by omega)]; exact a0
      · rw [s2_off (by omega), un_off (by omega)]; exact a1
      · rw [s2_off (by omega), un_off (by omega)]; exact a2
      · rw [s2_off (by omega), un_off (by omega)]; exact a3
      · rw [s2_at rfl rfl, un_at rfl, nJ_pos (by omega)]; rfl
      · intro h; rw [s2_off (by omega), s2_off (by omega)]; exact a5 h
      · intro h; exact ⟨by rw [s2_off (by omega)]; exact (a6 h).1, fun j x hx => by rw [s2_off (by omega)]; exact (a6 h).2.1 j x hx, (a6 h).2.2⟩
      · intro j hj
        rw [un_off (by omega)] at hj
        rw [s2_off (by omega), un_off (by omega)]; exact a7 j hj
      · intro k hk
        rw [s2_off (by omega), a8 k hk]
        unfold ZQ
        rw [un_off (by omega), un_off (by omega)]
  · obtain ⟨τ, fr, rf, e1⟩ := begins_a (u := u) rg
    rw [if_pos c, if_neg (fun e => c ((nJ_0 _ h0).mp e)), e1, Option.bind_some]
    dsimp only
    rw [if_pos rfl]
    exact rend_0 (Wgf_r fr) rf
theorem rmuds (rg : RG σ w T n K) (rb : RB σ Q P) (wq : WQ Q P) : rlq T n σ u (sem9 T n (if Q 4 ≠ 0 then .inl (5, K.1) else match md9 T n 9 0 Q (nxt T n K) with
    | .inl q => .inl q
    | .inr (Q1, K1) => .inr (Q1, P, K1))) (if σ 118 25 ≤ 0 then (f_X11_line_135 118 118 0 0 (mk σ w u)) else (f_X11_line_135 118 118 0 1 (mk σ w u))) := by
  have h4 : Q 4 ≤ 8 := wq.2.2.2.2.1
  rw [rb.2.2.2.1]
  unfold f_X11_line_135
  by_cases c : Q 4 = 0
  · obtain ⟨τ, w1, fr, rg1, e1⟩ := begins_e (u := u) rg
    rw [if_neg (fun h => h c), if_pos (show nI (Q 4) ≤ 0 by rw [c]; decide), e1, Option.bind_some]
    dsimp only
    rw [if_neg (by decide)]
    have rb1 := RB_F rb fr (fun q k e => by unfold Wgo at e; omega)
    have h := mudl_R (u := u) (P := P) 9 0 Q (nxt T n K) τ w1 (99999 + 1) (by omega) rg1 rb1 c (by omega)
    unfold f_X11_readsMud
    rw [zg118, bmR_l]
    have e0 : lp bmR (99999 + 1) (118, 1, mk τ w1 u) = lp bmR (99999 + 1) (118, nI (if (0 : Nat) = 0 ∨ (nxt T n K).2.2 = 1 then 1 else 0), mk τ w1 u) := by
      rw [if_pos (Or.inl rfl)]
      rfl
    rw [e0]
    match hr : md9 T n 9 0 Q (nxt T n K), h with
    | .inl (f, p), h =>
      obtain ⟨τ2, w2, ⟨fr2, rf2⟩, e2⟩ := h (by omega)
      rw [e2, Option.bind_some]
      exact rend_0 (Fr_t (Wgo_r fr) fr2) rf2
    | .inr (Q1, K1), h =>
      obtain ⟨τ2, w2, ⟨fr2, rg2, rb2⟩, e2⟩ := h
      rw [e2, Option.bind_some]
      exact rend_1 (Fr_t (Wgo_r fr) fr2) rg2 rb2
  · obtain ⟨τ, fr, rf, e1⟩ := begins_a (u := u) rg
    rw [if_pos c, if_neg (show ¬ nI (Q 4) ≤ 0 from nI_ge (a := 0) (by omega) (by omega)), e1, Option.bind_some]
    dsimp only
    rw [if_pos rfl]
    exact rend_0 (Wgf_r fr) rf
theorem rhears (rg : RG σ w T n K) (rb : RB σ Q P) (hk : K.2.2 ≠ 0) : rlq T n σ u (sem9 T n (if P ≠ [] then .inl (5, K.1) else match ps T n FU 6 0 (nxt T n K) with
    | some (.inr (c, K1)) => .inr (Q, c, K1)
    | some (.inl q) => .inl q
    | none => .inl (1, 0))) (if σ 118 27 = (-1) then (f_X11_line_210 118 118 0 0 (mk σ w u)) else (f_X11_line_210 118 118 0 1 (mk σ w u))) := by
  unfold f_X11_line_210
  by_cases c : P = []
  · obtain ⟨g27, g28⟩ := rb.2.2.2.2.2.1 c
    obtain ⟨τ, w1, fr, rg1, e1⟩ := begins_e (u := u) rg
    have hn := rg.2.2.2.2.2.2.2
    have hgt : K.1 < (nxt T n K).1 := Nat.lt_of_lt_of_le (rg.2.2.2.2.2.1.2.2.2.1 hk) (tok_ok hn rg.2.2.2.2.2.1.2.1).2
    have rb1 := RB_F rb fr (fun q k e => by unfold Wgo at e; omega)
    obtain ⟨x, hx, gx⟩ := ps_all hn FU 6 0 (nxt T n K) ⟨rg1.2.2.2.2.2.1, rg1.2.2.2.2.2.2.1⟩ (by omega) (by omega) (by have : rk 6 = 7 := rfl; have : FU = 8000 := rfl; omega)
    have t28 : τ 118 28 = nI 0 := by rw [fr 118 28 (by unfold Wgo; omega)]; exact g28
    have wf : Fr (fun q k => q = 118 ∧ k = 27) τ (s2 τ 118 27 (nI 0)) := Fr_s ⟨rfl, rfl⟩
    have rg2 := RG_F rg1 wf (fun q k e => by omega)
    have hE := expression_R (u := u) rg2 (by rw [s2_off (by omega)]; exact t28) (by omega)
    rw [if_neg (fun h => h c), if_pos (show σ 118 27 = -1 by rw [g27]; rfl), e1, Option.bind_some]
    dsimp only
    rw [if_neg (by decide), zi118_28, Option.bind_some, t28, zw118_27, Option.bind_some, hx]
    obtain ⟨τ3, w3, ⟨fr3, h3⟩, e3⟩ := hE
    rw [e3, Option.bind_some]
    have fa : Fr Wrz σ τ3 := Fr_t (Wgo_r fr) (Fr_t (Fr_m wf (fun q k e => by unfold Wrz; omega)) (Wex_r fr3))
    match x, hx, gx with
    | .inl (f, p), hx, gx =>
      have htop : rch T n (1, [], [], [false], nxt T n K) (fl9 f p) := sy_top hx
      rcases h3 with ⟨C, W, D, K', a1, a2, a3, a4, a5⟩ | ⟨f', p', a1, a2⟩
      · have := rch_u a1 htop (by show 200 ≤ 201; omega) (by show 200 ≤ 200; omega)
        have e9 := congrArg (fun s : SyS => s.1) this
        have e9 : (201 : Nat) = 200 := e9
        omega
      · have := rch_u a1 htop (by show 200 ≤ 200; omega) (by show 200 ≤ 200; omega)
        have e9 : f' = f := congrArg (fun s : SyS => s.2.2.2.2.1) this
        have e10 : p' = p := congrArg (fun s : SyS => s.2.2.2.2.2.1) this
        subst e9
        subst e10
        exact rend_0 fa a2
    | .inr (cs, K1), hx, gx =>
      obtain ⟨t, htop⟩ : ∃ t, rch T n (1, [], [], [false], nxt T n K) (201, cs, [], [t], K1) := sy_top hx
      have hne : cs ≠ [] := (gx.2.2.1 rfl).2
      rcases h3 with ⟨C, W, D, K', a1, a2, a3, a4, a5⟩ | ⟨f', p', a1, a2⟩
      · have := rch_u a1 htop (by show 200 ≤ 201; omega) (by show 200 ≤ 201; omega)
        have e9 : C = cs := congrArg (fun s : SyS => s.2.1) this
        have e10 : K' = K1 := congrArg (fun s : SyS => s.2.2.2.2) this
        subst e9
        subst e10
        refine rend_1 fa a2 ?_
        obtain ⟨b0, b1, b2, b3, b4, b5, b6, b7, b8⟩ := rb1
        have g : ∀ q k, ¬ (q = 118 ∧ k = 27) → ¬ Wex q k → τ3 q k = τ q k := fun q k x1 x2 => by rw [fr3 q k x2, s2_off x1]
        exact ⟨by rw [g _ _ (by omega) (by unfold Wex; omega)]; exact b0, by rw [g _ _ (by omega) (by unfold Wex; omega)]; exact b1, by rw [g _ _ (by omega) (by unfold Wex; omega)]; exact b2, by rw [g _ _ (by omega) (by unfold Wex; omega)]; exact b3, by rw [g _ _ (by omega) (by unfold Wex; omega)]; exact b4, fun h => absurd h hne, fun _ => ⟨by rw [fr3 118 27 (by unfold Wex; omega), s2_at rfl rfl], a3, a4⟩, fun j hj => by rw [g _ _ (by omega) (by unfold Wex; omega)]; exact b7 j hj, fun k hk => by rw [g _ _ (by omega) (by unfold Wex; omega)]; exact b8 k hk⟩
      · have := rch_u a1 htop (by show 200 ≤ 200; omega) (by show 200 ≤ 201; omega)
        have e9 := congrArg (fun s : SyS => s.1) this
        have e9 : (200 : Nat) = 201 := e9
        omega
  · obtain ⟨g27, -⟩ := rb.2.2.2.2.2.2.1 c
    obtain ⟨τ, fr, rf, e1⟩ := begins_a (u := u) rg
    rw [if_pos c, if_neg (show ¬ σ 118 27 = -1 by rw [g27]; decide), e1, Option.bind_some]
    dsimp only
    rw [if_pos rfl]
    exact rend_0 (Wgf_r fr) rf
theorem line_R (rg : RG σ w T n K) (rb : RB σ Q P) (wq : WQ Q P) (hk : K.2.2 ≠ 0) : rlq T n σ u (sem9 T n (cor9 T n Q P K)) (f_X11_line 118 (mk σ w u)) := by
  have w1 := wq.2.1
  have w2 := wq.2.2.1
  obtain ⟨z6, z7, z8, z2, z9, z10⟩ := kw_all _ (kw_le (T := T) K)
  unfold f_X11_line
  rw [zg118, rkw rg, Option.bind_some]
  dsimp only
  unfold cor9
  by_cases c7 : kw T K = 7
  · rw [if_pos (z6.mpr c7), zi118_22, Option.bind_some, if_neg (by omega), if_neg (by omega), if_pos c7]
    exact rbeats rg rb wq
  · rw [if_neg (fun e => c7 (z6.mp e))]
    by_cases c8 : kw T K = 8
    · rw [if_pos (z7.mpr c8), if_pos c8, zi118_23, Option.bind_some, rb.2.1]
      unfold f_X11_line_67
      by_cases c : Q 1 = 8
      · obtain ⟨τ, fr, rf, e1⟩ := begins_m (u := u) rg
        rw [if_pos c, if_pos (show nI (Q 1) = 8 by rw [c]; rfl), e1, Option.bind_some]
        dsimp only
        rw [if_pos rfl]
        exact rend_0 (Wgf_r fr) rf
      · obtain ⟨τ, w3, fr, rg1, e1⟩ := begins_e (u := u) rg
        rw [if_neg c, if_neg (show ¬ nI (Q 1) = 8 from fun e => c ((nI_eq (b := 8) (by omega) (by decide)).mp e)), e1, Option.bind_some]
        dsimp only
        rw [if_neg (by decide)]
        exact rlq_t (Wgo_r fr) (rend_b (readsMan_R rg1 (RB_F rb fr (fun q k e => by unfold Wgo at e; omega)) wq c))
    · rw [if_neg (fun e => c8 (z7.mp e)), if_neg c8]
      by_cases c9 : kw T K = 9
      · rw [if_pos (z8.mpr c9), if_pos c9, zi118_24, Option.bind_some, rb.2.2.1]
        unfold f_X11_line_102
        by_cases c : Q 2 = 8
        · obtain ⟨τ, fr, rf, e1⟩ := begins_m (u := u) rg
          rw [if_pos c, if_pos (show nI (Q 2) = 8 by rw [c]; rfl), e1, Option.bind_some]
          dsimp only
          rw [if_pos rfl]
          exact rend_0 (Wgf_r fr) rf
        · obtain ⟨τ, w3, fr, rg1, e1⟩ := begins_e (u := u) rg
          rw [if_neg c, if_neg (show ¬ nI (Q 2) = 8 from fun e => c ((nI_eq (b := 8) (by omega) (by decide)).mp e)), e1, Option.bind_some]
          dsimp only
          rw [if_neg (by decide)]
          exact rlq_t (Wgo_r fr) (rend_b (readsRow_R rg1 (RB_F rb fr (fun q k e => by unfold Wgo at e; omega)) wq c))
      · rw [if_neg (fun e => c9 (z8.mp e)), if_neg c9, if_neg c7]
        by_cases c3 : kw T K = 3
        · rw [if_pos (z2.mpr c3), if_neg (by omega), if_pos c3, zi118_25, Option.bind_some]
          exact rmuds rg rb wq
        · rw [if_neg (fun e => c3 (z2.mp e))]
          by_cases c10 : kw T K = 10
          · rw [if_pos (z9.mpr c10), if_pos c10, zi118_26, Option.bind_some]
            exact rslack rg rb wq
          · rw [if_neg (fun e => c10 (z9.mp e)), if_neg c10, if_neg c3]
            by_cases c11 : kw T K = 11
            · rw [if_pos (z10.mpr c11), if_pos c11, zi118_27, Option.bind_some]
              exact rhears rg rb hk
            · obtain ⟨τ, ⟨fr, rf⟩, e1⟩ := wrong_G (w := w) (u := u) rg (f := 1) (by omega) (by omega)
              rw [if_neg (fun e => c11 (z10.mp e)), if_neg c11, show f_X11_wrong 118 1 (mk σ w u) = some (mk τ w u) from e1, Option.bind_some]
              exact rend_0 (Wgf_r fr) rf
def b117 : (Nat × hp_H → Option (Int32 × hp_H)) → Nat × hp_H → Option (Int32 × hp_H) := fun k s => f_X11_army_117 (fun a0 a1 => k (a0, a1)) s.1 s.2
theorem b117_1 {x0 : Nat} {h : hp_H} {N : Nat} : lp b117 (N + 1) (x0, h) = f_X11_army_117 (fun a0 a1 => lp b117 N (a0, a1)) x0 h := rfl
theorem b117_l {x0 : Nat} {h : hp_H} : l_X11_army_117 x0 h = lp b117 (99999 + 1) (x0, h) := rfl
theorem l117_n {f p : Nat} (rf : RF σ f p) (N : Nat) : lp b117 (N + 1) (118, mk σ w u) = f_X11_army_138 118 (mk σ w u) := by
  rw [b117_1]
  unfold f_X11_army_117
  rw [gd_n rf, Option.bind_some]
  dsimp only
  rw [if_pos (show nI 0 = 0 from rfl)]
theorem rarmy_l (hn : n ≤ 700) : ∀ d Q P K σ w N, RG σ w T n K → RB σ Q P → WQ Q P → n - K.1 < d → 703 < N + K.1 → match ln9 T n d Q P K with
  | .inl (f, p) => ∃ τ w', Fr Wrz σ τ ∧ RF τ f p ∧ lp b117 N (118, mk σ w u) = f_X11_army_138 118 (mk τ w' u)
  | .inr (Q1, P1, _) => ∃ τ w', Fr Wrz σ τ ∧ τ 118 11 = nI 0 ∧ τ 118 12 = nJ 0 ∧ RB τ Q1 P1 ∧ lp b117 N (118, mk σ w u) = f_X11_army_138 118 (mk τ w' u) := by
  intro d
  induction d with
  | zero => intro Q P K σ w N _ _ _ h; omega
  | succ d ih =>
    intro Q P K σ w N rg rb wq hd hN
    have hKn : K.1 ≤ n := Nat.le_trans rg.2.2.2.2.2.1.1 rg.2.2.2.2.2.1.2.1
    obtain ⟨s1, s2', s3⟩ := srt_1 rg
    obtain ⟨N, rfl⟩ : ∃ M, N = M + 1 := ⟨N - 1, by omega⟩
    unfold ln9
    by_cases c : K.2.2 = 0
    · rw [if_pos c]
      refine ⟨σ, w, Fr_r _ _, rg.2.1, rg.2.2.1, rb, ?_⟩
      rw [b117_1]
      unfold f_X11_army_117
      rw [isGood_1 rg.2.1, Option.bind_some]
      dsimp only
      rw [if_neg (show ¬ nI 1 = 0 by decide), zi118_16, Option.bind_some, if_pos (s3.mpr c)]
    · rw [if_neg c]
      have hl := line_R (u := u) rg rb wq c
      have hg := cor9_g hn (T := T) (K := K) ⟨rg.2.2.2.2.2.1, rg.2.2.2.2.2.2.1⟩ wq c
      have h1 : lp b117 (N + 1) (118, mk σ w u) = (f_X11_line 118 (mk σ w u)).bind fun r3 => lp b117 N (118, r3) := by
        rw [b117_1]
        unfold f_X11_army_117
        rw [isGood_1 rg.2.1, Option.bind_some]
        dsimp only
        rw [if_neg (show ¬ nI 1 = 0 by decide), zi118_16, Option.bind_some, if_neg (fun e => c (s3.mp e))]
      obtain ⟨M, rfl⟩ : ∃ M, N = M + 1 := ⟨N - 1, by omega⟩
      rw [h1]
      match hr : cor9 T n Q P K, hl, hg with
      | .inl (f, p), hl, hg =>
        obtain ⟨τ, w2, ⟨fr, rf⟩, e1⟩ := hl
        refine ⟨τ, w2, fr, rf, ?_⟩
        rw [e1, Option.bind_some]
        exact l117_n rf M
      | .inr (Q1, P1, K1), hl, hg =>
        obtain ⟨w1, k1, l1⟩ := hg
        unfold sem9 at hl ⊢
        by_cases c2 : K1.2.2 = 3 ∧ T K1.1 = 59
        · simp only [if_pos c2] at hl ⊢
          obtain ⟨τ, w2, ⟨fr, rg2, rb2⟩, e1⟩ := hl
          have hgt := nxt_gt hn k1 (by omega)
          have hK1 : K1.1 ≤ n := Nat.le_trans k1.1.1 k1.1.2.1
          have h9 := ih Q1 P1 (nxt T n K1) τ w2 (M + 1) rg2 rb2 w1 (by omega) (by omega)
          rw [e1, Option.bind_some]
          match hq : ln9 T n d Q1 P1 (nxt T n K1), h9 with
          | .inl (f, p), ⟨τ2, w3, fr2, q2, e2⟩ => exact ⟨τ2, w3, Fr_t fr fr2, q2, e2⟩
          | .inr (Q2, P2, K2), ⟨τ2, w3, fr2, q2, q3, q4, e2⟩ => exact ⟨τ2, w3, Fr_t fr fr2, q2, q3, q4, e2⟩
        · simp only [if_neg c2] at hl ⊢
          obtain ⟨τ, w2, ⟨fr, rf⟩, e1⟩ := hl
          refine ⟨τ, w2, fr, rf, ?_⟩
          rw [e1, Option.bind_some]
          exact l117_n rf M
end RN9
