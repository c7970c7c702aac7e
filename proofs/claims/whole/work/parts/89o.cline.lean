/-! L3: the class reads a line -/
section CT9
variable {σ τ : Nat → Nat → Int32} {w u : Int64} {T : Nat → Nat} {n : Nat} {K : Nat × Nat × Nat} {Q : Nat → Nat} {P : List (Nat × Nat)}
def bmd : (Nat × Int32 × hp_H → Option hp_H) → Nat × Int32 × hp_H → Option hp_H := fun k s => f_X5_readMuds_2 (fun a0 a1 a2 => k (a0, a1, a2)) s.1 s.2.1 s.2.2
theorem bmd_1 {x0 : Nat} {x : Int32} {h : hp_H} {N : Nat} : lp bmd (N + 1) (x0, x, h) = f_X5_readMuds_2 (fun a0 a1 a2 => lp bmd N (a0, a1, a2)) x0 x h := rfl
theorem bmd_l {x0 : Nat} {x : Int32} {h : hp_H} : l_X5_readMuds_2 x0 x h = lp bmd (99999 + 1) (x0, x, h) := rfl
theorem mud_n {f p : Nat} (cf : CF σ f p) {x : Int32} (N : Nat) : lp bmd (N + 1) (80, x, mk σ w u) = some (mk σ w u) := by
  rw [bmd_1]
  unfold f_X5_readMuds_2 f_X5_readMuds_61
  split
  · rfl
  · rw [isNN_0 cf, Option.bind_some]
    dsimp only
    rw [if_pos (show nI 0 = 0 from rfl)]
theorem set82_8 (v : Int32) : f_X2_set 82 (nI 8) v (mk σ w u) = some (mk σ w u) := by
  unfold f_X2_set f_X2_set_20
  rw [C_g zC82, if_neg (by decide), C_R zC82, Option.bind_some, C_L zC82, Option.bind_some, if_pos (nI_le (by omega) (by omega))]
theorem mud_l : ∀ d j Q K σ N, j + d = 9 → CG σ T n K → CB σ Q P → Q 4 = j → 12 < N + j → match md9 T n d j Q K with
  | .inl (f, p) => d ≠ 0 → RN (fun τ => Fr Wrl σ τ ∧ CF τ f p) w u (lp bmd N (80, nI j, mk σ w u))
  | .inr (Q1, K1) => RN (fun τ => Fr Wrl σ τ ∧ CG τ T n K1 ∧ CB τ Q1 P ∧ τ 80 10 = σ 80 10) w u (lp bmd N (80, nI j, mk σ w u)) := by
  intro d
  induction d with
  | zero => intro j Q K σ N ha cg cb hj hN; exact fun h => absurd rfl h
  | succ d ih =>
    intro j Q K σ N ha cg cb hj hN
    obtain ⟨N, rfl⟩ : ∃ M, N = M + 1 := ⟨N - 1, by omega⟩
    obtain ⟨N, rfl⟩ : ∃ M, N = M + 1 := ⟨N - 1, by omega⟩
    have bad : ∀ τ f p x, Fr Wrd σ τ → CF τ f p → RN (fun τ => Fr Wrl σ τ ∧ CF τ f p) w u ((f_X2_set 82 (nI j) x (mk τ w u)).bind fun r4 => (rd_R r4 80 5 0).bind fun v5 => (wr_I r4 v5 1 4 (nI j + 1)).bind fun h6 => lp bmd (N + 1) (80, nI j + 1, h6)) := by
      intro τ f p x fr cf
      have hs : ∃ τ2, Fr (fun q k => q = 83) τ τ2 ∧ f_X2_set 82 (nI j) x (mk τ w u) = some (mk τ2 w u) := by
        by_cases c8 : j < 8
        · exact ⟨_, Fr_s rfl, zs82 c8⟩
        · have : j = 8 := by omega
          subst this
          exact ⟨τ, Fr_r _ _, set82_8 x⟩
      obtain ⟨τ2, fr2, e2⟩ := hs
      have fr3 : Fr (fun q k => q = 81 ∧ k = 4) τ2 (s2 τ2 81 4 (nI j + 1)) := Fr_s ⟨rfl, rfl⟩
      have cf3 := CF_F (CF_F cf fr2 (fun q k e => by omega)) fr3 (fun q k e => by omega)
      rw [e2, Option.bind_some, zr80_0, Option.bind_some, zw81_4, Option.bind_some, mud_n cf3]
      exact ⟨_, ⟨Fr_t (Wrd_l fr) (Fr_t (Fr_m fr2 (fun q k e => by unfold Wrl; omega)) (Fr_m fr3 (fun q k e => by unfold Wrl; omega))), cf3⟩, rfl⟩
    rw [bmd_1]
    unfold f_X5_readMuds_2 md9
    rw [if_neg (show ¬ (8 : Int32) < nI j from nI_nlt (a := 8) (by omega) (by decide)), isNN_f cg (by omega), Option.bind_some]
    dsimp only
    by_cases c : j = 0 ∨ K.2.2 = 1
    · rw [if_pos c, if_neg (show ¬ nI 1 = 0 by decide)]
      by_cases c8 : j = 8
      · have hk : K.2.2 = 1 := by omega
        obtain ⟨τ, ⟨fr, cf⟩, e1⟩ := fail_G (w := w) (u := u) cg (f := 2) (by omega) (by omega)
        obtain ⟨v, e2⟩ := take_n (w := w) (u := u) (a := 0) (b := 9) cf
        rw [if_pos hk, if_pos (Or.inl c8), if_neg (show ¬ nI j < 8 from nI_nlt (b := 8) (by omega) (by omega)), show f_X5_fail 80 2 (mk σ w u) = some (mk τ w u) from e1, Option.bind_some]
        unfold f_X5_readMuds_27
        rw [zr80_0, Option.bind_some, zr81_5, Option.bind_some, e2, Option.bind_some]
        dsimp only
        exact fun _ => bad τ 2 K.1 v fr cf
      · rw [if_pos (show nI j < 8 from (nI_ltI (b := 8) (by omega) (by decide)).mpr (by omega))]
        unfold f_X5_readMuds_27
        rw [zr80_0, Option.bind_some, zr81_5, Option.bind_some]
        have ht := take_9 (w := w) (u := u) cg (lo := 0) (hi := 9) (by omega) (by omega)
        unfold num9 at ht
        by_cases c1 : K.2.2 = 1
        · rw [if_pos c1] at ht ⊢
          by_cases c2 : j = 8 ∨ 4 < K.2.1 - K.1 ∨ 9 < vl T K.1 (K.2.1 - K.1)
          · rw [if_pos c2]
            rw [if_neg (by omega)] at ht
            obtain ⟨τ, ⟨fr, cf⟩, e1⟩ := ht
            rw [show f_X5_take 80 0 9 (mk σ w u) = some (nI 0, mk τ w u) from e1, Option.bind_some]
            dsimp only
            exact fun _ => bad τ 2 K.1 (nI 0) fr cf
          · rw [if_neg c2]
            rw [if_pos (by omega)] at ht
            obtain ⟨τ, ⟨fr, cg1⟩, e1⟩ := ht
            obtain ⟨v, hv⟩ : ∃ v, v = vl T K.1 (K.2.1 - K.1) := ⟨_, rfl⟩
            rw [← hv] at c2 e1 ⊢
            have cb1 := CB_F cb fr (fun q k e => by unfold Wrd at e; omega)
            have f3 : Fr (fun q k => q = 83 ∨ (q = 81 ∧ k = 4)) τ (s2 (s2 τ 83 j (nI v)) 81 4 (nI (j + 1))) := Fr_st (Fr_s (Or.inl rfl)) (Or.inr ⟨rfl, rfl⟩)
            have cb3 : CB (s2 (s2 τ 83 j (nI v)) 81 4 (nI (j + 1))) (un (un Q (5 + j) v) 4 (j + 1)) P := by
              obtain ⟨d0, d1, d2, d3, d4, d5, d6, d7, d8, d9⟩ := cb1
              have g : ∀ q k, q ≠ 83 → ¬ (q = 81 ∧ k = 4) → (s2 (s2 τ 83 j (nI v)) 81 4 (nI (j + 1))) q k = τ q k := fun q k x1 x2 => by rw [s2_off x2, s2_off (by omega)]
              have o : ∀ k, k ≠ 4 → ¬ (5 ≤ k ∧ k < 13) → un (un Q (5 + j) v) 4 (j + 1) k = Q k := fun k x1 x2 => by rw [un_off x1, un_off (by omega)]
              refine ⟨?_, ?_, ?_, ?_, ?_, ?_, ?_, ?_, ?_, ?_⟩
              · rw [g _ _ (by omega) (by omega), d0]; unfold bq; rw [o 0 (by omega) (by omega)]
              · rw [g _ _ (by omega) (by omega), d1, o 1 (by omega) (by omega)]
              · rw [g _ _ (by omega) (by omega), d2, o 2 (by omega) (by omega)]
              · rw [g _ _ (by omega) (by omega), d3]; unfold sq3; rw [o 3 (by omega) (by omega)]
              · rw [s2_at rfl rfl, un_at rfl]
              · intro i hi
                rw [un_at rfl] at hi
                rw [s2_off (by omega), un_off (by omega)]
                by_cases ci : i = j
                · rw [s2_at rfl ci, un_at (by omega)]
                · rw [s2_off (by omega), un_off (by omega), d5 i (by omega)]
              · exact ⟨by rw [g _ _ (by omega) (by omega)]; exact d6.1, fun i k m h => by rw [g _ _ (by omega) (by omega)]; exact d6.2 i k m h⟩
              · rw [g _ _ (by omega) (by omega)]; exact d7
              · intro i hi
                obtain ⟨x1, x2, x3, x4⟩ := d8 i hi
                rw [g _ _ (by omega) (by omega), g _ _ (by omega) (by omega), g _ _ (by omega) (by omega), g _ _ (by omega) (by omega), o (13 + i) (by omega) (by omega), o (21 + i) (by omega) (by omega), o (29 + i) (by omega) (by omega)]
                exact ⟨x1, x2, x3, x4⟩
              · rw [g _ _ (by omega) (by omega), d9, o 37 (by omega) (by omega)]
            have h9 := ih (j + 1) (un (un Q (5 + j) v) 4 (j + 1)) (nxt T n K) (s2 (s2 τ 83 j (nI v)) 81 4 (nI (j + 1))) (N + 1) (by omega) (CG_F cg1 f3 (fun q k e => by omega)) cb3 (un_at rfl) (by omega)
            rw [show f_X5_take 80 0 9 (mk σ w u) = some (nI v, mk τ w u) from e1, Option.bind_some]
            dsimp only
            rw [zs82 (by omega), Option.bind_some, zr80_0, Option.bind_some, nI_1, zw81_4, Option.bind_some]
            have fa : Fr Wrl σ (s2 (s2 τ 83 j (nI v)) 81 4 (nI (j + 1))) := Fr_t (Wrd_l fr) (Fr_m f3 (fun q k e => by unfold Wrl; omega))
            match hq : md9 T n d (j + 1) (un (un Q (5 + j) v) 4 (j + 1)) (nxt T n K), h9 with
            | .inl (f, p), h9 =>
              intro _
              obtain ⟨τ2, ⟨fr2, cf2⟩, e2⟩ := h9 (by omega)
              exact ⟨τ2, ⟨Fr_t fa fr2, cf2⟩, e2⟩
            | .inr (Q1, K1), h9 =>
              obtain ⟨τ2, ⟨fr2, cg2, cb2, t2⟩, e2⟩ := h9
              exact ⟨τ2, ⟨Fr_t fa fr2, cg2, cb2, by rw [t2, s2_off (by omega), s2_off (by omega), fr 80 10 (by unfold Wrd; omega)]⟩, e2⟩
        · rw [if_neg c1] at ht ⊢
          rw [if_pos (by omega)]
          obtain ⟨τ, ⟨fr, cf⟩, e1⟩ := ht
          rw [show f_X5_take 80 0 9 (mk σ w u) = some (nI 0, mk τ w u) from e1, Option.bind_some]
          dsimp only
          exact fun _ => bad τ 1 K.1 (nI 0) fr cf
    · unfold f_X5_readMuds_61
      rw [if_neg (show ¬ K.2.2 = 1 by omega), if_neg (show ¬ j = 0 by omega), if_neg c, if_pos (show nI 0 = 0 from rfl)]
      exact ⟨σ, ⟨Fr_r _ _, cg, cb, rfl⟩, rfl⟩
theorem end_1 (fr : Fr Wrm σ τ) (cg : CG τ T n K) (cl : CL τ Q P) (hm : mb8 τ) : lq T n σ w u (sem9 T n (.inr (Q, P, K))) (f_X5_readLine_143 80 (mk τ w u)) := by
  unfold f_X5_readLine_143 sem9
  by_cases c : K.2.2 = 3 ∧ T K.1 = 59
  · obtain ⟨τ2, ⟨fr2, cg2⟩, e2⟩ := pass_1 (w := w) (u := u) (c := 59) (by decide) cg c
    simp only [if_pos c]
    rw [show f_X5_pass 80 59 (mk τ w u) = some (mk τ2 w u) from e2, Option.bind_some]
    exact ⟨τ2, ⟨Fr_t fr (Wl_m (Wrd_l fr2)), cg2, CB_F cl.1 fr2 (fun q k e => by unfold Wrd at e; omega), by rw [fr2 80 10 (by unfold Wrd; omega)]; exact cl.2⟩, rfl⟩
  · obtain ⟨τ2, ⟨fr2, cf2⟩, e2⟩ := pass_0 (w := w) (u := u) (c := 59) (by decide) cg c
    simp only [if_neg c]
    rw [show f_X5_pass 80 59 (mk τ w u) = some (mk τ2 w u) from e2, Option.bind_some]
    exact ⟨τ2, ⟨Fr_t fr (Wl_m (Wrd_l fr2)), cf2, mb8_F hm (Wrd_l fr2)⟩, rfl⟩
theorem end_0 {f p : Nat} (fr : Fr Wrm σ τ) (cf : CF τ f p) (hm : mb8 τ) : lq T n σ w u (sem9 T n (.inl (f, p))) (f_X5_readLine_143 80 (mk τ w u)) := by
  unfold f_X5_readLine_143
  rw [pass_n cf, Option.bind_some]
  exact ⟨τ, ⟨fr, cf, hm⟩, rfl⟩
theorem end_1' (h0 : mb8 σ) (fr : Fr Wrl σ τ) (cg : CG τ T n K) (cl : CL τ Q P) : lq T n σ w u (sem9 T n (.inr (Q, P, K))) (f_X5_readLine_143 80 (mk τ w u)) := end_1 (Wl_m fr) cg cl (mb8_F h0 fr)
theorem end_0' (h0 : mb8 σ) {f p : Nat} (fr : Fr Wrl σ τ) (cf : CF τ f p) : lq T n σ w u (sem9 T n (.inl (f, p))) (f_X5_readLine_143 80 (mk τ w u)) := end_0 (Wl_m fr) cf (mb8_F h0 fr)
theorem end_b {x : LnR} {A : Option hp_H} (hw : ∀ Q P K, x = .inr (Q, P, K) → WQ Q P) (h : lq T n σ w u x A) : lq T n σ w u (sem9 T n x) (A.bind fun r => f_X5_readLine_143 80 r) := by
  match x, h, hw with
  | .inl (f, p), ⟨τ, ⟨fr, cf, hm⟩, e⟩, _ => rw [e, Option.bind_some]; exact end_0 fr cf hm
  | .inr (Q, P, K), ⟨τ, ⟨fr, cg, cl⟩, e⟩, hw => rw [e, Option.bind_some]; exact end_1 fr cg cl (CL_m cl (hw _ _ _ rfl))
theorem tb_t (Q : Nat → Nat) (P : List (Nat × Nat)) : (nI (told Q P) &&& 1 = 0 ↔ Q 0 = 0) ∧ (nI (told Q P) &&& 2 = 0 ↔ Q 3 = 0) ∧ (nI (told Q P) &&& 4 = 0 ↔ Q 4 = 0) ∧ (nI (told Q P) &&& 8 = 0 ↔ P = []) := by
  obtain ⟨t1, t2, t3, t4, -⟩ := tb_all (fg (Q 0)) (fg_lt _) (fg (Q 3)) (fg_lt _) (fg (Q 4)) (fg_lt _) (fp9 P) (fp_lt _)
  have hf : ∀ x, fg x = 0 ↔ x = 0 := fun x => by unfold fg; split <;> omega
  have hp : fp9 P = 0 ↔ P = [] := by
    unfold fp9
    split
    · next h => exact ⟨fun _ => h, fun _ => rfl⟩
    · next h => exact ⟨fun e => by omega, fun e => absurd e h⟩
  exact ⟨by rw [← hf (Q 0)]; exact t1, by rw [← hf (Q 3)]; exact t2, by rw [← hf (Q 4)]; exact t3, by rw [← hp]; exact t4⟩
theorem beats_f (cg : CG σ T n K) (cl : CL σ Q P) (wq : WQ Q P) : lq T n σ w u (sem9 T n (if Q 0 ≠ 0 then .inl (5, K.1) else match num9 T n 4 12 (nxt T n K) with
    | .inl q => .inl q
    | .inr (a, K1) => .inr (un Q 0 a, P, K1))) ((f_X5_passOnce 80 1 (mk σ w u)).bind fun r16 => (rd_R r16 80 5 0).bind fun v17 => (f_X5_take 80 4 12 r16).bind fun r18 => (wr_I r18.2 v17 1 0 r18.1).bind fun h19 => f_X5_readLine_143 80 h19) := by
  obtain ⟨tb1, -⟩ := tb_t Q P
  have wf : ∀ (τ : Nat → Nat → Int32) (x : Int32), Fr (fun q k => q = 81 ∧ k = 0) τ (s2 τ 81 0 x) := fun τ x => Fr_s ⟨rfl, rfl⟩
  by_cases c : Q 0 = 0
  · obtain ⟨-, -, -, -, to1, -⟩ := tb_all (fg (Q 0)) (fg_lt _) (fg (Q 3)) (fg_lt _) (fg (Q 4)) (fg_lt _) (fp9 P) (fp_lt _)
    obtain ⟨τ, ⟨fr, cg1, t1⟩, e1⟩ := once_1 (w := w) (u := u) cg cl.2 (tb1.mpr c) to1
    have cb1 := CB_F cl.1 fr (fun q k e => by unfold Wpo at e; omega)
    rw [if_neg (fun h => h c), e1, Option.bind_some, zr80_0, Option.bind_some]
    have ht := take_9 (w := w) (u := u) cg1 (lo := 4) (hi := 12) (by omega) (by omega)
    have hg := num9_g (lo := 4) (hi := 12) cg.2.2.2.2.2.2.2 (K := nxt T n K) (T := T) ⟨cg1.2.2.2.2.2.1, cg1.2.2.2.2.2.2.1⟩
    match hr : num9 T n 4 12 (nxt T n K), ht, hg with
    | .inl (f, p), ht, hg =>
      obtain ⟨τ2, ⟨fr2, cf2⟩, e2⟩ := ht
      rw [show f_X5_take 80 4 12 (mk τ w u) = some (nI 0, mk τ2 w u) from e2, Option.bind_some]
      dsimp only
      rw [zw81_0, Option.bind_some]
      exact end_0' (CL_m cl wq) (Fr_t (Wpo_l fr) (Fr_t (Wrd_l fr2) (Fr_m (wf τ2 _) (fun q k e => by unfold Wrl; omega)))) (CF_F cf2 (wf τ2 _) (fun q k e => by omega))
    | .inr (a, K1), ht, hg =>
      obtain ⟨τ2, ⟨fr2, cg2⟩, e2⟩ := ht
      obtain ⟨ha, -⟩ := hg
      rw [show f_X5_take 80 4 12 (mk τ w u) = some (nI a, mk τ2 w u) from e2, Option.bind_some]
      dsimp only
      rw [zw81_0, Option.bind_some]
      refine end_1' (CL_m cl wq) (Fr_t (Wpo_l fr) (Fr_t (Wrd_l fr2) (Fr_m (wf τ2 _) (fun q k e => by unfold Wrl; omega)))) (CG_F cg2 (wf τ2 _) (fun q k e => by omega)) ⟨?_, ?_⟩
      · obtain ⟨d0, d1, d2, d3, d4, d5, d6, d7, d8, d9⟩ := CB_F cb1 fr2 (fun q k e => by unfold Wrd at e; omega)
        refine ⟨?_, ?_, ?_, ?_, ?_, ?_, CR_F d6 (wf τ2 _) (fun q k e => by omega), ?_, ?_, ?_⟩
        · rw [s2_at rfl rfl]; unfold bq; rw [un_at rfl, if_neg (by omega)]
        · rw [s2_off (by omega), un_off (by omega)]; exact d1
        · rw [s2_off (by omega), un_off (by omega)]; exact d2
        · rw [s2_off (by omega), d3]; unfold sq3; rw [un_off (by omega)]
        · rw [s2_off (by omega), un_off (by omega)]; exact d4
        · intro j hj
          rw [un_off (by omega)] at hj
          rw [s2_off (by omega), un_off (by omega)]; exact d5 j hj
        · rw [s2_off (by omega)]; exact d7
        · intro i hi
          rw [s2_off (by omega), s2_off (by omega), s2_off (by omega), s2_off (by omega), un_off (by omega), un_off (by omega), un_off (by omega)]; exact d8 i hi
        · rw [s2_off (by omega), un_off (by omega)]; exact d9
      · rw [s2_off (by omega), fr2 80 10 (by unfold Wrd; omega), t1]
        unfold told
        rw [un_at rfl, un_off (by omega), un_off (by omega), fg_1 (x := a) (by omega)]
  · obtain ⟨τ, ⟨fr, cf⟩, e1⟩ := once_0 (w := w) (u := u) (b := 1) cg cl.2 (fun h => c (tb1.mp h))
    obtain ⟨v, e2⟩ := take_n (w := w) (u := u) (a := 4) (b := 12) cf
    rw [if_pos c, e1, Option.bind_some, zr80_0, Option.bind_some, e2, Option.bind_some]
    dsimp only
    rw [zw81_0, Option.bind_some]
    exact end_0' (CL_m cl wq) (Fr_t (Wpo_l fr) (Fr_m (wf τ _) (fun q k e => by unfold Wrl; omega))) (CF_F cf (wf τ _) (fun q k e => by omega))
theorem slack_f (cg : CG σ T n K) (cl : CL σ Q P) (wq : WQ Q P) : lq T n σ w u (sem9 T n (if Q 3 ≠ 0 then .inl (5, K.1) else match num9 T n 0 12 (nxt T n K) with
    | .inl q => .inl q
    | .inr (a, K1) => .inr (un Q 3 (a + 1), P, K1))) ((f_X5_passOnce 80 2 (mk σ w u)).bind fun r12 => (rd_R r12 80 5 0).bind fun v13 => (f_X5_take 80 0 12 r12).bind fun r14 => (wr_I r14.2 v13 1 3 r14.1).bind fun h15 => f_X5_readLine_143 80 h15) := by
  obtain ⟨-, tb1, -⟩ := tb_t Q P
  have wf : ∀ (τ : Nat → Nat → Int32) (x : Int32), Fr (fun q k => q = 81 ∧ k = 3) τ (s2 τ 81 3 x) := fun τ x => Fr_s ⟨rfl, rfl⟩
  by_cases c : Q 3 = 0
  · obtain ⟨-, -, -, -, -, to1, -⟩ := tb_all (fg (Q 0)) (fg_lt _) (fg (Q 3)) (fg_lt _) (fg (Q 4)) (fg_lt _) (fp9 P) (fp_lt _)
    obtain ⟨τ, ⟨fr, cg1, t1⟩, e1⟩ := once_1 (w := w) (u := u) cg cl.2 (tb1.mpr c) to1
    have cb1 := CB_F cl.1 fr (fun q k e => by unfold Wpo at e; omega)
    rw [if_neg (fun h => h c), e1, Option.bind_some, zr80_0, Option.bind_some]
    have ht := take_9 (w := w) (u := u) cg1 (lo := 0) (hi := 12) (by omega) (by omega)
    match hr : num9 T n 0 12 (nxt T n K), ht with
    | .inl (f, p), ht =>
      obtain ⟨τ2, ⟨fr2, cf2⟩, e2⟩ := ht
      rw [show f_X5_take 80 0 12 (mk τ w u) = some (nI 0, mk τ2 w u) from e2, Option.bind_some]
      dsimp only
      rw [zw81_3, Option.bind_some]
      exact end_0' (CL_m cl wq) (Fr_t (Wpo_l fr) (Fr_t (Wrd_l fr2) (Fr_m (wf τ2 _) (fun q k e => by unfold Wrl; omega)))) (CF_F cf2 (wf τ2 _) (fun q k e => by omega))
    | .inr (a, K1), ht =>
      obtain ⟨τ2, ⟨fr2, cg2⟩, e2⟩ := ht
      rw [show f_X5_take 80 0 12 (mk τ w u) = some (nI a, mk τ2 w u) from e2, Option.bind_some]
      dsimp only
      rw [zw81_3, Option.bind_some]
      refine end_1' (CL_m cl wq) (Fr_t (Wpo_l fr) (Fr_t (Wrd_l fr2) (Fr_m (wf τ2 _) (fun q k e => by unfold Wrl; omega)))) (CG_F cg2 (wf τ2 _) (fun q k e => by omega)) ⟨?_, ?_⟩
      · obtain ⟨d0, d1, d2, d3, d4, d5, d6, d7, d8, d9⟩ := CB_F cb1 fr2 (fun q k e => by unfold Wrd at e; omega)
        refine ⟨?_, ?_, ?_, ?_, ?_, ?_, CR_F d6 (wf τ2 _) (fun q k e => by omega), ?_, ?_, ?_⟩
        · rw [s2_off (by omega), d0]; unfold bq; rw [un_off (by omega)]
        · rw [s2_off (by omega), un_off (by omega)]; exact d1
        · rw [s2_off (by omega), un_off (by omega)]; exact d2
        · rw [s2_at rfl rfl]; unfold sq3; rw [un_at rfl, if_neg (by omega)]; rfl
        · rw [s2_off (by omega), un_off (by omega)]; exact d4
        · intro j hj
          rw [un_off (by omega)] at hj
          rw [s2_off (by omega), un_off (by omega)]; exact d5 j hj
        · rw [s2_off (by omega)]; exact d7
        · intro i hi
          rw [s2_off (by omega), s2_off (by omega), s2_off (by omega), s2_off (by omega), un_off (by omega), un_off (by omega), un_off (by omega)]; exact d8 i hi
        · rw [s2_off (by omega), un_off (by omega)]; exact d9
      · rw [s2_off (by omega), fr2 80 10 (by unfold Wrd; omega), t1]
        unfold told
        rw [un_at rfl, un_off (by omega), un_off (by omega), fg_1 (x := a + 1) (by omega)]
  · obtain ⟨τ, ⟨fr, cf⟩, e1⟩ := once_0 (w := w) (u := u) (b := 2) cg cl.2 (fun h => c (tb1.mp h))
    obtain ⟨v, e2⟩ := take_n (w := w) (u := u) (a := 0) (b := 12) cf
    rw [if_pos c, e1, Option.bind_some, zr80_0, Option.bind_some, e2, Option.bind_some]
    dsimp only
    rw [zw81_3, Option.bind_some]
    exact end_0' (CL_m cl wq) (Fr_t (Wpo_l fr) (Fr_m (wf τ _) (fun q k e => by unfold Wrl; omega))) (CF_F cf (wf τ _) (fun q k e => by omega))
theorem muds_f (cg : CG σ T n K) (cl : CL σ Q P) (wq : WQ Q P) : lq T n σ w u (sem9 T n (if Q 4 ≠ 0 then .inl (5, K.1) else match md9 T n 9 0 Q (nxt T n K) with
    | .inl q => .inl q
    | .inr (Q1, K1) => .inr (Q1, P, K1))) ((f_X5_passOnce 80 4 (mk σ w u)).bind fun r10 => (f_X5_readMuds 80 r10).bind fun r11 => f_X5_readLine_143 80 r11) := by
  obtain ⟨-, -, tb1, -⟩ := tb_t Q P
  by_cases c : Q 4 = 0
  · obtain ⟨-, -, -, -, -, -, to1, -⟩ := tb_all (fg (Q 0)) (fg_lt _) (fg (Q 3)) (fg_lt _) (fg (Q 4)) (fg_lt _) (fp9 P) (fp_lt _)
    obtain ⟨τ, ⟨fr, cg1, t1⟩, e1⟩ := once_1 (w := w) (u := u) cg cl.2 (tb1.mpr c) to1
    have cb1 := CB_F cl.1 fr (fun q k e => by unfold Wpo at e; omega)
    rw [if_neg (fun h => h c), e1, Option.bind_some]
    unfold f_X5_readMuds
    rw [zg80, bmd_l]
    have ht := mud_l (w := w) (u := u) (P := P) 9 0 Q (nxt T n K) τ (99999 + 1) (by omega) cg1 cb1 c (by omega)
    have hg := md9_g (P := P) cg.2.2.2.2.2.2.2 9 0 Q (nxt T n K) (by omega) ⟨cg1.2.2.2.2.2.1, cg1.2.2.2.2.2.2.1⟩ wq (Or.inl rfl)
    match hr : md9 T n 9 0 Q (nxt T n K), ht, hg with
    | .inl (f, p), ht, hg =>
      obtain ⟨τ2, ⟨fr2, cf2⟩, e2⟩ := ht (by omega)
      rw [show lp bmd (99999 + 1) (80, 0, mk τ w u) = some (mk τ2 w u) from e2, Option.bind_some]
      exact end_0' (CL_m cl wq) (Fr_t (Wpo_l fr) fr2) cf2
    | .inr (Q1, K1), ht, hg =>
      obtain ⟨τ2, ⟨fr2, cg2, cb2, t2⟩, e2⟩ := ht
      obtain ⟨-, -, -, g4, go⟩ := hg
      rw [show lp bmd (99999 + 1) (80, 0, mk τ w u) = some (mk τ2 w u) from e2, Option.bind_some]
      refine end_1' (CL_m cl wq) (Fr_t (Wpo_l fr) fr2) cg2 ⟨cb2, ?_⟩
      rw [t2, t1]
      unfold told
      rw [go 0 (by omega) (by omega), go 3 (by omega) (by omega), fg_1 g4]
  · obtain ⟨τ, ⟨fr, cf⟩, e1⟩ := once_0 (w := w) (u := u) (b := 4) cg cl.2 (fun h => c (tb1.mp h))
    rw [if_pos c, e1, Option.bind_some]
    unfold f_X5_readMuds
    rw [zg80, bmd_l, mud_n cf, Option.bind_some]
    exact end_0' (CL_m cl wq) (Wpo_l fr) cf
theorem hears_f (cg : CG σ T n K) (cl : CL σ Q P) (wq : WQ Q P) : lq T n σ w u (sem9 T n (if P ≠ [] then .inl (5, K.1) else match ps T n FU 6 0 (nxt T n K) with
    | some (.inr (c, K1)) => .inr (Q, c, K1)
    | some (.inl q) => .inl q
    | none => .inl (1, 0))) ((f_X5_passOnce 80 8 (mk σ w u)).bind fun r8 => (r_X5_readExpr 8 80 0 r8).bind fun r9 => f_X5_readLine_143 80 r9) := by
  obtain ⟨-, -, -, tb1⟩ := tb_t Q P
  by_cases c : P = []
  · obtain ⟨-, -, -, -, -, -, -, to1⟩ := tb_all (fg (Q 0)) (fg_lt _) (fg (Q 3)) (fg_lt _) (fg (Q 4)) (fg_lt _) (fp9 P) (fp_lt _)
    obtain ⟨τ, ⟨fr, cg1, t1⟩, e1⟩ := once_1 (w := w) (u := u) cg cl.2 (tb1.mpr c) to1
    have cb1 := CB_F cl.1 fr (fun q k e => by unfold Wpo at e; omega)
    have hn := cg.2.2.2.2.2.2.2
    obtain ⟨x, hx, gx⟩ := ps_all hn FU 6 0 (nxt T n K) ⟨cg1.2.2.2.2.2.1, cg1.2.2.2.2.2.2.1⟩ (by omega) (by omega) (by have : rk 6 = 7 := rfl; have : FU = 8000 := rfl; omega)
    have cr1 : CR τ [] := by rw [← c]; exact cb1.2.2.2.2.2.2.1
    have hp := expr_f (w := w) (u := u) hx cg1 cr1
    rw [if_neg (fun h => h c), e1, Option.bind_some, hx]
    match x, hp, gx with
    | .inl (f, p), hp, gx =>
      obtain ⟨τ2, ⟨fr2, cf2⟩, e2⟩ := hp
      rw [e2, Option.bind_some]
      exact end_0' (CL_m cl wq) (Fr_t (Wpo_l fr) (Wx_l fr2)) cf2
    | .inr (cs, K1), hp, gx =>
      obtain ⟨-, τ2, ⟨fr2, cg2, cr2⟩, e2⟩ := hp
      have hne : cs ≠ [] := (gx.2.2.1 rfl).2
      rw [e2, Option.bind_some]
      refine end_1' (CL_m cl wq) (Fr_t (Wpo_l fr) (Wx_l fr2)) cg2 ⟨?_, ?_⟩
      · obtain ⟨d0, d1, d2, d3, d4, d5, d6, d7, d8, d9⟩ := cb1
        have g : ∀ q k, q ≠ 80 → q ≠ 84 → q ≠ 88 → τ2 q k = τ q k := fun q k x1 x2 x3 => fr2 q k (by unfold Wx; omega)
        exact ⟨by rw [g _ _ (by omega) (by omega) (by omega)]; exact d0, by rw [g _ _ (by omega) (by omega) (by omega)]; exact d1, by rw [g _ _ (by omega) (by omega) (by omega)]; exact d2, by rw [g _ _ (by omega) (by omega) (by omega)]; exact d3, by rw [g _ _ (by omega) (by omega) (by omega)]; exact d4, fun j hj => by rw [g _ _ (by omega) (by omega) (by omega)]; exact d5 j hj, cr2, by rw [g _ _ (by omega) (by omega) (by omega)]; exact d7, fun i hi => by rw [g _ _ (by omega) (by omega) (by omega), g _ _ (by omega) (by omega) (by omega), g _ _ (by omega) (by omega) (by omega), g _ _ (by omega) (by omega) (by omega)]; exact d8 i hi, by rw [fr2 80 11 (by unfold Wx; omega)]; exact d9⟩
      · rw [fr2 80 10 (by unfold Wx; omega), t1]
        unfold told
        rw [show fp9 cs = 1 from if_neg hne]
  · obtain ⟨τ, ⟨fr, cf⟩, e1⟩ := once_0 (w := w) (u := u) (b := 8) cg cl.2 (fun h => c (tb1.mp h))
    obtain ⟨τ2, ⟨fr2, cf2⟩, e2⟩ := in_expr (w := w) (u := u) (rec := r_X5_readExpr 7) (v := 0) cf (by omega)
    rw [if_pos c, e1, Option.bind_some, show r_X5_readExpr 8 80 0 (mk τ w u) = some (mk τ2 w u) from e2, Option.bind_some]
    exact end_0' (CL_m cl wq) (Fr_t (Wpo_l fr) (Wx_l fr2)) cf2
theorem readLine_f (cg : CG σ T n K) (cl : CL σ Q P) (wq : WQ Q P) (hk0 : K.2.2 ≠ 0) : lq T n σ w u (sem9 T n (cor9 T n Q P K)) (f_X5_readLine 80 (mk σ w u)) := by
  have hg := cor9_g cg.2.2.2.2.2.2.2 (T := T) (K := K) ⟨cg.2.2.2.2.2.1, cg.2.2.2.2.2.2.1⟩ wq hk0
  have hw : ∀ Q1 P1 K1, cor9 T n Q P K = .inr (Q1, P1, K1) → WQ Q1 P1 := fun Q1 P1 K1 h => by rw [h] at hg; exact hg.1
  unfold f_X5_readLine
  unfold cor9 at hw ⊢
  rw [zg80]
  by_cases c8 : kw T K = 8
  · rw [if_pos c8] at hw
    rw [if_pos c8, isw_1 (i := 7) (by decide) wd_man cg c8, Option.bind_some]
    dsimp only
    rw [if_neg (show ¬ nI 1 = 0 by decide)]
    exact end_b hw (readMan_f cg cl wq)
  · rw [if_neg c8, isw_0 (i := 7) (by decide) wd_man cg c8, Option.bind_some]
    dsimp only
    rw [if_pos (show nI 0 = 0 from rfl)]
    by_cases c9 : kw T K = 9
    · rw [if_neg c8, if_pos c9] at hw
      rw [if_pos c9, isw_1 (i := 8) (by decide) wd_row cg c9, Option.bind_some]
      dsimp only
      rw [if_neg (show ¬ nI 1 = 0 by decide)]
      exact end_b hw (readRow_f cg cl wq)
    · rw [if_neg c9, isw_0 (i := 8) (by decide) wd_row cg c9, Option.bind_some]
      dsimp only
      rw [if_pos (show nI 0 = 0 from rfl)]
      by_cases c7 : kw T K = 7
      · rw [if_pos c7, isw_1 (i := 6) (by decide) wd_beats cg c7, Option.bind_some]
        dsimp only
        rw [if_neg (show ¬ nI 1 = 0 by decide)]
        exact beats_f cg cl wq
      · rw [if_neg c7, isw_0 (i := 6) (by decide) wd_beats cg c7, Option.bind_some]
        dsimp only
        rw [if_pos (show nI 0 = 0 from rfl)]
        by_cases c10 : kw T K = 10
        · rw [if_pos c10, isw_1 (i := 9) (by decide) wd_slack cg c10, Option.bind_some]
          dsimp only
          rw [if_neg (show ¬ nI 1 = 0 by decide)]
          exact slack_f cg cl wq
        · rw [if_neg c10, isw_0 (i := 9) (by decide) wd_slack cg c10, Option.bind_some]
          dsimp only
          rw [if_pos (show nI 0 = 0 from rfl)]
          by_cases c3 : kw T K = 3
          · rw [if_pos c3, isw_1 (i := 2) (by decide) wd_mud cg c3, Option.bind_some]
            dsimp only
            rw [if_neg (show ¬ nI 1 = 0 by decide)]
            exact muds_f cg cl wq
          · rw [if_neg c3, isw_0 (i := 2) (by decide) wd_mud cg c3, Option.bind_some]
            dsimp only
            rw [if_pos (show nI 0 = 0 from rfl)]
            by_cases c11 : kw T K = 11
            · rw [if_pos c11, isw_1 (i := 10) (by decide) wd_hears cg c11, Option.bind_some]
              dsimp only
              rw [if_neg (show ¬ nI 1 = 0 by decide)]
              exact hears_f cg cl wq
            · rw [if_neg c11, isw_0 (i := 10) (by decide) wd_hears cg c11, Option.bind_some]
              dsimp only
              obtain ⟨τ, ⟨fr, cf⟩, e1⟩ := fail_G (w := w) (u := u) cg (f := 1) (by omega) (by omega)
              rw [if_pos (show nI 0 = 0 from rfl), show f_X5_fail 80 1 (mk σ w u) = some (mk τ w u) from e1, Option.bind_some]
              exact end_0' (CL_m cl wq) (Wrd_l fr) cf
end CT9
