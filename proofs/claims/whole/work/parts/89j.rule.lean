/-! L3: the reference reads a rule as it is meant -/
theorem dr_ct (b : Nat) : ∀ W, List.count 14 (dr b W).2 = List.count 14 W := by
  intro W
  induction W with
  | nil => rfl
  | cons x W ih =>
    unfold dr
    split
    · next h =>
      rw [List.count_cons, if_neg (by simp; omega), ih]
      rfl
    · rfl
theorem dr_mem (b : Nat) (W : List Nat) : (∀ x, x ∈ (dr b W).1 → x ∈ W) ∧ (∀ x, x ∈ (dr b W).2 → x ∈ W) ∧ (dr b W).1.length + (dr b W).2.length = W.length := by
  have h := dr_e b W
  refine ⟨fun x hx => ?_, fun x hx => ?_, ?_⟩
  · rw [← h]; exact List.mem_append.mpr (Or.inl hx)
  · rw [← h]; exact List.mem_append.mpr (Or.inr hx)
  · have := congrArg List.length h
    rw [List.length_append] at this
    exact this
section RY
variable {σ τ : Nat → Nat → Int32} {w u : Int64} {T : Nat → Nat} {n : Nat} {K : Nat × Nat × Nat} {F : List Int32} {W : List Nat} {D : List Bool} {C : List (Nat × Nat)} {s t : SyS} {x : Option hp_H} {k0 k1 : Nat}
def Sm (τ : Nat → Nat → Int32) (w : Int64) (T : Nat → Nat) (n : Nat) (C : List (Nat × Nat)) (W : List Nat) (D : List Bool) (K : Nat × Nat × Nat) : Prop := RG τ w T n K ∧ RS τ (fl C) W D ∧ (fl C).length + W.length + 2 ≤ 2 * K.1 ∧ W.length ≤ K.1 ∧ D.length = List.count 14 W + 1 ∧ D.length ≤ 6
def SF (τ : Nat → Nat → Int32) (f p : Nat) : Prop := RF τ f p ∧ ∃ F W D, RS τ F W D ∧ F.length + W.length ≤ 1398 ∧ W.length ≤ 700
def OQ (T : Nat → Nat) (n : Nat) (τ0 : Nat → Nat → Int32) (k0 : Nat) (s : SyS) (u : Int64) (x : Option hp_H) : Prop := RW (fun τ w => Fr Wex τ0 τ ∧ ((∃ C W D K', rch T n s (100, C, W, D, K') ∧ Sm τ w T n C W D K' ∧ k0 < K'.1) ∨ ∃ f p, rch T n s (fl9 f p) ∧ SF τ f p)) u x
theorem OQ_t (fr : Fr Wex σ τ) (hr : rch T n s t) (hk : k0 ≤ k1) (h : OQ T n τ k1 t u x) : OQ T n σ k0 s u x := by
  obtain ⟨τ', w', ⟨f2, h2⟩, e⟩ := h
  refine ⟨τ', w', ⟨Fr_t fr f2, ?_⟩, e⟩
  rcases h2 with ⟨C, W, D, K', a1, a2, a3⟩ | ⟨f, p, a1, a2⟩
  · exact Or.inl ⟨C, W, D, K', rch_t hr a1, a2, by omega⟩
  · exact Or.inr ⟨f, p, rch_t hr a1, a2⟩
theorem Sm_b (sm : Sm σ w T n C W D K) : K.1 ≤ n ∧ n ≤ 700 ∧ (K.2.2 ≠ 0 → K.1 < n ∧ K.1 < (nxt T n K).1 ∧ (nxt T n K).1 ≤ n) := by
  obtain ⟨⟨h1, h2, h3, h4, rt, ok, okl, hn⟩, -⟩ := sm
  have h9 := tok_ok (T := T) hn ok.2.1
  refine ⟨Nat.le_trans ok.1 ok.2.1, hn, fun h => ?_⟩
  have := ok.2.2.2.1 h
  have a1 : K.2.1 ≤ (nxt T n K).1 := h9.2
  have a2 : (nxt T n K).1 ≤ (nxt T n K).2.1 := h9.1.1
  have a3 : (nxt T n K).2.1 ≤ n := h9.1.2.1
  have a4 := ok.2.1
  omega
theorem SF_mk {f p : Nat} (rf : RF τ f p) (rs : RS τ F W D) (h1 : F.length + W.length ≤ 1398) (h2 : W.length ≤ 700) : SF τ f p := ⟨rf, F, W, D, rs, h1, h2⟩
theorem part_R (sm : Sm σ w T n C W D K) {m : Nat} (hm : m ≤ 7) (h14 : m = 0 ∨ kw T K ≠ 14) (hp : ¬ (K.2.2 = 3 ∧ T K.1 = 40)) : OQ T n σ K.1 (m, C, W, D, K) u (f_X11_part 118 (mk σ w u)) := by
  have hst : sst T n (m, C, W, D, K) = (if K.2.2 = 2 then (if 1 ≤ kw T K ∧ kw T K ≤ 6 then (100, C ++ [(2, kw T K - 1)], W, D, nxt T n K) else fl9 3 K.1)
    else if K.2.2 = 1 then (if 4 < K.2.1 - K.1 then fl9 2 K.1 else (100, C ++ [(1, vl T K.1 (K.2.1 - K.1))], W, D, nxt T n K))
    else fl9 1 K.1) := by
    unfold sst
    dsimp only
    rw [if_pos hm, if_neg (by omega), if_neg hp]
  obtain ⟨b1, b2, b3⟩ := Sm_b sm
  obtain ⟨rg, rs, l1, l2, l3, l4⟩ := sm
  obtain ⟨s1, s2', s3⟩ := srt_1 rg
  have rt := rg.2.2.2.2.1
  have good : ∀ a v, a ≤ 2 → K.2.2 ≠ 0 → sst T n (m, C, W, D, K) = (100, C ++ [(a, v)], W, D, nxt T n K) → ∀ τ2, Fr Wdr σ τ2 → RS τ2 (fl C ++ [nI a] ++ [nI v]) W D → OQ T n σ K.1 (m, C, W, D, K) u (f_X11_part_90 118 (mk τ2 w u)) := by
    intro a v ha hk he τ2 fr rs2
    obtain ⟨b4, b5, b6⟩ := b3 hk
    have rg2 := RG_F rg fr (fun q k e => by unfold Wdr at e; omega)
    obtain ⟨τ3, w3, ⟨fr3, rg3⟩, e3⟩ := goes_G (u := u) rg2
    unfold f_X11_part_90 f_X11_part_101
    rw [isGood_1 rg2.2.1, Option.bind_some]
    dsimp only
    rw [if_neg (show ¬ nI 1 = 0 by decide), e3, Option.bind_some]
    have ef : fl (C ++ [(a, v)]) = fl C ++ [nI a] ++ [nI v] := by
      rw [fl_a]
      show fl C ++ (if a ≤ 2 then [nI a, nI v] else [nI a]) = _
      rw [if_pos ha, List.append_assoc]
      rfl
    refine ⟨τ3, w3, ⟨Fr_t (Wdr_x fr) (Wgo_x fr3), Or.inl ⟨_, _, _, _, rch_1 he, ⟨rg3, ?_, ?_, ?_, l3, l4⟩, b5⟩⟩, rfl⟩
    · rw [ef]; exact RS_F rs2 fr3 (fun q k e => by unfold Wgo at e; omega)
    · rw [ef, List.length_append, List.length_append]; show (fl C).length + 1 + 1 + W.length + 2 ≤ _; omega
    · omega
  have bad : ∀ f, sst T n (m, C, W, D, K) = fl9 f K.1 → K.1 < n → ∀ τ1 τ2 a v, Fr Wgf σ τ1 → RF τ1 f K.1 → Fr Wdr τ1 τ2 → RS τ2 (fl C ++ [a] ++ [v]) W D → OQ T n σ K.1 (m, C, W, D, K) u (f_X11_part_90 118 (mk τ2 w u)) := by
    intro f he hk τ1 τ2 a v fr1 rf fr2 rs2
    have rf2 := RF_F rf fr2 (fun q k e => by unfold Wdr at e; omega)
    unfold f_X11_part_90 f_X11_part_101
    rw [isGood_0 rf2.1 rf2.2.2.1 rf2.2.2.2, Option.bind_some]
    dsimp only
    rw [if_pos (show nI 0 = 0 from rfl)]
    refine ⟨τ2, w, ⟨Fr_t (Wgf_x fr1) (Wdr_x fr2), Or.inr ⟨_, _, rch_1 he, SF_mk rf2 rs2 ?_ (by omega)⟩⟩, rfl⟩
    rw [List.length_append, List.length_append]
    show (fl C).length + 1 + 1 + W.length ≤ 1398
    omega
  have two : ∀ τ1 a v, RS τ1 (fl C) W D → K.1 < n → ∃ τ2 τ3, Fr Wdr τ1 τ2 ∧ f_X11_puts 118 a (mk τ1 w u) = some (mk τ2 w u) ∧ f_X11_puts 118 v (mk τ2 w u) = some (mk τ3 w u) ∧ Fr Wdr τ1 τ3 ∧ RS τ3 (fl C ++ [a] ++ [v]) W D := by
    intro τ1 a v rs1 hk
    obtain ⟨τ2, ⟨f2, r2⟩, e2⟩ := puts_f (w := w) (u := u) rs1 (by omega) a
    obtain ⟨τ3, ⟨f3, r3⟩, e3⟩ := puts_f (w := w) (u := u) r2 (by rw [List.length_append]; show (fl C).length + 1 < 1400; omega) v
    exact ⟨τ2, τ3, f2, e2, e3, Fr_t f2 f3, r3⟩
  unfold f_X11_part
  rw [zg118, isGood_1 rg.2.1, Option.bind_some]
  dsimp only
  rw [if_neg (show ¬ nI 1 = 0 by decide), zi118_16, Option.bind_some]
  by_cases c1 : K.2.2 = 1
  · obtain ⟨b4, b5, b6⟩ := b3 (by omega)
    rw [if_neg (by omega), if_pos c1] at hst
    rw [if_pos (s1.mpr c1), zi118_18, Option.bind_some, rt.2.2.2.1]
    have r19 : σ 118 19 = nI (vl T K.1 (K.2.1 - K.1)) := by rw [rt.2.2.2.2.1, if_pos c1]
    by_cases c4 : 4 < K.2.1 - K.1
    · rw [if_pos c4] at hst
      obtain ⟨τ1, ⟨fr1, rf⟩, e1⟩ := wrong_G (w := w) (u := u) rg (f := 2) (by omega) (by omega)
      obtain ⟨τ2, τ3, f2, e2, e3, f3, r3⟩ := two τ1 1 (σ 118 19) (RS_F rs fr1 (fun q k e => by unfold Wgf at e; omega)) b4
      rw [if_neg (show ¬ nI (K.2.1 - K.1) ≤ 4 from nI_ge (a := 4) c4 (by have := rg.2.2.2.2.2.1.2.1; omega)), show f_X11_wrong 118 2 (mk σ w u) = some (mk τ1 w u) from e1, Option.bind_some]
      unfold f_X11_part_29
      rw [e2, Option.bind_some, zi118_19, Option.bind_some, f2 118 19 (by unfold Wdr; omega), fr1 118 19 (by unfold Wgf; omega), e3, Option.bind_some]
      exact bad 2 hst b4 τ1 τ3 _ _ fr1 rf f3 r3
    · rw [if_neg c4] at hst
      obtain ⟨τ2, τ3, f2, e2, e3, f3, r3⟩ := two σ 1 (σ 118 19) rs b4
      rw [if_pos (show nI (K.2.1 - K.1) ≤ 4 from nI_le (b := 4) (by omega) (by decide))]
      unfold f_X11_part_29
      rw [e2, Option.bind_some, zi118_19, Option.bind_some, f2 118 19 (by unfold Wdr; omega), e3, Option.bind_some]
      rw [r19] at r3
      exact good 1 _ (by omega) (by omega) hst τ3 f3 r3
  · rw [if_neg (fun e => c1 (s1.mp e))]
    by_cases c2 : K.2.2 = 2
    · obtain ⟨b4, b5, b6⟩ := b3 (by omega)
      have hk14 := kw_le (T := T) K
      rw [if_pos c2] at hst
      rw [Option.bind_some, if_pos (s2'.mpr c2), rkw rg, Option.bind_some]
      dsimp only
      by_cases c3 : 1 ≤ kw T K ∧ kw T K ≤ 6
      · rw [if_pos c3] at hst
        obtain ⟨τ2, τ3, f2, e2, e3, f3, r3⟩ := two σ 2 (nI (kw T K - 1)) rs b4
        have eJ : nJ (kw T K) = nI (kw T K - 1) := nJ_pos (by omega)
        rw [eJ, if_neg (nI_pos (by omega)), if_pos (show nI (kw T K - 1) ≤ 5 from nI_le (b := 5) (by omega) (by decide))]
        unfold f_X11_part_72
        rw [e2, Option.bind_some, e3, Option.bind_some]
        exact good 2 _ (by omega) (by omega) hst τ3 f3 r3
      · rw [if_neg c3] at hst
        obtain ⟨τ1, ⟨fr1, rf⟩, e1⟩ := wrong_G (w := w) (u := u) rg (f := 3) (by omega) (by omega)
        obtain ⟨τ2, τ3, f2, e2, e3, f3, r3⟩ := two τ1 2 (nJ (kw T K)) (RS_F rs fr1 (fun q k e => by unfold Wgf at e; omega)) b4
        have h67 : OQ T n σ K.1 (m, C, W, D, K) u (f_X11_part_67 118 (nJ (kw T K)) (mk σ w u)) := by
          unfold f_X11_part_67 f_X11_part_72
          rw [show f_X11_wrong 118 3 (mk σ w u) = some (mk τ1 w u) from e1, Option.bind_some, e2, Option.bind_some, e3, Option.bind_some]
          exact bad 3 hst b4 τ1 τ3 _ _ fr1 rf f3 r3
        split
        · exact h67
        · next h0 =>
          rw [if_neg (fun e => by
            have hz : ∀ k, k ≤ 14 → ¬ nJ k < 0 → nJ k ≤ 5 → 1 ≤ k ∧ k ≤ 6 := by decide
            exact c3 (hz _ hk14 h0 e))]
          exact h67
    · rw [if_neg c2, if_neg c1] at hst
      obtain ⟨τ1, ⟨fr1, rf⟩, e1⟩ := wrong_G (w := w) (u := u) rg (f := 1) (by omega) (by omega)
      rw [Option.bind_some, if_neg (fun e => c2 (s2'.mp e)), show f_X11_wrong 118 1 (mk σ w u) = some (mk τ1 w u) from e1, Option.bind_some]
      unfold f_X11_part_90 f_X11_part_101
      rw [isGood_0 rf.1 rf.2.2.1 rf.2.2.2, Option.bind_some]
      dsimp only
      rw [if_pos (show nI 0 = 0 from rfl)]
      exact ⟨τ1, w, ⟨Wgf_x fr1, Or.inr ⟨_, _, rch_1 hst, SF_mk rf (RS_F rs fr1 (fun q k e => by unfold Wgf at e; omega)) (by omega) (by omega)⟩⟩, rfl⟩
def bp4 : (Nat × Int32 × Int32 × hp_H → Option hp_H) → Nat × Int32 × Int32 × hp_H → Option hp_H := fun k s => f_X11_operand_4 (fun a0 a1 a2 a3 => k (a0, a1, a2, a3)) s.1 s.2.1 s.2.2.1 s.2.2.2
def bp18 (k4 : Nat → Int32 → Int32 → hp_H → Option hp_H) : (Nat × Int32 × Int32 × hp_H → Option hp_H) → Nat × Int32 × Int32 × hp_H → Option hp_H := fun k s => f_X11_operand_18 k4 (fun a0 a1 a2 a3 => k (a0, a1, a2, a3)) s.1 s.2.1 s.2.2.1 s.2.2.2
def kp4 (N : Nat) : Nat → Int32 → Int32 → hp_H → Option hp_H := fun a0 a1 a2 a3 => lp bp4 N (a0, a1, a2, a3)
theorem bp4_1 {x0 : Nat} {x2 x3 : Int32} {h : hp_H} {N : Nat} : lp bp4 (N + 1) (x0, x2, x3, h) = f_X11_operand_4 (kp4 N) x0 x2 x3 h := rfl
theorem bp4_l {x0 : Nat} {x2 x3 : Int32} {h : hp_H} : l_X11_operand_4 x0 x2 x3 h = lp bp4 (99999 + 1) (x0, x2, x3, h) := rfl
theorem bp18_1 {k4 : Nat → Int32 → Int32 → hp_H → Option hp_H} {x0 : Nat} {x2 x3 : Int32} {h : hp_H} {N : Nat} : lp (bp18 k4) (N + 1) (x0, x2, x3, h) = f_X11_operand_18 k4 (fun a0 a1 a2 a3 => lp (bp18 k4) N (a0, a1, a2, a3)) x0 x2 x3 h := rfl
theorem bp18_l {k4 : Nat → Int32 → Int32 → hp_H → Option hp_H} {x0 : Nat} {x2 x3 : Int32} {h : hp_H} : l_X11_operand_18 k4 x0 x2 x3 h = lp (bp18 k4) (99999 + 1) (x0, x2, x3, h) := rfl
theorem kp4_1 {x0 : Nat} {x2 x3 : Int32} {h : hp_H} {N : Nat} : kp4 (N + 1) x0 x2 x3 h = f_X11_operand_4 (kp4 N) x0 x2 x3 h := rfl
theorem kp4_e {x0 : Nat} {x2 x3 : Int32} {h : hp_H} {N : Nat} : kp4 N x0 x2 x3 h = lp bp4 N (x0, x2, x3, h) := rfl
theorem f120_n {f p : Nat} (rf : RF σ f p) : f_X11_operand_120 118 (mk σ w u) = some (mk σ w u) := by
  unfold f_X11_operand_120 f_X11_part
  rw [zg118, isGood_0 rf.1 rf.2.2.1 rf.2.2.2, Option.bind_some]
  dsimp only
  rw [if_pos (show nI 0 = 0 from rfl), Option.bind_some]
theorem f4_n {f p : Nat} (rf : RF σ f p) {x2 x3 : Int32} (N : Nat) : lp bp4 (N + 1) (118, x2, x3, mk σ w u) = some (mk σ w u) := by
  rw [bp4_1]
  unfold f_X11_operand_4
  split
  · exact f120_n rf
  · rw [isGood_0 rf.1 rf.2.2.1 rf.2.2.2, Option.bind_some]
    dsimp only
    rw [if_pos (show nI 0 = 0 from rfl)]
    exact f120_n rf
theorem f18_n {f p : Nat} (rf : RF σ f p) {x2 x4 : Int32} (N N1 : Nat) : lp (bp18 (kp4 (N + 1))) (N1 + 1) (118, x2, x4, mk σ w u) = some (mk σ w u) := by
  rw [bp18_1]
  unfold f_X11_operand_18 f_X11_operand_75 f_X11_operand_95 f_X11_operand_96 f_X11_operand_117
  rw [isGood_0 rf.1 rf.2.2.1 rf.2.2.2, Option.bind_some]
  dsimp only
  rw [if_pos (show nI 0 = 0 from rfl), isGood_0 rf.1 rf.2.2.1 rf.2.2.2, Option.bind_some]
  dsimp only
  rw [if_pos (show nI 0 = 0 from rfl), if_pos rfl, kp4_e]
  exact f4_n rf N
theorem deeper_1 (rs : RS σ F W D) (hD : D.length < 6) : RN (fun τ => Fr Wdp σ τ ∧ RS τ F W (false :: D)) w u (f_X11_deeper 118 (mk σ w u)) := by
  obtain ⟨r1, r2, r3, r4, r5, r6, r7⟩ := rs
  refine ⟨s2 (s2 σ 118 30 (nI (D.length + 1))) 127 (D.length + 1) (nI 0), ⟨Fr_st (Fr_s (by unfold Wdp; omega)) (by unfold Wdp; omega), ?_, ?_, ?_, ?_, ?_, ⟨?_, ?_⟩, r7⟩, ?_⟩
  · rw [s2_off (by omega), s2_off (by omega)]; exact r1
  · intro j x h; rw [s2_off (by omega), s2_off (by omega)]; exact r2 j x h
  · rw [s2_off (by omega), s2_off (by omega)]; exact r3
  · exact WS_F W (fun k _ => by rw [s2_off (by omega), s2_off (by omega)]) r4
  · rw [s2_off (by omega), s2_at rfl rfl]; rfl
  · rw [s2_at rfl rfl]; rfl
  · exact DS_F D (fun k hk => by rw [s2_off (by omega), s2_off (by omega)]) r6
  · unfold f_X11_deeper
    rw [zg118, zi118_30, Option.bind_some, r5, if_neg (show ¬ (6 : Int32) ≤ nI D.length from nI_ge (b := 6) hD (by decide)), Option.bind_some, nI_1, zw118_30, Option.bind_some, zr118_35, Option.bind_some, zi118_30, Option.bind_some, s2_at rfl rfl, zb127 (by omega), Option.bind_some]
    rfl
theorem deeper_0 (rg : RG σ w T n K) (rs : RS σ F W D) (hD : ¬ D.length < 6) (hD2 : D.length < 100) : RN (fun τ => Fr Wgf σ τ ∧ RF τ (if K.2.2 = 1 ∨ K.2.2 = 2 ∨ (K.2.2 = 3 ∧ T K.1 = 40) then 2 else 1) K.1) w u (f_X11_deeper 118 (mk σ w u)) := by
  obtain ⟨s1, s2', s3⟩ := srt_1 rg
  obtain ⟨τ1, q1, e1⟩ := wrong_G (w := w) (u := u) rg (f := 2) (by omega) (by omega)
  obtain ⟨τ2, q2, e2⟩ := wrong_G (w := w) (u := u) rg (f := 1) (by omega) (by omega)
  have h56 : f_X11_deeper_56 118 (mk σ w u) = some (mk τ1 w u) := by
    unfold f_X11_deeper_56 f_X11_deeper_61
    rw [show f_X11_wrong 118 2 (mk σ w u) = some (mk τ1 w u) from e1, Option.bind_some]
  unfold f_X11_deeper
  rw [zg118, zi118_30, Option.bind_some, rs.2.2.2.2.1, if_pos (show (6 : Int32) ≤ nI D.length from nI_le (a := 6) (by omega) (by omega)), zi118_16, Option.bind_some]
  by_cases c1 : K.2.2 = 1
  · rw [if_pos (s1.mpr c1), if_pos (Or.inl c1), h56]
    exact ⟨τ1, q1, rfl⟩
  · rw [if_neg (fun e => c1 (s1.mp e)), Option.bind_some]
    by_cases c2 : K.2.2 = 2
    · rw [if_pos (s2'.mpr c2), if_pos (Or.inr (Or.inl c2)), h56]
      exact ⟨τ1, q1, rfl⟩
    · rw [if_neg (fun e => c2 (s2'.mp e))]
      by_cases c3 : K.2.2 = 3 ∧ T K.1 = 40
      · rw [rsg_1 (c := 40) (x := 40) rfl (by decide) rg c3, Option.bind_some]
        dsimp only
        rw [if_neg (show ¬ nI 1 = 0 by decide), if_pos (Or.inr (Or.inr c3)), h56]
        exact ⟨τ1, q1, rfl⟩
      · rw [rsg_0 (c := 40) (x := 40) rfl (by decide) rg c3, Option.bind_some]
        dsimp only
        unfold f_X11_deeper_61
        rw [if_pos (show nI 0 = 0 from rfl), if_neg (by omega), show f_X11_wrong 118 1 (mk σ w u) = some (mk τ2 w u) from e2, Option.bind_some]
        exact ⟨τ2, q2, rfl⟩
/-- something waits, and on -/
theorem wait_go (sm : Sm σ w T n C W D K) (hk : K.2.2 ≠ 0) {o : Nat} (ho : 3 ≤ o ∧ o ≤ 14) : ∃ τ1 τ2 w2, f_X11_waitsFor 118 (nI o) (mk σ w u) = some (mk τ1 w u) ∧ f_X11_goes 118 (mk τ1 w u) = some (mk τ2 w2 u) ∧ Fr Wex σ τ2 ∧ RG τ2 w2 T n (nxt T n K) ∧ RS τ2 (fl C) (o :: W) D := by
  obtain ⟨b1, b2, b3⟩ := Sm_b sm
  obtain ⟨b4, b5, b6⟩ := b3 hk
  obtain ⟨rg, rs, l1, l2, l3, l4⟩ := sm
  obtain ⟨τ1, ⟨f1, r1⟩, e1⟩ := waits_f (w := w) (u := u) rs (by omega) ho
  obtain ⟨τ2, w2, ⟨f2, g2⟩, e2⟩ := goes_G (u := u) (RG_F rg f1 (fun q k e => by unfold Wwt at e; omega))
  exact ⟨τ1, τ2, w2, e1, e2, Fr_t (Wwt_x f1) (Wgo_x f2), g2, RS_F r1 f2 (fun q k e => by unfold Wgo at e; omega)⟩
theorem opn : ∀ M K, n - K.1 < M → ∀ (σ : Nat → Nat → Int32) (w : Int64) (C : List (Nat × Nat)) (W : List Nat) (D : List Bool) (m : Nat) (x2 x4 : Int32) (N1 N : Nat), Sm σ w T n C W D K → ((m = 0 ∧ x2 = nI 0 ∧ x4 = nI 0) ∨ ∃ j, j ≤ 6 ∧ m = 1 + j ∧ x2 = nI 1 ∧ x4 = nI j) → 702 < N1 + K.1 → 702 < N + K.1 → OQ T n σ K.1 (m, C, W, D, K) u (lp (bp18 (kp4 N)) N1 (118, x2, x4, mk σ w u)) := by
  intro M
  induction M with
  | zero => intro K h; omega
  | succ M ih =>
    intro K hM σ w C W D m x2 x4 N1 N sm hmode hN1 hN
    have sm0 := sm
    obtain ⟨b1, b2, b3⟩ := Sm_b sm
    obtain ⟨rg, rs, l1, l2, l3, l4⟩ := sm
    obtain ⟨N1, rfl⟩ : ∃ M, N1 = M + 1 := ⟨N1 - 1, by omega⟩
    have h75 : (m = 0 ∨ kw T K ≠ 14) → m ≤ 7 → OQ T n σ K.1 (m, C, W, D, K) u (f_X11_operand_75 (kp4 N) 118 x2 (mk σ w u)) := by
      intro h14 hm7
      unfold f_X11_operand_75 f_X11_operand_95 f_X11_operand_96 f_X11_operand_117
      rw [isGood_1 rg.2.1, Option.bind_some]
      dsimp only
      rw [if_neg (show ¬ nI 1 = 0 by decide)]
      obtain ⟨N, rfl⟩ : ∃ M, N = M + 1 := ⟨N - 1, by omega⟩
      by_cases c1 : K.2.2 = 3 ∧ T K.1 = 40
      · obtain ⟨b4, b5, b6⟩ := b3 (by omega)
        obtain ⟨τ1, τ2, w2, e1, e2, fr2, rg2, rs2⟩ := wait_go (u := u) sm0 (by omega) (o := 14) (by omega)
        have hst : sst T n (m, C, W, D, K) = (if D.length < 6 then (1, C, 14 :: W, false :: D, nxt T n K) else fl9 (if (nxt T n K).2.2 = 1 ∨ (nxt T n K).2.2 = 2 ∨ ((nxt T n K).2.2 = 3 ∧ T (nxt T n K).1 = 40) then 2 else 1) (nxt T n K).1) := by
          unfold sst
          dsimp only
          rw [if_pos hm7, if_neg (by omega), if_pos c1]
        rw [rsg_1 (c := 40) (x := 40) rfl (by decide) rg c1, Option.bind_some]
        dsimp only
        rw [if_neg (show ¬ nI 1 = 0 by decide), if_neg (show ¬ (1 : Int32) = 0 by decide), show f_X11_waitsFor 118 14 (mk σ w u) = some (mk τ1 w u) from e1, Option.bind_some, e2, Option.bind_some]
        by_cases c2 : D.length < 6
        · rw [if_pos c2] at hst
          obtain ⟨τ3, ⟨fr3, rs3⟩, e3⟩ := deeper_1 (w := w2) (u := u) rs2 c2
          have rg3 := RG_F rg2 fr3 (fun q k e => by unfold Wdp at e; omega)
          have sm3 : Sm τ3 w2 T n C (14 :: W) (false :: D) (nxt T n K) := ⟨rg3, rs3, by rw [List.length_cons]; omega, by rw [List.length_cons]; omega, by rw [List.length_cons, List.count_cons, if_pos (by decide), l3], by rw [List.length_cons]; omega⟩
          rw [e3, Option.bind_some]
          refine OQ_t (Fr_t fr2 (Wdp_x fr3)) (rch_1 hst) (Nat.le_of_lt b5) ?_
          rw [kp4_1]
          unfold f_X11_operand_4
          rw [if_neg (show ¬ (1 : Int32) = 0 by decide), isGood_1 rg3.2.1, Option.bind_some]
          dsimp only
          rw [if_neg (show ¬ nI 1 = 0 by decide), bp18_l]
          clear hmode
          exact ih (nxt T n K) (by omega) τ3 w2 C (14 :: W) (false :: D) 1 1 0 (99999 + 1) N sm3 (Or.inr ⟨0, by omega, rfl, rfl, rfl⟩) (by omega) (by omega)
        · rw [if_neg c2] at hst
          obtain ⟨τ3, ⟨fr3, rf3⟩, e3⟩ := deeper_0 (w := w2) (u := u) rg2 rs2 c2 (by omega)
          rw [e3, Option.bind_some, kp4_e]
          refine ⟨τ3, w2, ⟨Fr_t fr2 (Wgf_x fr3), Or.inr ⟨_, _, rch_1 hst, SF_mk rf3 (RS_F rs2 fr3 (fun q k e => by unfold Wgf at e; omega)) (by rw [List.length_cons]; omega) (by rw [List.length_cons]; omega)⟩⟩, f4_n rf3 N⟩
      · rw [rsg_0 (c := 40) (x := 40) rfl (by decide) rg c1, Option.bind_some]
        dsimp only
        rw [if_pos (show nI 0 = 0 from rfl), if_pos rfl, kp4_1]
        unfold f_X11_operand_4 f_X11_operand_120
        rw [if_pos rfl]
        have hb : ∀ r : Option hp_H, (r.bind fun r8 => some r8) = r := fun r => by cases r <;> rfl
        rw [hb]
        exact part_R sm0 hm7 h14 c1
    rw [bp18_1]
    unfold f_X11_operand_18
    rw [isGood_1 rg.2.1, Option.bind_some]
    dsimp only
    rw [if_neg (show ¬ nI 1 = 0 by decide)]
    rcases hmode with ⟨rfl, rfl, rfl⟩ | ⟨j, hj, rfl, rfl, rfl⟩
    · rw [if_pos (show nI 0 = 0 from rfl)]
      exact h75 (Or.inl rfl) (by omega)
    · rw [if_neg (show ¬ nI 1 = 0 by decide), rkw rg, Option.bind_some]
      dsimp only
      by_cases c14 : kw T K = 14
      · obtain ⟨b4, b5, b6⟩ := b3 (by have := kw_2 (T := T) (K := K) (by omega); omega)
        rw [c14, if_pos (show nJ 14 = 13 from rfl)]
        unfold f_X11_operand_50
        by_cases c6 : j = 6
        · subst c6
          obtain ⟨τ1, ⟨fr1, rf⟩, e1⟩ := wrong_G (w := w) (u := u) rg (f := 2) (by omega) (by omega)
          have hst : sst T n (1 + 6, C, W, D, K) = fl9 2 K.1 := by
            unfold sst
            dsimp only
            rw [if_pos (by omega), if_pos ⟨by omega, c14⟩, if_pos (by omega)]
          rw [if_pos (show nI 6 = 6 from rfl), show f_X11_wrong 118 2 (mk σ w u) = some (mk τ1 w u) from e1, Option.bind_some, isGood_0 rf.1 rf.2.2.1 rf.2.2.2, Option.bind_some]
          dsimp only
          rw [if_pos (show nI 0 = 0 from rfl)]
          obtain ⟨N1, rfl⟩ : ∃ M, N1 = M + 1 := ⟨N1 - 1, by omega⟩
          obtain ⟨N, rfl⟩ : ∃ M, N = M + 1 := ⟨N - 1, by omega⟩
          exact ⟨τ1, w, ⟨Wgf_x fr1, Or.inr ⟨_, _, rch_1 hst, SF_mk rf (RS_F rs fr1 (fun q k e => by unfold Wgf at e; omega)) (by omega) (by omega)⟩⟩, f18_n rf N N1⟩
        · obtain ⟨τ1, τ2, w2, e1, e2, fr2, rg2, rs2⟩ := wait_go (u := u) sm0 (by have := kw_2 (T := T) (K := K) (by omega); omega) (o := 3) (by omega)
          have hst : sst T n (1 + j, C, W, D, K) = (1 + (j + 1), C, 3 :: W, D, nxt T n K) := by
            unfold sst
            dsimp only
            rw [if_pos (by omega), if_pos ⟨by omega, c14⟩, if_neg (by omega), Nat.add_assoc]
          have sm3 : Sm τ2 w2 T n C (3 :: W) D (nxt T n K) := ⟨rg2, rs2, by rw [List.length_cons]; omega, by rw [List.length_cons]; omega, by rw [List.count_cons, if_neg (by decide), l3], l4⟩
          rw [if_neg (show ¬ nI j = 6 from fun e => c6 ((nI_eq (b := 6) (by omega) (by decide)).mp e)), isGood_1 rg.2.1, Option.bind_some]
          dsimp only
          rw [if_neg (show ¬ nI 1 = 0 by decide), show f_X11_waitsFor 118 3 (mk σ w u) = some (mk τ1 w u) from e1, Option.bind_some, e2, Option.bind_some, nI_1]
          exact OQ_t fr2 (rch_1 hst) (Nat.le_of_lt b5) (ih (nxt T n K) (by omega) τ2 w2 C (3 :: W) D _ _ _ N1 N sm3 (Or.inr ⟨j + 1, by omega, rfl, rfl, rfl⟩) (by omega) (by omega))
      · have hk14 := kw_le (T := T) K
        rw [if_neg (show ¬ nJ (kw T K) = 13 from fun e => by
          have hz : ∀ k, k ≤ 14 → nJ k = 13 → k = 14 := by decide
          exact c14 (hz _ hk14 e))]
        exact h75 (Or.inr c14) (by omega)
theorem operand_R (sm : Sm σ w T n C W D K) {m : Nat} (hm : m = 0 ∨ m = 1) {y : Int32} (hy : y = nI m) : OQ T n σ K.1 (m, C, W, D, K) u (f_X11_operand 118 y (mk σ w u)) := by
  have rg := sm.1
  have b := Sm_b sm
  unfold f_X11_operand
  rw [zg118, bp4_l, bp4_1]
  unfold f_X11_operand_4
  rw [if_neg (show ¬ (1 : Int32) = 0 by decide), isGood_1 rg.2.1, Option.bind_some]
  dsimp only
  rw [if_neg (show ¬ nI 1 = 0 by decide), bp18_l]
  exact opn (n - K.1 + 1) K (by omega) σ w C W D m y 0 (99999 + 1) 99999 sm (hm.elim (fun h => Or.inl ⟨h, by rw [hy, h], rfl⟩) (fun h => Or.inr ⟨0, by omega, h, by rw [hy, h], rfl⟩)) (by omega) (by omega)
end RY
