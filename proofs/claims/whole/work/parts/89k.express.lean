/-! L3: the reference reads a rule, to its end -/
section RZ
variable {σ τ : Nat → Nat → Int32} {w u : Int64} {T : Nat → Nat} {n : Nat} {K : Nat × Nat × Nat} {F : List Int32} {W : List Nat} {D : List Bool} {C : List (Nat × Nat)} {s t : SyS} {x : Option hp_H} {k0 k1 : Nat}
def EQ (T : Nat → Nat) (n : Nat) (τ0 : Nat → Nat → Int32) (k0 : Nat) (s : SyS) (u : Int64) (x : Option hp_H) : Prop := RW (fun τ w => Fr Wex τ0 τ ∧ ((∃ C W D K', rch T n s (201, C, W, D, K') ∧ RG τ w T n K' ∧ (∀ j y, (fl C ++ [nI 0])[j]? = some y → τ 125 j = y) ∧ (fl C).length < 1400 ∧ k0 ≤ K'.1) ∨ ∃ f p, rch T n s (fl9 f p) ∧ RF τ f p)) u x
theorem EQ_t (fr : Fr Wex σ τ) (hr : rch T n s t) (hk : k0 ≤ k1) (h : EQ T n τ k1 t u x) : EQ T n σ k0 s u x := by
  obtain ⟨τ', w', ⟨f2, h2⟩, e⟩ := h
  refine ⟨τ', w', ⟨Fr_t fr f2, ?_⟩, e⟩
  rcases h2 with ⟨C, W, D, K', a1, a2, a3, a4, a5⟩ | ⟨f, p, a1, a2⟩
  · exact Or.inl ⟨C, W, D, K', rch_t hr a1, a2, a3, a4, by omega⟩
  · exact Or.inr ⟨f, p, rch_t hr a1, a2⟩
theorem e345_n {f p : Nat} (sf : SF σ f p) : RN (fun τ => Fr Wex σ τ ∧ RF τ f p) w u (f_X11_expression_345 118 (mk σ w u)) := by
  obtain ⟨rf, F, W, D, rs, h1, h2⟩ := sf
  obtain ⟨τ1, ⟨f1, r1⟩, e1⟩ := drops_f (w := w) (u := u) (b := 0) (y := 0) rfl (by omega) rs (by omega) (by omega)
  have hl : (F ++ (dr 0 W).1.map nI).length < 1400 := by
    have := (dr_mem 0 W).2.2
    rw [List.length_append, List.length_map]
    omega
  obtain ⟨τ2, ⟨f2, r2⟩, e2⟩ := puts_f (w := w) (u := u) r1 hl 0
  unfold f_X11_expression_345
  rw [e1, Option.bind_some, e2, Option.bind_some]
  exact ⟨τ2, ⟨Fr_t (Wdr_x f1) (Wdr_x f2), RF_F rf (Fr_t f1 f2) (fun q k e => by unfold Wdr at e; omega)⟩, rfl⟩
theorem e325_n {f p : Nat} (sf : SF σ f p) : RN (fun τ => Fr Wex σ τ ∧ RF τ f p) w u (f_X11_expression_325 118 (mk σ w u)) := by
  have rf := sf.1
  unfold f_X11_expression_325
  rw [isGood_0 rf.1 rf.2.2.1 rf.2.2.2, Option.bind_some]
  dsimp only
  rw [if_pos (show nI 0 = 0 from rfl)]
  exact e345_n sf
def b29 : (Nat × Int32 × hp_H → Option hp_H) → Nat × Int32 × hp_H → Option hp_H := fun k s => f_X11_expression_29 (fun a0 a1 a2 => k (a0, a1, a2)) s.1 s.2.1 s.2.2
theorem b29_1 {x0 : Nat} {y : Int32} {h : hp_H} {N : Nat} : lp b29 (N + 1) (x0, y, h) = f_X11_expression_29 (fun a0 a1 a2 => lp b29 N (a0, a1, a2)) x0 y h := rfl
theorem b29_l {x0 : Nat} {y : Int32} {h : hp_H} : l_X11_expression_29 x0 y h = lp b29 (99999 + 1) (x0, y, h) := rfl
theorem l29_n {f p : Nat} (sf : SF σ f p) {x1 : Int32} (N : Nat) : RN (fun τ => Fr Wex σ τ ∧ RF τ f p) w u (lp b29 (N + 1) (118, x1, mk σ w u)) := by
  have rf := sf.1
  rw [b29_1]
  unfold f_X11_expression_29
  split
  · exact e325_n sf
  · rw [isGood_0 rf.1 rf.2.2.1 rf.2.2.2, Option.bind_some]
    dsimp only
    rw [if_pos (show nI 0 = 0 from rfl)]
    exact e325_n sf
theorem drops_S {b : Nat} {y : Int32} (hy : y = nI b) (hb : b < 100) (sm : Sm σ w T n C W D K) : RN (fun τ => Fr Wdr σ τ ∧ Sm τ w T n (C ++ cds (dr b W).1) (dr b W).2 D K) w u (f_X11_drops 118 y (mk σ w u)) := by
  obtain ⟨b1, b2, b3⟩ := Sm_b sm
  obtain ⟨rg, rs, l1, l2, l3, l4⟩ := sm
  obtain ⟨m1, m2, m3⟩ := dr_mem b W
  obtain ⟨τ1, ⟨f1, r1⟩, e1⟩ := drops_f (w := w) (u := u) hy hb rs (by omega) (by omega)
  have ef : fl (C ++ cds (dr b W).1) = fl C ++ (dr b W).1.map nI := by
    rw [fl_a, fl_cds _ (fun x hx => (rs.2.2.2.2.2.2 x (m1 x hx)).1)]
  refine ⟨τ1, ⟨f1, RG_F rg f1 (fun q k e => by unfold Wdr at e; omega), by rw [ef]; exact r1, ?_, by omega, by rw [dr_ct]; exact l3, l4⟩, e1⟩
  rw [ef, List.length_append, List.length_map]
  omega
def LPx (T : Nat → Nat) (n : Nat) (k : Nat) (N : Nat) (u : Int64) : Prop := ∀ (K : Nat × Nat × Nat), k < K.1 → ∀ (σ : Nat → Nat → Int32) (w : Int64) (C : List (Nat × Nat)) (W : List Nat) (D : List Bool), Sm σ w T n C W D K → EQ T n σ K.1 (100, C, W, D, K) u (lp b29 N (118, nI 1, mk σ w u))
theorem after {N : Nat} (h : OQ T n τ k0 s u x) (hl : LPx T n k0 (N + 1) u) : EQ T n τ k0 s u (x.bind fun r => lp b29 (N + 1) (118, nI 1, r)) := by
  obtain ⟨τ1, w1, ⟨f1, h1⟩, e1⟩ := h
  rw [e1, Option.bind_some]
  rcases h1 with ⟨C, W, D, K', a1, a2, a3⟩ | ⟨f, p, a1, a2⟩
  · exact EQ_t f1 a1 (Nat.le_of_lt a3) (hl K' a3 τ1 w1 C W D a2)
  · obtain ⟨τ2, ⟨f2, rf2⟩, e2⟩ := l29_n (w := w1) (u := u) a2 (x1 := nI 1) N
    exact ⟨τ2, w1, ⟨Fr_t f1 f2, Or.inr ⟨f, p, a1, rf2⟩⟩, e2⟩
theorem op_0 {N o : Nat} (ho : 3 ≤ o ∧ o < 14) {y : Int32} (hy : y = nI o) (sm : Sm σ w T n C W D K) (hk : K.2.2 ≠ 0) (hl : LPx T n K.1 (N + 1) u) : EQ T n σ K.1 (0, C, o :: W, D, nxt T n K) u ((f_X11_waitsFor 118 y (mk σ w u)).bind fun r1 => (f_X11_goes 118 r1).bind fun r2 => (f_X11_operand 118 0 r2).bind fun r3 => lp b29 (N + 1) (118, nI 1, r3)) := by
  obtain ⟨b1, b2, b3⟩ := Sm_b sm
  obtain ⟨b4, b5, b6⟩ := b3 hk
  obtain ⟨τ1, τ2, w2, e1, e2, fr2, rg2, rs2⟩ := wait_go (u := u) sm hk (o := o) (by omega)
  obtain ⟨rg, rs, l1, l2, l3, l4⟩ := sm
  have sm3 : Sm τ2 w2 T n C (o :: W) D (nxt T n K) := ⟨rg2, rs2, by rw [List.length_cons]; omega, by rw [List.length_cons]; omega, by rw [List.count_cons, if_neg (by simp; omega), l3], l4⟩
  rw [hy, e1, Option.bind_some, e2, Option.bind_some]
  exact EQ_t fr2 (rch_r _) (Nat.le_of_lt b5) (after (operand_R sm3 (Or.inl rfl) rfl) (fun K' hK' => hl K' (by omega)))
theorem op_t {N o m : Nat} (ho : 3 ≤ o ∧ o < 14) {y z mi : Int32} (hy : y = nI o) {b d : Bool} (hz : vp_nar .boolean z = nI (if b = true then 1 else 0)) (hm : m = 0 ∨ m = 1) (hmi : mi = nI m) (sm : Sm σ w T n C W (d :: D) K) (hk : K.2.2 ≠ 0) (hl : LPx T n K.1 (N + 1) u) : EQ T n σ K.1 (m, C, o :: W, b :: D, nxt T n K) u ((f_X11_waitsFor 118 y (mk σ w u)).bind fun r1 => (rd_R r1 118 11 35).bind fun v2 => (rd_I r1 118 11 30).bind fun v3 => (wr_AZ r1 v2 v3 z).bind fun h4 => (f_X11_goes 118 h4).bind fun r5 => (f_X11_operand 118 mi r5).bind fun r6 => lp b29 (N + 1) (118, nI 1, r6)) := by
  obtain ⟨b1, b2, b3⟩ := Sm_b sm
  obtain ⟨b4, b5, b6⟩ := b3 hk
  obtain ⟨rg, rs, l1, l2, l3, l4⟩ := sm
  have hD : (d :: D).length = D.length + 1 := rfl
  rw [hD] at l3 l4
  obtain ⟨τ1, ⟨f1, r1⟩, e1⟩ := waits_f (w := w) (u := u) rs (by omega) (x := o) (by omega)
  have ft : Fr Wdp τ1 (s2 τ1 127 (D.length + 1) (nI (if b = true then 1 else 0))) := Fr_s (by unfold Wdp; omega)
  have rg1 := RG_F (RG_F rg f1 (fun q k e => by unfold Wwt at e; omega)) ft (fun q k e => by unfold Wdp at e; omega)
  have rs1 : RS (s2 τ1 127 (D.length + 1) (nI (if b = true then 1 else 0))) (fl C) (o :: W) (b :: D) := by
    obtain ⟨q1, q2, q3, q4, q5, q6, q7⟩ := r1
    refine ⟨?_, ?_, ?_, ?_, ?_, ⟨?_, ?_⟩, q7⟩
    · rw [s2_off (by omega)]; exact q1
    · intro j y h; rw [s2_off (by omega)]; exact q2 j y h
    · rw [s2_off (by omega)]; exact q3
    · exact WS_F _ (fun k _ => by rw [s2_off (by omega)]) q4
    · rw [s2_off (by omega)]; exact q5
    · rw [s2_at rfl rfl]
    · exact DS_F D (fun k hk => by rw [s2_off (by omega)]) q6.2
  obtain ⟨τ3, w3, ⟨f3, rg3⟩, e3⟩ := goes_G (u := u) rg1
  have sm3 : Sm τ3 w3 T n C (o :: W) (b :: D) (nxt T n K) := ⟨rg3, RS_F rs1 f3 (fun q k e => by unfold Wgo at e; omega), by rw [List.length_cons]; omega, by rw [List.length_cons]; omega, by rw [List.count_cons, if_neg (by simp; omega), List.length_cons]; omega, by rw [List.length_cons]; omega⟩
  rw [hy, e1, Option.bind_some, zr118_35, Option.bind_some, zi118_30, Option.bind_some, show τ1 118 30 = nI (D.length + 1) from r1.2.2.2.2.1, zb127 (by omega), Option.bind_some, hz, e3, Option.bind_some]
  exact EQ_t (Fr_t (Wwt_x f1) (Fr_t (Wdp_x ft) (Wgo_x f3))) (rch_r _) (Nat.le_of_lt b5) (after (operand_R sm3 hm hmi) (fun K' hK' => hl K' (by omega)))
theorem e325_R {d : Bool} (sm : Sm σ w T n C W (d :: D) K) (hs : sst T n (100, C, W, d :: D, K) = if 1 < (d :: D).length then fl9 1 K.1 else (201, C ++ cds (dr 0 W).1, (dr 0 W).2, d :: D, K)) : EQ T n σ K.1 (100, C, W, d :: D, K) u (f_X11_expression_325 118 (mk σ w u)) := by
  have sm0 := sm
  obtain ⟨b1, b2, b3⟩ := Sm_b sm
  obtain ⟨rg, rs, l1, l2, l3, l4⟩ := sm
  unfold f_X11_expression_325
  rw [isGood_1 rg.2.1, Option.bind_some]
  dsimp only
  rw [if_neg (show ¬ nI 1 = 0 by decide), zi118_30, Option.bind_some, rs.2.2.2.2.1]
  by_cases c : 1 < (d :: D).length
  · rw [if_pos c] at hs
    obtain ⟨τ1, ⟨fr1, rf⟩, e1⟩ := wrong_G (w := w) (u := u) rg (f := 1) (by omega) (by omega)
    obtain ⟨τ2, ⟨f2, rf2⟩, e2⟩ := e345_n (w := w) (u := u) (SF_mk rf (RS_F rs fr1 (fun q k e => by unfold Wgf at e; omega)) (by omega) (by omega))
    rw [if_neg (show ¬ nI (d :: D).length ≤ 1 from nI_ge (a := 1) c (by omega)), show f_X11_wrong 118 1 (mk σ w u) = some (mk τ1 w u) from e1, Option.bind_some]
    exact ⟨τ2, w, ⟨Fr_t (Wgf_x fr1) f2, Or.inr ⟨_, _, rch_1 hs, rf2⟩⟩, e2⟩
  · rw [if_neg c] at hs
    obtain ⟨τ1, ⟨f1, sm1⟩, e1⟩ := drops_S (u := u) (b := 0) (y := 0) rfl (by omega) sm0
    obtain ⟨rg1, rs1, l11, l12, l13, l14⟩ := sm1
    obtain ⟨τ2, ⟨f2, rs2⟩, e2⟩ := puts_f (w := w) (u := u) rs1 (by omega) 0
    rw [if_pos (show nI (d :: D).length ≤ 1 from nI_le (b := 1) (by omega) (by decide))]
    unfold f_X11_expression_345
    rw [e1, Option.bind_some, e2, Option.bind_some]
    exact ⟨τ2, w, ⟨Fr_t (Wdr_x f1) (Wdr_x f2), Or.inl ⟨_, _, _, _, rch_1 hs, RG_F rg1 f2 (fun q k e => by unfold Wdr at e; omega), rs2.2.1, by omega, Nat.le_refl _⟩⟩, rfl⟩
theorem e186_R {N : Nat} {d : Bool} (sm : Sm σ w T n C W (d :: D) K) (hl : LPx T n K.1 (N + 1) u) (h12 : kw T K ≠ 12) (h13 : kw T K ≠ 13) (h60 : K.2.2 = 3 ∧ T K.1 = 60 → d = true) (h61 : K.2.2 = 3 ∧ T K.1 = 61 → d = true) : EQ T n σ K.1 (100, C, W, d :: D, K) u (f_X11_expression_186 (fun a0 a1 a2 => lp b29 (N + 1) (a0, a1, a2)) 118 1 (mk σ w u)) := by
  have rg := sm.1
  have b := Sm_b sm
  have g43 : (K.2.2 = 3 ∧ T K.1 = 43) ∨ (¬ (K.2.2 = 3 ∧ T K.1 = 43) ∧ K.2.2 = 3 ∧ T K.1 = 45) → EQ T n σ K.1 (100, C, W, d :: D, K) u (f_X11_expression_204 (fun a0 a1 a2 => lp b29 (N + 1) (a0, a1, a2)) 118 1 (mk σ w u)) := by
    intro hc
    obtain ⟨τ1, ⟨f1, sm1⟩, e1⟩ := drops_S (u := u) (b := 5) (y := 5) rfl (by omega) sm
    unfold f_X11_expression_204 f_X11_expression_226 f_X11_expression_322
    rw [e1, Option.bind_some]
    rcases hc with hc | ⟨hn, hc⟩
    · rw [rsg_1 (c := 43) (x := 43) rfl (by decide) sm1.1 hc, Option.bind_some]
      dsimp only
      rw [if_neg (show ¬ nI 1 = 0 by decide)]
      exact EQ_t (Wdr_x f1) (rch_1 (s_pl hc)) (Nat.le_refl _) (op_0 (o := 8) (by omega) rfl sm1 (by omega) hl)
    · rw [rsg_0 (c := 43) (x := 43) rfl (by decide) sm1.1 hn, Option.bind_some]
      dsimp only
      rw [if_pos (show nI 0 = 0 from rfl)]
      exact EQ_t (Wdr_x f1) (rch_1 (s_mi hc)) (Nat.le_refl _) (op_0 (o := 9) (by omega) rfl sm1 (by omega) hl)
  have g42 : (K.2.2 = 3 ∧ T K.1 = 42) ∨ (¬ (K.2.2 = 3 ∧ T K.1 = 42) ∧ K.2.2 = 3 ∧ T K.1 = 47) → EQ T n σ K.1 (100, C, W, d :: D, K) u (f_X11_expression_259 (fun a0 a1 a2 => lp b29 (N + 1) (a0, a1, a2)) 118 1 (mk σ w u)) := by
    intro hc
    obtain ⟨τ1, ⟨f1, sm1⟩, e1⟩ := drops_S (u := u) (b := 6) (y := 6) rfl (by omega) sm
    unfold f_X11_expression_259 f_X11_expression_282 f_X11_expression_322
    rw [e1, Option.bind_some]
    rcases hc with hc | ⟨hn, hc⟩
    · rw [rsg_1 (c := 42) (x := 42) rfl (by decide) sm1.1 hc, Option.bind_some]
      dsimp only
      rw [if_neg (show ¬ nI 1 = 0 by decide)]
      exact EQ_t (Wdr_x f1) (rch_1 (s_ti hc)) (Nat.le_refl _) (op_0 (o := 10) (by omega) rfl sm1 (by omega) hl)
    · rw [rsg_0 (c := 42) (x := 42) rfl (by decide) sm1.1 hn, Option.bind_some]
      dsimp only
      rw [if_pos (show nI 0 = 0 from rfl)]
      exact EQ_t (Wdr_x f1) (rch_1 (s_ov hc)) (Nat.le_refl _) (op_0 (o := 11) (by omega) rfl sm1 (by omega) hl)
  unfold f_X11_expression_186
  by_cases c43 : K.2.2 = 3 ∧ T K.1 = 43
  · rw [rsg_1 (c := 43) (x := 43) rfl (by decide) rg c43, Option.bind_some]
    dsimp only
    rw [if_neg (show ¬ nI 1 = 0 by decide)]
    exact g43 (Or.inl c43)
  · rw [rsg_0 (c := 43) (x := 43) rfl (by decide) rg c43, Option.bind_some]
    dsimp only
    rw [if_pos (show nI 0 = 0 from rfl)]
    by_cases c45 : K.2.2 = 3 ∧ T K.1 = 45
    · rw [rsg_1 (c := 45) (x := 45) rfl (by decide) rg c45, Option.bind_some]
      dsimp only
      rw [if_neg (show ¬ nI 1 = 0 by decide)]
      exact g43 (Or.inr ⟨c43, c45⟩)
    · rw [rsg_0 (c := 45) (x := 45) rfl (by decide) rg c45, Option.bind_some]
      dsimp only
      rw [if_pos (show nI 0 = 0 from rfl)]
      by_cases c42 : K.2.2 = 3 ∧ T K.1 = 42
      · rw [rsg_1 (c := 42) (x := 42) rfl (by decide) rg c42, Option.bind_some]
        dsimp only
        rw [if_neg (show ¬ nI 1 = 0 by decide)]
        exact g42 (Or.inl c42)
      · rw [rsg_0 (c := 42) (x := 42) rfl (by decide) rg c42, Option.bind_some]
        dsimp only
        rw [if_pos (show nI 0 = 0 from rfl)]
        by_cases c47 : K.2.2 = 3 ∧ T K.1 = 47
        · rw [rsg_1 (c := 47) (x := 47) rfl (by decide) rg c47, Option.bind_some]
          dsimp only
          rw [if_neg (show ¬ nI 1 = 0 by decide)]
          exact g42 (Or.inr ⟨c42, c47⟩)
        · rw [rsg_0 (c := 47) (x := 47) rfl (by decide) rg c47, Option.bind_some]
          dsimp only
          rw [if_pos (show nI 0 = 0 from rfl)]
          have stop : ¬ ((K.2.2 = 3 ∧ T K.1 = 41) ∧ 14 ∈ W) → EQ T n σ K.1 (100, C, W, d :: D, K) u (f_X11_expression_320 (fun a0 a1 a2 => lp b29 (N + 1) (a0, a1, a2)) 118 (mk σ w u)) := by
            intro hc
            unfold f_X11_expression_320 f_X11_expression_322
            dsimp only
            rw [b29_1]
            unfold f_X11_expression_29
            rw [if_pos rfl]
            exact e325_R sm (s_no ⟨fun _ => rfl, fun _ => ⟨c42, c47⟩, fun _ => ⟨c43, c45⟩, fun _ => ⟨h60, h61⟩, fun _ => h12, fun _ => h13⟩ hc)
          by_cases c41 : K.2.2 = 3 ∧ T K.1 = 41
          · rw [rsg_1 (c := 41) (x := 41) rfl (by decide) rg c41, Option.bind_some]
            dsimp only
            rw [if_neg (show ¬ nI 1 = 0 by decide), opened_f sm.2.1 (by have := sm.2.2.2.1; omega), Option.bind_some]
            dsimp only
            by_cases c14 : 14 ∈ W
            · rw [if_pos c14, if_neg (show ¬ nI 1 = 0 by decide)]
              have hW14 := sm.2.1.2.2.2.2.2.2
              have hst := s_cl (T := T) (n := n) (C := C) (W := W) (t := d) (D := D) c41 c14
              obtain ⟨b4, b5, b6⟩ := b.2.2 (by omega)
              obtain ⟨τ1, ⟨f1, sm1⟩, e1⟩ := drops_S (u := u) (b := 0) (y := 0) rfl (by omega) sm
              obtain ⟨R, hR⟩ := dr_o W hW14 c14
              obtain ⟨rg1, rs1, l1, l2, l3, l4⟩ := sm1
              rw [hR] at hst rs1 l1 l2 l3
              rw [List.count_cons, if_pos (by decide), List.length_cons] at l3
              rw [List.length_cons] at l1 l2 l4
              have rs2 := RS_pop rs1
              have f2 : Fr Wex τ1 (s2 τ1 118 29 (nI R.length)) := Fr_s (by unfold Wex; omega)
              have f3 : Fr Wdp (s2 τ1 118 29 (nI R.length)) (s2 (s2 τ1 118 29 (nI R.length)) 118 30 (nI D.length)) := Fr_s (by unfold Wdp; omega)
              have rs3 : RS (s2 (s2 τ1 118 29 (nI R.length)) 118 30 (nI D.length)) (fl (C ++ cds (dr 0 W).1)) R D := by
                obtain ⟨q1, q2, q3, q4, q5, q6, q7⟩ := rs2
                refine ⟨?_, ?_, ?_, ?_, ?_, ?_, q7⟩
                · rw [s2_off (by omega)]; exact q1
                · intro j y h; rw [s2_off (by omega)]; exact q2 j y h
                · rw [s2_off (by omega)]; exact q3
                · exact WS_F _ (fun k _ => by rw [s2_off (by omega)]) q4
                · rw [s2_at rfl rfl]
                · exact DS_F D (fun k hk => by rw [s2_off (by omega)]) q6.2
              have rg3 : RG (s2 (s2 τ1 118 29 (nI R.length)) 118 30 (nI D.length)) w T n K := RG_F (RG_F rg1 (Fr_s (W := Wwt) (by unfold Wwt; omega)) (fun q k e => by unfold Wwt at e; omega)) f3 (fun q k e => by unfold Wdp at e; omega)
              obtain ⟨τ4, w4, ⟨f4, rg4⟩, e4⟩ := goes_G (u := u) rg3
              have sm4 : Sm τ4 w4 T n (C ++ cds (dr 0 W).1) R D (nxt T n K) := ⟨rg4, RS_F rs3 f4 (fun q k e => by unfold Wgo at e; omega), by omega, by omega, by omega, by omega⟩
              unfold f_X11_closes f_X11_expression_322
              rw [zg118, e1, Option.bind_some, zi118_29, Option.bind_some, show τ1 118 29 = nI (R.length + 1) from rs1.2.2.1, show nI (R.length + 1) - (1 : Int32) = nI R.length from pk_sub (b := 1) (by omega), zw118_29, Option.bind_some, zi118_30, Option.bind_some, s2_off (by omega), show τ1 118 30 = nI (D.length + 1) from rs1.2.2.2.2.1, show nI (D.length + 1) - (1 : Int32) = nI D.length from pk_sub (b := 1) (by omega), zw118_30, Option.bind_some, e4, Option.bind_some, Option.bind_some]
              exact EQ_t (Fr_t (Wdr_x f1) (Fr_t f2 (Fr_t (Wdp_x f3) (Wgo_x f4)))) (rch_1 hst) (Nat.le_of_lt b5) (hl (nxt T n K) b5 τ4 w4 _ R D sm4)
            · rw [if_neg c14, if_pos (show nI 0 = 0 from rfl)]
              exact stop (fun h => c14 h.2)
          · rw [rsg_0 (c := 41) (x := 41) rfl (by decide) rg c41, Option.bind_some]
            dsimp only
            rw [if_pos (show nI 0 = 0 from rfl)]
            exact stop (fun h => c41 h.1)
theorem exl : ∀ M K, n - K.1 < M → ∀ (σ : Nat → Nat → Int32) (w : Int64) (C : List (Nat × Nat)) (W : List Nat) (D : List Bool) (N : Nat), Sm σ w T n C W D K → 702 < N + K.1 → EQ T n σ K.1 (100, C, W, D, K) u (lp b29 N (118, nI 1, mk σ w u)) := by
  intro M
  induction M with
  | zero => intro K h; omega
  | succ M ih =>
    intro K hM σ w C W D N sm hN
    obtain ⟨b1, b2, b3⟩ := Sm_b sm
    have rg := sm.1
    have hD := sm.2.2.2.2.1
    match D, sm, hD with
    | [], sm, hD => have : 0 = List.count 14 W + 1 := hD; omega
    | d :: D, sm, hD =>
    obtain ⟨N, rfl⟩ : ∃ M, N = M + 1 + 1 := ⟨N - 2, by omega⟩
    have hk14 := kw_le (T := T) K
    have lpN : K.2.2 ≠ 0 → LPx T n K.1 (N + 1) u := fun hk K' hK' σ' w' C' W' D' sm' => ih K' (by have := b3 hk; omega) σ' w' C' W' D' (N + 1) sm' (by omega)
    have hz : ∀ k, k ≤ 14 → (nJ k = 11 ↔ k = 12) ∧ (nJ k = 12 ↔ k = 13) := by decide
    obtain ⟨z12, z13⟩ := hz _ hk14
    rw [b29_1]
    unfold f_X11_expression_29
    rw [if_neg (show ¬ nI 1 = 0 by decide), isGood_1 rg.2.1, Option.bind_some]
    dsimp only
    rw [if_neg (show ¬ nI 1 = 0 by decide), rkw rg, Option.bind_some]
    dsimp only
    by_cases c12 : kw T K = 12
    · have hk : K.2.2 ≠ 0 := by have := kw_2 (T := T) (K := K) (by omega); omega
      obtain ⟨τ1, ⟨f1, sm1⟩, e1⟩ := drops_S (u := u) (b := 2) (y := 2) rfl (by omega) sm
      rw [if_pos (z12.mpr c12)]
      unfold f_X11_expression_57
      rw [if_pos (z12.mpr c12)]
      unfold f_X11_expression_69
      rw [e1, Option.bind_some, if_pos (z12.mpr c12)]
      unfold f_X11_expression_84 f_X11_expression_322
      exact EQ_t (Wdr_x f1) (rch_1 (s_and c12)) (Nat.le_refl _) (op_t (o := 4) (m := 1) (by omega) rfl (b := false) rfl (Or.inr rfl) rfl sm1 hk (lpN hk))
    · rw [if_neg (fun e => c12 (z12.mp e))]
      by_cases c13 : kw T K = 13
      · have hk : K.2.2 ≠ 0 := by have := kw_2 (T := T) (K := K) (by omega); omega
        obtain ⟨τ1, ⟨f1, sm1⟩, e1⟩ := drops_S (u := u) (b := 1) (y := 1) rfl (by omega) sm
        rw [if_pos (z13.mpr c13)]
        unfold f_X11_expression_57
        rw [if_neg (fun e => c12 (z12.mp e))]
        unfold f_X11_expression_69
        rw [e1, Option.bind_some, if_neg (fun e => c12 (z12.mp e))]
        unfold f_X11_expression_84 f_X11_expression_322
        exact EQ_t (Wdr_x f1) (rch_1 (s_or c13)) (Nat.le_refl _) (op_t (o := 5) (m := 1) (by omega) rfl (b := false) rfl (Or.inr rfl) rfl sm1 hk (lpN hk))
      · rw [if_neg (fun e => c13 (z13.mp e))]
        have rD : σ 127 (D.length + 1) = nI (if d = true then 1 else 0) := sm.2.1.2.2.2.2.2.1.1
        have r30 : σ 118 30 = nI (D.length + 1) := sm.2.1.2.2.2.2.1
        have l6 := sm.2.2.2.2.2
        have l6' : D.length + 1 ≤ 6 := l6
        have lp0 : LPx T n K.1 (N + 1) u := fun K' hK' σ' w' C' W' D' sm' => ih K' (by have := Sm_b sm'; omega) σ' w' C' W' D' (N + 1) sm' (by omega)
        have g127 : (K.2.2 = 3 ∧ T K.1 = 60) ∨ (¬ (K.2.2 = 3 ∧ T K.1 = 60) ∧ K.2.2 = 3 ∧ T K.1 = 61) → EQ T n σ K.1 (100, C, W, d :: D, K) u (f_X11_expression_127 (fun a0 a1 a2 => lp b29 (N + 1) (a0, a1, a2)) 118 (nI 1) (mk σ w u)) := by
          intro hc
          unfold f_X11_expression_127
          rw [zr118_35, Option.bind_some, zi118_30, Option.bind_some, r30, za127 (by omega), Option.bind_some, rD]
          cases d with
          | true =>
            rw [if_pos rfl, if_neg (show ¬ nI 1 = 0 by decide)]
            exact e186_R sm lp0 c12 c13 (fun _ => rfl) (fun _ => rfl)
          | false =>
            obtain ⟨τ1, ⟨f1, sm1⟩, e1⟩ := drops_S (u := u) (b := 4) (y := 4) rfl (by omega) sm
            rw [if_neg (show ¬ false = true by decide), if_pos (show nI 0 = 0 from rfl), e1, Option.bind_some]
            unfold f_X11_expression_161 f_X11_expression_322
            rcases hc with hc | ⟨hn, hc⟩
            · rw [rsg_1 (c := 60) (x := 60) rfl (by decide) sm1.1 hc, Option.bind_some]
              dsimp only
              rw [if_neg (show ¬ nI 1 = 0 by decide)]
              exact EQ_t (Wdr_x f1) (rch_1 (s_ls hc)) (Nat.le_refl _) (op_t (o := 6) (m := 0) (by omega) rfl (b := true) rfl (Or.inl rfl) rfl sm1 (by omega) lp0)
            · rw [rsg_0 (c := 60) (x := 60) rfl (by decide) sm1.1 hn, Option.bind_some]
              dsimp only
              rw [if_pos (show nI 0 = 0 from rfl)]
              exact EQ_t (Wdr_x f1) (rch_1 (s_eq hc)) (Nat.le_refl _) (op_t (o := 7) (m := 0) (by omega) rfl (b := true) rfl (Or.inl rfl) rfl sm1 (by omega) lp0)
        by_cases c60 : K.2.2 = 3 ∧ T K.1 = 60
        · rw [rsg_1 (c := 60) (x := 60) rfl (by decide) rg c60, Option.bind_some]
          dsimp only
          rw [if_neg (show ¬ nI 1 = 0 by decide)]
          exact g127 (Or.inl c60)
        · rw [rsg_0 (c := 60) (x := 60) rfl (by decide) rg c60, Option.bind_some]
          dsimp only
          rw [if_pos (show nI 0 = 0 from rfl)]
          by_cases c61 : K.2.2 = 3 ∧ T K.1 = 61
          · rw [rsg_1 (c := 61) (x := 61) rfl (by decide) rg c61, Option.bind_some]
            dsimp only
            rw [if_neg (show ¬ nI 1 = 0 by decide)]
            exact g127 (Or.inr ⟨c60, c61⟩)
          · rw [rsg_0 (c := 61) (x := 61) rfl (by decide) rg c61, Option.bind_some]
            dsimp only
            rw [if_pos (show nI 0 = 0 from rfl)]
            exact e186_R sm lp0 c12 c13 (fun h => absurd h c60) (fun h => absurd h c61)
/-- the whole rule -/
theorem expression_R (rg : RG σ w T n K) (h28 : σ 118 28 = nI 0) (hK : 1 ≤ K.1) : EQ T n σ K.1 (1, [], [], [false], K) u (f_X11_expression 118 (mk σ w u)) := by
  have f0 : Fr Wex σ (s2 (s2 σ 118 29 0) 118 30 0) := Fr_st (Fr_s (by unfold Wex; omega)) (by unfold Wex; omega)
  have fg : Fr (fun q k => q = 118 ∧ (k = 29 ∨ k = 30)) σ (s2 (s2 σ 118 29 0) 118 30 0) := Fr_st (Fr_s (by omega)) (by omega)
  have rg0 := RG_F rg fg (fun q k e => by omega)
  have rs0 : RS (s2 (s2 σ 118 29 0) 118 30 0) [] [] [] := ⟨by rw [s2_off (by omega), s2_off (by omega)]; exact h28, fun j x h => by (cases h), by rw [s2_off (by omega), s2_at rfl rfl]; rfl, True.intro, by rw [s2_at rfl rfl]; rfl, True.intro, fun x h => by (cases h)⟩
  obtain ⟨τ1, ⟨f1, rs1⟩, e1⟩ := deeper_1 (w := w) (u := u) rs0 (by show 0 < 6; omega)
  have rg1 := RG_F rg0 f1 (fun q k e => by unfold Wdp at e; omega)
  have sm1 : Sm τ1 w T n [] [] [false] K := ⟨rg1, rs1, by show 0 + 0 + 2 ≤ _; omega, Nat.zero_le _, rfl, by show 1 ≤ 6; omega⟩
  have b := Sm_b sm1
  unfold f_X11_expression
  rw [zg118, isGood_1 rg.2.1, Option.bind_some]
  dsimp only
  rw [if_neg (show ¬ nI 1 = 0 by decide), zw118_29, Option.bind_some, zw118_30, Option.bind_some, e1, Option.bind_some]
  simp only [b29_l]
  exact EQ_t (Fr_t f0 (Wdp_x f1)) (rch_r _) (Nat.le_refl _) (after (N := 99999) (operand_R sm1 (Or.inr rfl) rfl) (fun K' hK' σ' w' C' W' D' sm' => exl (n - K'.1 + 1) K' (by omega) σ' w' C' W' D' (99999 + 1) sm' (by omega)))
end RZ
