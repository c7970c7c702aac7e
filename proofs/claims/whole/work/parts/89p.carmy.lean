/-! L3: the class reads an army -/
def AQ (Q : Nat → Nat) : Nat → Nat := fun k => if k = 0 then bq Q else if k = 3 then sq3 Q else Q k
def XQ (Q : Nat → Nat) : Nat → Nat := fun k => if k = 0 then 0 else if k < 9 then Q (12 + k) &&& (2 ^ bq Q - 1) else if k < 17 then Q (12 + k) else if k < 25 then 0 else Q (4 + k)
theorem bq_b {Q : Nat → Nat} {P : List (Nat × Nat)} (wq : WQ Q P) : 4 ≤ bq Q ∧ bq Q ≤ 12 := by
  have := wq.1
  unfold bq
  split <;> omega
section CA9
variable {σ τ : Nat → Nat → Int32} {w u : Int64} {T : Nat → Nat} {n : Nat} {K : Nat × Nat × Nat} {Q : Nat → Nat} {P : List (Nat × Nat)}
def CC (τ : Nat → Nat → Int32) (Q : Nat → Nat) (P : List (Nat × Nat)) : Prop := (τ 81 0 = nI (bq Q) ∧ τ 81 1 = nI (Q 1) ∧ τ 81 2 = nI (Q 2) ∧ τ 81 3 = nI (sq3 Q) ∧ τ 81 4 = nI (Q 4)) ∧ (∀ j, j < Q 4 → τ 83 j = nI (Q (5 + j))) ∧ CR τ P ∧ Mv τ 91 (XQ Q)
theorem cut_n {f p : Nat} (cf : CF σ f p) (hm : mb8 σ) : RQ (fun τ => Fr Wrm σ τ ∧ CF τ f p) w u (nI f) (f_X5_readArmy_79 80 (mk σ w u)) := by
  obtain ⟨m, hm8, h81⟩ := hm
  unfold f_X5_readArmy_79 l_X5_readArmy_81
  refine lp_S (RQ (fun τ => Fr Wrm σ τ ∧ CF τ f p) w u (nI f)) (fun i τ => (80, nI i, mk τ w u)) (fun i τ => Fr (fun q k => q = 93) σ τ) m ?_ ?_ m 0 100000 σ (by omega) (by omega) (Fr_r _ _)
  · intro i hi k τ fr hk
    have g81 : τ 81 1 = nI m := by rw [fr 81 1 (by omega)]; exact h81
    dsimp only
    unfold f_X5_readArmy_81 f_X1_allBeats
    rw [zr80_0, Option.bind_some, zi81_1, Option.bind_some, g81, if_neg (nI_ge hi (by omega)), zr80_1, Option.bind_some, zr91_2, Option.bind_some, Option.bind_some, zr91_2, Option.bind_some, zt92 (by omega), Option.bind_some]
    dsimp only
    rw [zr80_0, Option.bind_some, zg81, zi81_0, Option.bind_some, Option.bind_some]
    dsimp only
    rw [zs92 (by omega), Option.bind_some, nI_1]
    exact hk _ (Fr_st fr rfl)
  · intro k τ fr
    have g81 : τ 81 1 = nI m := by rw [fr 81 1 (by omega)]; exact h81
    have cf1 := CF_F cf fr (fun q k e => by omega)
    dsimp only
    unfold f_X5_readArmy_81 f_X5_readArmy_128
    rw [zr80_0, Option.bind_some, zi81_1, Option.bind_some, g81, if_pos (nI_le (Nat.le_refl _) (by omega)), zi80_2, Option.bind_some, cf1.1]
    exact ⟨τ, ⟨Fr_m fr (fun q k e => by unfold Wrm; omega), cf1⟩, rfl⟩
theorem and_0 (b : Nat) : 0 &&& b = 0 := Nat.zero_and b
theorem cut_f (h2 : σ 80 2 = nI 0) (h3 : σ 80 3 = nJ 0) (cb : CB σ Q P) (wq : WQ Q P) : RQ (fun τ => Fr Wrm σ τ ∧ τ 80 3 = nJ 0 ∧ CC τ Q P) w u (nI 0) (f_X5_readArmy_79 80 (mk σ w u)) := by
  obtain ⟨b4, b12⟩ := bq_b wq
  have w1 := wq.2.1
  obtain ⟨d0, d1, d2, d3, d4, d5, d6, d7, d8, d9⟩ := cb
  unfold f_X5_readArmy_79 l_X5_readArmy_81
  refine lp_S (RQ (fun τ => Fr Wrm σ τ ∧ τ 80 3 = nJ 0 ∧ CC τ Q P) w u (nI 0)) (fun i τ => (80, nI i, mk τ w u)) (fun i τ => Fr (fun q k => q = 93) σ τ ∧ ∀ k, k < 8 → τ 93 k = nI (if k < i then Q (13 + k) &&& (2 ^ bq Q - 1) else Q (13 + k))) (Q 1) ?_ ?_ (Q 1) 0 100000 σ (by omega) (by omega) ⟨Fr_r _ _, fun k hk => by rw [if_neg (by omega)]; exact (d8 k hk).1⟩
  · intro i hi k τ ⟨fr, h93⟩ hk
    have g81 : τ 81 1 = nI (Q 1) := by rw [fr 81 1 (by omega)]; exact d1
    have g80 : τ 81 0 = nI (bq Q) := by rw [fr 81 0 (by omega)]; exact d0
    have hp : 2 ^ bq Q ≤ 2 ^ 12 := Nat.pow_le_pow_right (by decide) b12
    have hp0 : 0 < 2 ^ bq Q := Nat.two_pow_pos _
    have e1 : (1 : Int32) <<< (nI (bq Q) &&& 31) = nI (2 ^ bq Q) := x_one (by omega)
    have e2 : nI (2 ^ bq Q) - (1 : Int32) = nI (2 ^ bq Q - 1) := pk_sub (b := 1) (by omega)
    dsimp only
    unfold f_X5_readArmy_81 f_X1_allBeats
    rw [zr80_0, Option.bind_some, zi81_1, Option.bind_some, g81, if_neg (nI_ge hi (by omega)), zr80_1, Option.bind_some, zr91_2, Option.bind_some, Option.bind_some, zr91_2, Option.bind_some, zt92 (by omega), Option.bind_some, h93 i (by omega), if_neg (show ¬ i < i by omega)]
    dsimp only
    rw [zr80_0, Option.bind_some, zg81, zi81_0, Option.bind_some, Option.bind_some, g80, e1, e2]
    dsimp only
    rw [x_and, zs92 (by omega), Option.bind_some, nI_1]
    refine hk _ ⟨Fr_st fr rfl, fun k hk8 => ?_⟩
    by_cases c : k = i
    · rw [s2_at rfl c, c, if_pos (by omega)]
    · rw [s2_off (by omega), h93 k hk8]
      by_cases c2 : k < i
      · rw [if_pos c2, if_pos (by omega)]
      · rw [if_neg c2, if_neg (by omega)]
  · intro k τ ⟨fr, h93⟩
    have g81 : τ 81 1 = nI (Q 1) := by rw [fr 81 1 (by omega)]; exact d1
    dsimp only
    unfold f_X5_readArmy_81 f_X5_readArmy_128
    rw [zr80_0, Option.bind_some, zi81_1, Option.bind_some, g81, if_pos (nI_le (Nat.le_refl _) (by omega)), zi80_2, Option.bind_some, fr 80 2 (by omega), h2]
    have g : ∀ q k, q ≠ 93 → τ q k = σ q k := fun q k h => fr q k h
    refine ⟨τ, ⟨Fr_m fr (fun q k e => by unfold Wrm; omega), by rw [g _ _ (by omega)]; exact h3, ⟨by rw [g _ _ (by omega)]; exact d0, by rw [g _ _ (by omega)]; exact d1, by rw [g _ _ (by omega)]; exact d2, by rw [g _ _ (by omega)]; exact d3, by rw [g _ _ (by omega)]; exact d4⟩, fun j hj => by rw [g _ _ (by omega)]; exact d5 j hj, CR_F d6 fr (fun q k e => by omega), ?_, fun i hi => ?_⟩, rfl⟩
    · rw [g _ _ (by omega)]; exact d7
    · obtain ⟨x1, x2, x3, x4⟩ := d8 i hi
      unfold XQ
      refine ⟨?_, ?_, ?_, ?_⟩
      · rw [h93 i hi, if_neg (show ¬ 1 + i = 0 by omega), if_pos (show 1 + i < 9 by omega), show 12 + (1 + i) = 13 + i by omega]
        by_cases c : i < Q 1
        · rw [if_pos c]
        · rw [if_neg c, (wq.2.2.2.2.2.1 i hi).2.2.2.2.2 (by omega), and_0]
      · rw [g _ _ (by omega), x2, if_neg (show ¬ 9 + i = 0 by omega), if_neg (show ¬ 9 + i < 9 by omega), if_pos (show 9 + i < 17 by omega), show 12 + (9 + i) = 21 + i by omega]
      · rw [g _ _ (by omega), x3, if_neg (show ¬ 17 + i = 0 by omega), if_neg (show ¬ 17 + i < 9 by omega), if_neg (show ¬ 17 + i < 17 by omega), if_pos (show 17 + i < 25 by omega)]
      · rw [g _ _ (by omega), x4, if_neg (show ¬ 25 + i = 0 by omega), if_neg (show ¬ 25 + i < 9 by omega), if_neg (show ¬ 25 + i < 17 by omega), if_neg (show ¬ 25 + i < 25 by omega), show 4 + (25 + i) = 29 + i by omega]
def b50 : (Nat × Int32 × Int32 × hp_H → Option (Int32 × hp_H)) → Nat × Int32 × Int32 × hp_H → Option (Int32 × hp_H) := fun k s => f_X5_readArmy_50 (fun a0 a1 a2 a3 => k (a0, a1, a2, a3)) s.1 s.2.1 s.2.2.1 s.2.2.2
theorem b50_1 {x0 : Nat} {x y : Int32} {h : hp_H} {N : Nat} : lp b50 (N + 1) (x0, x, y, h) = f_X5_readArmy_50 (fun a0 a1 a2 a3 => lp b50 N (a0, a1, a2, a3)) x0 x y h := rfl
theorem b50_l {x0 : Nat} {x y : Int32} {h : hp_H} : l_X5_readArmy_50 x0 x y h = lp b50 (99999 + 1) (x0, x, y, h) := rfl
theorem l50_n {f p : Nat} (cf : CF σ f p) (hm : mb8 σ) {x y : Int32} (N : Nat) : RQ (fun τ => Fr Wrm σ τ ∧ CF τ f p) w u (nI f) (lp b50 (N + 1) (80, x, y, mk σ w u)) := by
  rw [b50_1]
  unfold f_X5_readArmy_50
  split
  · exact cut_n cf hm
  · rw [zi80_2, Option.bind_some, cf.1, if_neg (nI_ne0 (by have := cf.2.2.1; omega) (by have := cf.2.2.2; omega))]
    exact cut_n cf hm
theorem army_l (hn : n ≤ 700) : ∀ d Q P K σ N i, CG σ T n K → CL σ Q P → WQ Q P → n - K.1 < d → i ≤ K.1 → 703 < N + K.1 → match ln9 T n d Q P K with
  | .inl (f, p) => RQ (fun τ => Fr Wrm σ τ ∧ CF τ f p) w u (nI f) (lp b50 N (80, nI n, nI i, mk σ w u))
  | .inr (Q1, P1, _) => RQ (fun τ => Fr Wrm σ τ ∧ τ 80 3 = nJ 0 ∧ CC τ Q1 P1) w u (nI 0) (lp b50 N (80, nI n, nI i, mk σ w u)) := by
  intro d
  induction d with
  | zero => intro Q P K σ N i _ _ _ h; omega
  | succ d ih =>
    intro Q P K σ N i cg cl wq hd hi hN
    have hKn : K.1 ≤ n := Nat.le_trans cg.2.2.2.2.2.1.1 cg.2.2.2.2.2.1.2.1
    have c7 := cg.2.2.2.2.1.2.1
    have o3 := cg.2.2.2.2.2.1.2.2.1
    obtain ⟨N, rfl⟩ : ∃ M, N = M + 1 := ⟨N - 1, by omega⟩
    rw [b50_1]
    unfold f_X5_readArmy_50 ln9
    rw [if_neg (nI_nlt (by omega) (by omega)), zi80_2, Option.bind_some, cg.2.1, if_pos (show nI 0 = 0 from rfl), zi80_7, Option.bind_some, c7]
    by_cases c : K.2.2 = 0
    · rw [if_pos c, if_pos (show nI K.2.2 = 0 by rw [c]; rfl)]
      exact cut_f cg.2.1 cg.2.2.1 cl.1 wq
    · rw [if_neg c, if_neg (nI_ne0 (by omega) (by omega))]
      have hl := readLine_f (w := w) (u := u) cg cl wq c
      have hg := cor9_g hn (T := T) (K := K) ⟨cg.2.2.2.2.2.1, cg.2.2.2.2.2.2.1⟩ wq c
      match hr : cor9 T n Q P K, hl, hg with
      | .inl (f, p), hl, hg =>
        obtain ⟨τ, ⟨fr, cf, hm⟩, e1⟩ := hl
        obtain ⟨N, rfl⟩ : ∃ M, N = M + 1 := ⟨N - 1, by omega⟩
        obtain ⟨τ2, ⟨fr2, cf2⟩, e2⟩ := l50_n (w := w) (u := u) (x := nI n) (y := nI i + 1) cf hm N
        rw [e1, Option.bind_some]
        show RQ (fun τ => Fr Wrm σ τ ∧ CF τ f p) w u (nI f) (lp b50 (N + 1) (80, nI n, nI i + 1, mk τ w u))
        rw [e2]
        exact ⟨τ2, ⟨Fr_t fr fr2, cf2⟩, rfl⟩
      | .inr (Q1, P1, K1), hl, hg =>
        obtain ⟨w1, k1, l1⟩ := hg
        unfold sem9 at hl ⊢
        by_cases c2 : K1.2.2 = 3 ∧ T K1.1 = 59
        · simp only [if_pos c2] at hl ⊢
          obtain ⟨τ, ⟨fr, cg2, cl2⟩, e1⟩ := hl
          have hgt := nxt_gt hn k1 (by omega)
          have hK1 : K1.1 ≤ n := Nat.le_trans k1.1.1 k1.1.2.1
          have h9 := ih Q1 P1 (nxt T n K1) τ N (i + 1) cg2 cl2 w1 (by omega) (by omega) (by omega)
          rw [e1, Option.bind_some, nI_1]
          match hq : ln9 T n d Q1 P1 (nxt T n K1), h9 with
          | .inl (f, p), h9 =>
            obtain ⟨τ2, ⟨fr2, q2⟩, e2⟩ := h9
            exact ⟨τ2, ⟨Fr_t fr fr2, q2⟩, e2⟩
          | .inr (Q2, P2, K2), h9 =>
            obtain ⟨τ2, ⟨fr2, q2⟩, e2⟩ := h9
            exact ⟨τ2, ⟨Fr_t fr fr2, q2⟩, e2⟩
        · simp only [if_neg c2] at hl ⊢
          obtain ⟨τ, ⟨fr, cf, hm⟩, e1⟩ := hl
          obtain ⟨N, rfl⟩ : ∃ M, N = M + 1 := ⟨N - 1, by omega⟩
          obtain ⟨τ2, ⟨fr2, cf2⟩, e2⟩ := l50_n (w := w) (u := u) (x := nI n) (y := nI i + 1) cf hm N
          rw [e1, Option.bind_some, e2]
          exact ⟨τ2, ⟨Fr_t fr fr2, cf2⟩, rfl⟩
def Q0 : Nat → Nat := fun _ => 0
theorem WQ_0 : WQ Q0 [] := by
  have b0 : ∀ i, bt 0 i = 0 := fun i => by unfold bt; rw [Nat.zero_div]
  refine ⟨Or.inl rfl, Nat.zero_le _, Nat.zero_le _, Nat.zero_le _, Nat.zero_le _, fun j hj => ⟨Nat.zero_le _, Nat.zero_le _, Nat.zero_le _, Nat.two_pow_pos _, ?_, fun _ => rfl⟩, fun r q i _ _ h => ?_, fun r _ _ => rfl, fun i => ⟨fun h => ?_, fun ⟨r, _, h⟩ => ?_⟩, by show 0 < 256; omega, Or.inl rfl, Nat.zero_le _⟩
  · show pc 0 12 ≤ 4; rw [pc_z]; omega
  · have h : bt 0 i = 1 := h; rw [b0] at h; omega
  · have h : bt 0 i = 1 := h; rw [b0] at h; omega
  · have h : bt 0 i = 1 := h; rw [b0] at h; omega
theorem clear1_f : f_X1_clear 81 (mk σ w u) = some (mk (s2 (s2 (s2 (s2 (s2 (s2 σ 81 0 8) 81 1 0) 81 2 0) 81 3 2) 81 4 0) 84 3 0) w u) := by
  unfold f_X1_clear
  rw [zg81, zw81_0, Option.bind_some, zw81_1, Option.bind_some, zw81_2, Option.bind_some, zw81_3, Option.bind_some, zw81_4, Option.bind_some, zr81_6, Option.bind_some, zw84_3, Option.bind_some]
theorem clear3_f : RN (fun τ => Fr (fun q k => (q = 91 ∧ k = 1) ∨ q = 93 ∨ q = 95 ∨ q = 97 ∨ q = 99) σ τ ∧ τ 91 1 = nI 0 ∧ ∀ i, i < 8 → τ 93 i = nI 0 ∧ τ 95 i = nI 0 ∧ τ 97 i = nI 0 ∧ τ 99 i = nI 0) w u (f_X3_clear 91 (mk σ w u)) := by
  unfold f_X3_clear
  rw [zg91, zw91_1, Option.bind_some, zr91_2, Option.bind_some, C_fill zC92 (by decide), Option.bind_some, zr91_3, Option.bind_some, C_fill zC94 (by decide), Option.bind_some, zr91_4, Option.bind_some, C_fill zC96 (by decide), Option.bind_some, zr91_5, Option.bind_some, C_fill zC98 (by decide), Option.bind_some]
  refine ⟨_, ⟨?_, ?_, fun i hi => ⟨?_, ?_, ?_, ?_⟩⟩, rfl⟩
  · intro q k hw
    rw [sr_n (by omega), sr_n (by omega), sr_n (by omega), sr_n (by omega), s2_off (by omega)]
  · rw [sr_n (by omega), sr_n (by omega), sr_n (by omega), sr_n (by omega), s2_at rfl rfl]
    rfl
  · rw [sr_n (by omega), sr_n (by omega), sr_n (by omega), sr_s, if_pos hi]
    rfl
  · rw [sr_n (by omega), sr_n (by omega), sr_s, if_pos hi]
    rfl
  · rw [sr_n (by omega), sr_s, if_pos hi]
    rfl
  · rw [sr_s, if_pos hi]
    rfl
theorem readArmy_f (tp : Tp σ 2 T) (hn : n ≤ 700) : match ln9 T n 701 Q0 [] (tok T n 0) with
  | .inl (f, p) => RQ (fun τ => Fr Wrm σ τ ∧ CF τ f p) w u (nI f) (f_X5_readArmy 80 (nI n) (mk σ w u))
  | .inr (Q1, P1, _) => RQ (fun τ => Fr Wrm σ τ ∧ τ 80 3 = nJ 0 ∧ CC τ Q1 P1) w u (nI 0) (f_X5_readArmy 80 (nI n) (mk σ w u)) := by
  obtain ⟨σ1, hσ1⟩ : ∃ σ1, σ1 = s2 (s2 (s2 (s2 (s2 (s2 σ 80 5 (nI n)) 80 6 0) 80 10 0) 80 11 0) 80 2 0) 80 3 (-1) := ⟨_, rfl⟩
  have f1 : Fr (fun q k => q = 80) σ σ1 := by
    rw [hσ1]
    exact Fr_st (Fr_st (Fr_st (Fr_st (Fr_st (Fr_s rfl) rfl) rfl) rfl) rfl) rfl
  obtain ⟨σ2, hσ2⟩ : ∃ σ2, σ2 = s2 (s2 (s2 (s2 (s2 (s2 σ1 81 0 8) 81 1 0) 81 2 0) 81 3 2) 81 4 0) 84 3 0 := ⟨_, rfl⟩
  have f2 : Fr (fun q k => q = 81 ∨ q = 84) σ1 σ2 := by
    rw [hσ2]
    exact Fr_st (Fr_st (Fr_st (Fr_st (Fr_st (Fr_s (Or.inl rfl)) (Or.inl rfl)) (Or.inl rfl)) (Or.inl rfl)) (Or.inl rfl)) (Or.inr rfl)
  obtain ⟨σ3, ⟨f3, c91, c9⟩, e3⟩ := clear3_f (σ := σ2) (w := w) (u := u)
  have g80 : ∀ k, σ3 80 k = σ1 80 k := fun k => by rw [f3 80 k (by omega), f2 80 k (by omega)]
  have tp3 : Tp σ3 2 T := Tp_F (Tp_F (Tp_F tp f1 (fun k e => by omega)) f2 (fun k e => by omega)) f3 (fun k e => by omega)
  have h2 : σ3 80 2 = nI 0 := by rw [g80, hσ1, s2_off (by omega), s2_at rfl rfl]; rfl
  have h3 : σ3 80 3 = nJ 0 := by rw [g80, hσ1, s2_at rfl rfl]; rfl
  have h5 : σ3 80 5 = nI n := by rw [g80, hσ1, s2_off (by omega), s2_off (by omega), s2_off (by omega), s2_off (by omega), s2_off (by omega), s2_at rfl rfl]
  have h6 : σ3 80 6 = nI 0 := by rw [g80, hσ1, s2_off (by omega), s2_off (by omega), s2_off (by omega), s2_off (by omega), s2_at rfl rfl]; rfl
  have h10 : σ3 80 10 = nI 0 := by rw [g80, hσ1, s2_off (by omega), s2_off (by omega), s2_off (by omega), s2_at rfl rfl]; rfl
  have h11 : σ3 80 11 = nI 0 := by rw [g80, hσ1, s2_off (by omega), s2_off (by omega), s2_at rfl rfl]; rfl
  obtain ⟨τ, ⟨fr, ct⟩, e4⟩ := advance_f (w := w) (u := u) tp3 hn h2 h5 (e := 0) h6 (Nat.zero_le _)
  have a81 : ∀ k, τ 81 k = σ2 81 k := fun k => by rw [fr 81 k (by unfold Wad; omega), f3 81 k (by omega)]
  have cg : CG τ T n (tok T n 0) := ⟨Tp_F tp3 fr (fun k e => by unfold Wad at e; omega), by rw [fr 80 2 (by unfold Wad; omega)]; exact h2, by rw [fr 80 3 (by unfold Wad; omega)]; exact h3, by rw [fr 80 5 (by unfold Wad; omega)]; exact h5, ct, (tok_ok hn (Nat.zero_le _)).1, ⟨tok_L, tok_D⟩, hn⟩
  have cl : CL τ Q0 [] := by
    refine ⟨⟨?_, ?_, ?_, ?_, ?_, fun j hj => absurd hj (Nat.not_lt_zero _), ⟨?_, fun j k m h => by cases h⟩, ?_, fun i hi => ?_, ?_⟩, ?_⟩
    · rw [a81, hσ2, s2_off (by omega), s2_off (by omega), s2_off (by omega), s2_off (by omega), s2_off (by omega), s2_at rfl rfl]; rfl
    · rw [a81, hσ2, s2_off (by omega), s2_off (by omega), s2_off (by omega), s2_off (by omega), s2_at rfl rfl]; rfl
    · rw [a81, hσ2, s2_off (by omega), s2_off (by omega), s2_off (by omega), s2_at rfl rfl]; rfl
    · rw [a81, hσ2, s2_off (by omega), s2_off (by omega), s2_at rfl rfl]; rfl
    · rw [a81, hσ2, s2_off (by omega), s2_at rfl rfl]; rfl
    · rw [fr 84 3 (by unfold Wad; omega), f3 84 3 (by omega), hσ2, s2_at rfl rfl]; rfl
    · rw [fr 91 1 (by unfold Wad; omega)]; exact c91
    · rw [fr 93 i (by unfold Wad; omega), fr 95 i (by unfold Wad; omega), fr 97 i (by unfold Wad; omega), fr 99 i (by unfold Wad; omega)]; exact c9 i hi
    · rw [fr 80 11 (by unfold Wad; omega)]; exact h11
    · rw [fr 80 10 (by unfold Wad; omega)]; exact h10
  have fa : Fr Wrm σ τ := Fr_t (Fr_m f1 (fun q k e => by unfold Wrm; omega)) (Fr_t (Fr_m f2 (fun q k e => by unfold Wrm; omega)) (Fr_t (Fr_m f3 (fun q k e => by unfold Wrm; omega)) (Fr_m fr (fun q k e => by unfold Wad at e; unfold Wrm; omega))))
  have h := army_l (w := w) (u := u) hn 701 Q0 [] (tok T n 0) τ (99999 + 1) 0 cg cl WQ_0 (by omega) (Nat.zero_le _) (by omega)
  have heq : f_X5_readArmy 80 (nI n) (mk σ w u) = lp b50 (99999 + 1) (80, nI n, nI 0, mk τ w u) := by
    unfold f_X5_readArmy
    rw [zg80, zw80_5, Option.bind_some, zw80_6, Option.bind_some, zw80_10, Option.bind_some, zw80_11, Option.bind_some, zw80_2, Option.bind_some, zw80_3, Option.bind_some, zr80_0, Option.bind_some, ← hσ1, clear1_f, Option.bind_some, ← hσ2, zr80_1, Option.bind_some, e3, Option.bind_some, e4, Option.bind_some, b50_l]
    rfl
  rw [heq]
  match hr : ln9 T n 701 Q0 [] (tok T n 0), h with
  | .inl (f, p), ⟨τ2, ⟨fr2, q2⟩, e2⟩ => exact ⟨τ2, ⟨Fr_t fa fr2, q2⟩, e2⟩
  | .inr (Q1, P1, K1), ⟨τ2, ⟨fr2, q2⟩, e2⟩ => exact ⟨τ2, ⟨Fr_t fa fr2, q2⟩, e2⟩
end CA9
