/-! L3: the class reads a rule as it is meant -/
section CQ
variable {σ τ : Nat → Nat → Int32} {w u : Int64} {T : Nat → Nat} {n : Nat} {K : Nat × Nat × Nat} {C : List (Nat × Nat)} {e : Nat}
def rep3 (j : Nat) : List (Nat × Nat) := List.replicate j (3, 0)
theorem rep3_S (j : Nat) : rep3 (j + 1) = (3, 0) :: rep3 j := rfl
def pj (j : Nat) : (Nat × Nat) ⊕ (List (Nat × Nat) × Nat × Nat × Nat) → (Nat × Nat) ⊕ (List (Nat × Nat) × Nat × Nat × Nat)
  | .inl q => .inl q
  | .inr (c, K) => .inr (c ++ rep3 j, K)
theorem l53_f {rec : Nat → Int32 → hp_H → Option hp_H} {j : Nat} (hn : n ≤ 700) : ∀ m i N σ C, CG σ T n K → CR σ C → C.length + e + m ≤ K.1 → i + m = j → j < 100 → m < N → (C ++ rep3 m).length + e ≤ K.1 ∧ RN (fun τ => Fr Wx σ τ ∧ CG τ T n K ∧ CR τ (C ++ rep3 m)) w u (lp (b53 rec) N (80, nI j, nI i, mk σ w u)) := by
  intro m
  induction m with
  | zero =>
    intro i N σ C cg cr hl hi hj hN
    obtain ⟨N, rfl⟩ : ∃ M, N = M + 1 := ⟨N - 1, by omega⟩
    refine ⟨by show (C ++ []).length + e ≤ _; rw [List.append_nil]; omega, ?_⟩
    rw [b53_1]
    unfold f_X5_readNot_53
    rw [if_pos (nI_le (by omega) (by omega))]
    exact ⟨σ, ⟨Fr_r _ _, cg, by show CR σ (C ++ []); rw [List.append_nil]; exact cr⟩, rfl⟩
  | succ m ih =>
    intro i N σ C cg cr hl hi hj hN
    obtain ⟨N, rfl⟩ : ∃ M, N = M + 1 := ⟨N - 1, by omega⟩
    have hK : K.1 ≤ 700 := Nat.le_trans cg.2.2.2.2.2.1.1 (Nat.le_trans cg.2.2.2.2.2.1.2.1 hn)
    obtain ⟨τ, fr, cr2, hadd⟩ := add_f (w := w) (u := u) cr (by omega) 3 0
    have h9 := ih (i + 1) N τ (C ++ [(3, 0)]) (CG_F cg fr (fun q k e => by unfold Wad2 at e; omega)) cr2 (by rw [List.length_append]; show C.length + 1 + e + m ≤ _; omega) (by omega) hj (by omega)
    rw [List.append_assoc] at h9
    refine ⟨h9.1, ?_⟩
    obtain ⟨τ2, ⟨fr2, q2⟩, h2⟩ := h9.2
    rw [b53_1]
    unfold f_X5_readNot_53
    rw [if_neg (nI_ge (by omega) (by omega)), zr80_0, Option.bind_some, zr81_6, Option.bind_some, show f_X6_add 84 (-7) (mk σ w u) = some (mk τ w u) from hadd, Option.bind_some, nI_1]
    exact ⟨τ2, ⟨Fr_t (Wad2_x fr) fr2, q2⟩, h2⟩
/-- a value's word -/
theorem value_f (cg : CG σ T n K) (hk : K.2.2 = 2) : f_X5_valueHere 80 (mk σ w u) = some (if 1 ≤ kw T K ∧ kw T K ≤ 6 then eC 2 (kw T K - 1) else 0, mk σ w u) := by
  unfold f_X5_valueHere f_X5_valueHere_74
  by_cases c0 : kw T K = 1
  · rw [zg80, isw_1 (i := 0) (by decide) wd_sum cg c0, Option.bind_some]
    dsimp only
    rw [if_neg (show ¬ nI 1 = 0 by decide), c0, if_pos (by decide)]
    rfl
  · rw [zg80, isw_0 (i := 0) (by decide) wd_sum cg c0, Option.bind_some]
    dsimp only
    rw [if_pos (show nI 0 = 0 from rfl)]
    by_cases c1 : kw T K = 2
    · rw [isw_1 (i := 1) (by decide) wd_others cg c1, Option.bind_some]
      dsimp only
      rw [if_neg (show ¬ nI 1 = 0 by decide), c1, if_pos (by decide)]
      rfl
    · rw [isw_0 (i := 1) (by decide) wd_others cg c1, Option.bind_some]
      dsimp only
      rw [if_pos (show nI 0 = 0 from rfl)]
      by_cases c2 : kw T K = 3
      · rw [isw_1 (i := 2) (by decide) wd_mud cg c2, Option.bind_some]
        dsimp only
        rw [if_neg (show ¬ nI 1 = 0 by decide), c2, if_pos (by decide)]
        rfl
      · rw [isw_0 (i := 2) (by decide) wd_mud cg c2, Option.bind_some]
        dsimp only
        rw [if_pos (show nI 0 = 0 from rfl)]
        by_cases c3 : kw T K = 4
        · rw [isw_1 (i := 3) (by decide) wd_beat cg c3, Option.bind_some]
          dsimp only
          rw [if_neg (show ¬ nI 1 = 0 by decide), c3, if_pos (by decide)]
          rfl
        · rw [isw_0 (i := 3) (by decide) wd_beat cg c3, Option.bind_some]
          dsimp only
          rw [if_pos (show nI 0 = 0 from rfl)]
          by_cases c4 : kw T K = 5
          · rw [isw_1 (i := 4) (by decide) wd_many cg c4, Option.bind_some]
            dsimp only
            rw [if_neg (show ¬ nI 1 = 0 by decide), c4, if_pos (by decide)]
            rfl
          · rw [isw_0 (i := 4) (by decide) wd_many cg c4, Option.bind_some]
            dsimp only
            rw [if_pos (show nI 0 = 0 from rfl)]
            by_cases c5 : kw T K = 6
            · rw [isw_1 (i := 5) (by decide) wd_last cg c5, Option.bind_some]
              dsimp only
              rw [if_neg (show ¬ nI 1 = 0 by decide), c5, if_pos (by decide)]
              rfl
            · rw [isw_0 (i := 5) (by decide) wd_last cg c5, Option.bind_some]
              dsimp only
              rw [if_pos (show nI 0 = 0 from rfl)]
              rw [if_neg (by omega)]
theorem readValue_f (cg : CG σ T n K) (cr : CR σ C) (hl : C.length + e ≤ K.1) (hk : K.2.2 = 2) : pq T n σ C e w u (if 1 ≤ kw T K ∧ kw T K ≤ 6 then .inr ([(2, kw T K - 1)], nxt T n K) else .inl (3, K.1)) (f_X5_readValue 80 (mk σ w u)) := by
  have hn := cg.2.2.2.2.2.2.2
  have o4 := cg.2.2.2.2.2.1.2.2.2.1 (by omega)
  have o2 := cg.2.2.2.2.2.1.2.1
  have hgt : K.1 < (nxt T n K).1 := Nat.lt_of_lt_of_le o4 (tok_ok hn o2).2
  unfold f_X5_readValue
  rw [zg80, value_f cg hk, Option.bind_some]
  dsimp only
  by_cases c : 1 ≤ kw T K ∧ kw T K ≤ 6
  · have hne : ¬ eC 2 (kw T K - 1) = 0 := by
      have h : ∀ m, m < 6 → ¬ eC 2 m = 0 := by decide
      exact h _ (by omega)
    obtain ⟨τ, fr, cr2, hadd⟩ := add_f (w := w) (u := u) cr (by omega) 2 (kw T K - 1)
    obtain ⟨τ2, ⟨fr2, cg2⟩, e2⟩ := adv_G (w := w) (u := u) (CG_F cg fr (fun q k e => by unfold Wad2 at e; omega))
    rw [if_pos c, if_pos c, if_neg hne, zr80_0, Option.bind_some, zr81_6, Option.bind_some, hadd, Option.bind_some, e2, Option.bind_some]
    exact ⟨by rw [List.length_append]; show C.length + 1 + e ≤ _; omega, τ2, ⟨Fr_t (Wad2_x fr) (Wrd_x fr2), cg2, CR_F cr2 fr2 (fun q k e => by unfold Wrd at e; omega)⟩, rfl⟩
  · obtain ⟨τ, ⟨fr, cf⟩, e2⟩ := fail_G (w := w) (u := u) cg (f := 3) (by omega) (by omega)
    rw [if_neg c, if_neg c, if_pos rfl, show f_X5_fail 80 3 (mk σ w u) = some (mk τ w u) from e2, Option.bind_some]
    exact ⟨τ, ⟨Wrd_x fr, cf⟩, rfl⟩
def CPs (T : Nat → Nat) (n d : Nat) (w u : Int64) : Prop := ∀ v K x σ C e, v ≤ 5 → CG σ T n K → CR σ C → C.length + e ≤ K.1 → (ps T n d 0 v K = some x → pq T n σ C e w u x (f_X5_readPart (r_X5_readExpr (7 - v)) 80 (nI v) (mk σ w u))) ∧ (ps T n d 1 v K = some x → pq T n σ C e w u x (f_X5_readProduct (r_X5_readExpr (7 - v)) 80 (nI v) (mk σ w u))) ∧ (ps T n d 2 v K = some x → pq T n σ C e w u x (f_X5_readSum (r_X5_readExpr (7 - v)) 80 (nI v) (mk σ w u))) ∧ (ps T n d 3 v K = some x → pq T n σ C e w u x (f_X5_readTest (r_X5_readExpr (7 - v)) 80 (nI v) (mk σ w u))) ∧ (ps T n d 4 v K = some x → pq T n σ C e w u x (f_X5_readNot (r_X5_readExpr (7 - v)) 80 (nI v) (mk σ w u))) ∧ (ps T n d 5 v K = some x → pq T n σ C e w u x (f_X5_readAnd (r_X5_readExpr (7 - v)) 80 (nI v) (mk σ w u))) ∧ (ps T n d 6 v K = some x → pq T n σ C e w u x (f_X5_readExpr (r_X5_readExpr (7 - v)) 80 (nI v) (mk σ w u))) ∧ (∀ N i, i ≤ C.length → 700 < N + C.length → ps T n d 7 v K = some x → pq T n σ C e w u x (lp (b7 (r_X5_readExpr (7 - v))) N (80, nI v, nI i, mk σ w u))) ∧ (∀ N i, i ≤ C.length → 700 < N + C.length → ps T n d 8 v K = some x → pq T n σ C e w u x (lp (b8 (r_X5_readExpr (7 - v))) N (80, nI v, nI i, mk σ w u))) ∧ (∀ N i, i ≤ C.length → 700 < N + C.length → ps T n d 9 v K = some x → pq T n σ C e w u x (lp (b9 (r_X5_readExpr (7 - v))) N (80, nI v, nI i, mk σ w u))) ∧ (∀ N i, i ≤ C.length → 700 < N + C.length → ps T n d 10 v K = some x → pq T n σ C e w u x (lp (b10 (r_X5_readExpr (7 - v))) N (80, nI v, nI i, mk σ w u))) ∧ (∀ N j, j ≤ 6 → C.length + e + j ≤ K.1 → 8 < N + j → ps T n d (11 + j) v K = some x → pq T n σ C e w u (pj j x) (lp (b11 (r_X5_readExpr (7 - v))) N (80, nI v, nI j, nI j, mk σ w u)))
theorem part_f {d v : Nat} {x : (Nat × Nat) ⊕ (List (Nat × Nat) × Nat × Nat × Nat)} (ih : CPs T n d w u) (hv : v ≤ 5) (cg : CG σ T n K) (cr : CR σ C) (hl : C.length + e ≤ K.1) (eq : ps T n (d + 1) 0 v K = some x) : pq T n σ C e w u x (f_X5_readPart (r_X5_readExpr (7 - v)) 80 (nI v) (mk σ w u)) := by
  have hn := cg.2.2.2.2.2.2.2
  have o2 := cg.2.2.2.2.2.1.2.1
  have o4 := cg.2.2.2.2.2.1.2.2.2.1
  have o3 := cg.2.2.2.2.2.1.2.2.1
  have hgt : K.2.2 ≠ 0 → K.1 < (nxt T n K).1 := fun h => Nat.lt_of_lt_of_le (o4 h) (tok_ok hn o2).2
  have c7 := cg.2.2.2.2.1.2.1
  rw [ps_0] at eq
  unfold f_X5_readPart f_X5_readPart_70
  rw [zg80, zi80_2, Option.bind_some, cg.2.1, if_pos (show nI 0 = 0 from rfl)]
  by_cases c1 : K.2.2 = 3 ∧ T K.1 = 40
  · have hgt := hgt (by omega)
    rw [if_pos c1] at eq
    obtain ⟨τ, ⟨fr, cg1⟩, eA⟩ := adv_G (w := w) (u := u) cg
    have cr1 : CR τ C := CR_F cr fr (fun q k e => by unfold Wrd at e; omega)
    rw [isg_1 (c := 40) (x := 40) rfl (by decide) cg c1, Option.bind_some]
    dsimp only
    rw [if_neg (show ¬ nI 1 = 0 by decide), eA, Option.bind_some, nI_1, show 7 - v = (7 - (v + 1)) + 1 by omega]
    refine pq_t (Wrd_x fr) ?_
    show pq T n τ C e w u x ((f_X5_readExpr (r_X5_readExpr (7 - (v + 1))) 80 (nI (v + 1)) (mk τ w u)).bind _)
    by_cases c2 : v + 1 < 6
    · rw [if_pos c2] at eq
      cases h6 : ps T n d 6 (v + 1) (nxt T n K) with
      | none => rw [h6] at eq; cases eq
      | some y =>
        have hy := (ih (v + 1) (nxt T n K) y τ C e (by omega) cg1 cr1 (by omega)).2.2.2.2.2.2.1 h6
        rw [h6] at eq
        match y, hy with
        | .inl (f1, p1), hy =>
          cases eq
          obtain ⟨τ2, ⟨fr2, cf2⟩, hB⟩ := hy
          exact ⟨τ2, ⟨fr2, cf2⟩, by rw [hB, Option.bind_some, pass_n cf2, Option.bind_some]⟩
        | .inr (c, K2), hy =>
          obtain ⟨hl2, τ2, ⟨fr2, cg2, cr2⟩, hB⟩ := hy
          unfold clo at eq
          dsimp only at eq
          rw [hB, Option.bind_some]
          by_cases c3 : K2.2.2 = 3 ∧ T K2.1 = 41
          · rw [if_pos c3] at eq
            cases eq
            have hgt2 : K2.1 < (nxt T n K2).1 := Nat.lt_of_lt_of_le (cg2.2.2.2.2.2.1.2.2.2.1 (by omega)) (tok_ok hn cg2.2.2.2.2.2.1.2.1).2
            obtain ⟨τ3, ⟨fr3, cg3⟩, hP⟩ := pass_1 (w := w) (u := u) (c := 41) (by decide) cg2 c3
            rw [show f_X5_pass 80 41 (mk τ2 w u) = some (mk τ3 w u) from hP, Option.bind_some]
            exact ⟨by omega, τ3, ⟨Fr_t fr2 (Wrd_x fr3), cg3, CR_F cr2 fr3 (fun q k e => by unfold Wrd at e; omega)⟩, rfl⟩
          · rw [if_neg c3] at eq
            cases eq
            obtain ⟨τ3, ⟨fr3, cf3⟩, hP⟩ := pass_0 (w := w) (u := u) (c := 41) (by decide) cg2 c3
            rw [show f_X5_pass 80 41 (mk τ2 w u) = some (mk τ3 w u) from hP, Option.bind_some]
            exact ⟨τ3, ⟨Fr_t fr2 (Wrd_x fr3), cf3⟩, rfl⟩
    · rw [if_neg c2] at eq
      cases eq
      have e7 := cg1.2.2.2.2.1.2.1
      have o3' := cg1.2.2.2.2.2.1.2.2.1
      have fin : ∀ f, f ≠ 0 → f < 100 → RN (fun τ' => Fr Wx τ τ' ∧ CF τ' f (nxt T n K).1) w u (((f_X5_fail 80 (nI f) (mk τ w u)).bind fun r1 => some r1).bind fun r10 => (f_X5_pass 80 41 r10).bind fun r11 => some r11) := by
        intro f hf hf2
        obtain ⟨τ3, ⟨fr3, cf3⟩, hF⟩ := fail_G (w := w) (u := u) cg1 hf hf2
        rw [hF, Option.bind_some, Option.bind_some, pass_n cf3, Option.bind_some]
        exact ⟨τ3, ⟨Wrd_x fr3, cf3⟩, rfl⟩
      unfold f_X5_readExpr f_X5_readExpr_32 f_X5_readExpr_37
      rw [zg80, if_neg (show ¬ nI (v + 1) < 6 from nI_nlt (b := 6) (by omega) (by omega)), zi80_7, Option.bind_some, e7]
      by_cases d1 : (nxt T n K).2.2 = 1
      · rw [if_pos (show nI (nxt T n K).2.2 = 1 by rw [d1]; rfl), if_pos (Or.inl d1)]
        exact fin 2 (by omega) (by omega)
      · rw [if_neg (show ¬ nI (nxt T n K).2.2 = 1 from fun e => d1 ((nI_eq (b := 1) (by omega) (by decide)).mp e)), Option.bind_some]
        by_cases d2 : (nxt T n K).2.2 = 2
        · rw [if_pos (show nI (nxt T n K).2.2 = 2 by rw [d2]; rfl), if_pos (Or.inr (Or.inl d2))]
          exact fin 2 (by omega) (by omega)
        · rw [if_neg (show ¬ nI (nxt T n K).2.2 = 2 from fun e => d2 ((nI_eq (b := 2) (by omega) (by decide)).mp e))]
          by_cases d3 : (nxt T n K).2.2 = 3 ∧ T (nxt T n K).1 = 40
          · rw [isg_1 (c := 40) (x := 40) rfl (by decide) cg1 d3, Option.bind_some]
            dsimp only
            rw [if_neg (show ¬ nI 1 = 0 by decide), if_pos (Or.inr (Or.inr d3))]
            exact fin 2 (by omega) (by omega)
          · rw [isg_0 (c := 40) (x := 40) rfl (by decide) cg1 d3, Option.bind_some]
            dsimp only
            rw [if_pos (show nI 0 = 0 from rfl), if_neg (by omega)]
            exact fin 1 (by omega) (by omega)
  · rw [if_neg c1] at eq
    rw [isg_0 (c := 40) (x := 40) rfl (by decide) cg c1, Option.bind_some]
    dsimp only
    rw [if_pos (show nI 0 = 0 from rfl), zi80_7, Option.bind_some, c7]
    by_cases c2 : K.2.2 = 2
    · rw [if_pos c2] at eq
      rw [if_pos (show nI K.2.2 = 2 by rw [c2]; rfl)]
      have h := readValue_f (w := w) (u := u) cg cr hl c2
      have ex : x = (if 1 ≤ kw T K ∧ kw T K ≤ 6 then .inr ([(2, kw T K - 1)], nxt T n K) else .inl (3, K.1)) := by
        by_cases c3 : 1 ≤ kw T K ∧ kw T K ≤ 6
        · rw [if_pos c3] at eq ⊢
          cases eq
          rfl
        · rw [if_neg c3] at eq ⊢
          cases eq
          rfl
      rw [ex]
      have hb : ∀ r : Option hp_H, (r.bind fun r8 => some r8) = r := fun r => by cases r <;> rfl
      rw [hb]
      exact h
    · rw [if_neg c2] at eq
      rw [if_neg (show ¬ nI K.2.2 = 2 from fun e => c2 ((nI_eq (b := 2) (by omega) (by decide)).mp e)), zr80_0, Option.bind_some, zr81_6, Option.bind_some]
      rcases take_f (w := w) (u := u) cg (lo := 0) (hi := 9999) (by omega) (by omega) with ⟨hok, τ, ⟨fr, cg1⟩, eT⟩ | ⟨hok, τ, ⟨fr, cf⟩, eT⟩
      · obtain ⟨k1, k2, k3, k4⟩ := hok
        have hgt := hgt (by omega)
        rw [if_pos k1, if_neg (by omega)] at eq
        cases eq
        obtain ⟨τ2, fr2, cr2, hadd⟩ := add_f (w := w) (u := u) (CR_F cr fr (fun q k e => by unfold Wrd at e; omega)) (by have := o4 (by omega); omega) 1 (vl T K.1 (K.2.1 - K.1))
        rw [show f_X5_take 80 0 9999 (mk σ w u) = some (nI (vl T K.1 (K.2.1 - K.1)), mk τ w u) from eT, Option.bind_some]
        dsimp only
        rw [show f_X6_add 84 (nI (vl T K.1 (K.2.1 - K.1))) (mk τ w u) = some (mk τ2 w u) from hadd, Option.bind_some]
        exact ⟨by rw [List.length_append]; show C.length + 1 + e ≤ _; omega, τ2, ⟨Fr_t (Wrd_x fr) (Wad2_x fr2), CG_F cg1 fr2 (fun q k e => by unfold Wad2 at e; omega), cr2⟩, rfl⟩
      · obtain ⟨τ2, fr2, hadd⟩ := add_any (σ := τ) (w := w) (u := u) (nI 0)
        have cf2 := CF_F cf fr2 (fun q k e => by unfold Wad2 at e; omega)
        rw [show f_X5_take 80 0 9999 (mk σ w u) = some (nI 0, mk τ w u) from eT, Option.bind_some]
        dsimp only
        rw [hadd, Option.bind_some]
        by_cases c3 : K.2.2 = 1
        · have hv9 := nm_vl (T := T) (s := K.1) (K.2.1 - K.1)
          rw [if_pos c3] at eq
          rw [show nmF K = 2 by unfold nmF; rw [if_pos c3]] at cf2
          by_cases c4 : 4 < K.2.1 - K.1
          · rw [if_pos c4] at eq
            cases eq
            exact ⟨τ2, ⟨Fr_t (Wrd_x fr) (Wad2_x fr2), cf2⟩, rfl⟩
          · have h4 : 10 ^ (K.2.1 - K.1) ≤ 10 ^ 4 := Nat.pow_le_pow_right (by decide) (by omega)
            have := hv9 (by omega) (fun j hj => cg.2.2.2.2.2.2.1.2 c3 (K.1 + j) (by omega) (by omega))
            exact absurd ⟨c3, by omega, by omega, by omega⟩ hok
        · rw [if_neg c3] at eq
          rw [show nmF K = 1 by unfold nmF; rw [if_neg c3]] at cf2
          cases eq
          exact ⟨τ2, ⟨Fr_t (Wrd_x fr) (Wad2_x fr2), cf2⟩, rfl⟩
theorem tail7_f {d v : Nat} {x : (Nat × Nat) ⊕ (List (Nat × Nat) × Nat × Nat × Nat)} (ih : CPs T n d w u) (hv : v ≤ 5) (cg : CG σ T n K) (cr : CR σ C) (hl : C.length + e ≤ K.1) {N i : Nat} (hi : i ≤ C.length) (hN : 700 < N + C.length) (eq : ps T n (d + 1) 7 v K = some x) : pq T n σ C e w u x (lp (b7 (r_X5_readExpr (7 - v))) N (80, nI v, nI i, mk σ w u)) := by
  have hn := cg.2.2.2.2.2.2.2
  have o2 := cg.2.2.2.2.2.1.2.1
  have o4 := cg.2.2.2.2.2.1.2.2.2.1
  have hK : K.1 ≤ n := Nat.le_trans cg.2.2.2.2.2.1.1 o2
  obtain ⟨N, rfl⟩ : ∃ M, N = M + 1 := ⟨N - 1, by omega⟩
  rw [ps_7] at eq
  rw [b7_1]
  have go : ∀ o t0, t0 = eC o 0 → K.2.2 ≠ 0 → bnd (suf (o, 0) (ps T n d 0 v (nxt T n K))) (ps T n d 7 v) = some x → pq T n σ C e w u x (f_X5_readProduct_49 (r_X5_readExpr (7 - v)) (fun a0 a1 a2 a3 => lp (b7 (r_X5_readExpr (7 - v))) N (a0, a1, a2, a3)) 80 (nI v) (nI i) t0 (mk σ w u)) := by
    intro o t0 ht hk0 eq
    unfold f_X5_readProduct_49
    rw [nI_1]
    refine pq_op (B := fun r1 => f_X5_readPart (r_X5_readExpr (7 - v)) 80 (nI v) r1) (G := fun r5 => lp (b7 (r_X5_readExpr (7 - v))) N (80, nI v, nI (i + 1), r5)) eq cg cr hl hk0 ht (fun y τ hy cg1 cr1 hl1 => (ih v _ y τ C (e + 1) hv cg1 cr1 hl1).1 hy) (fun K' y τ c hy cg1 cr1 hl1 hlt => (ih v K' y τ (C ++ c) e hv cg1 cr1 hl1).2.2.2.2.2.2.2.1 N (i + 1) (by omega) (by omega) hy) (fun τ f p cf => ?_)
    obtain ⟨N, rfl⟩ : ∃ M, N = M + 1 := ⟨N - 1, by have := o4 hk0; omega⟩
    exact ⟨τ, ⟨Fr_r _ _, cf⟩, in_l7 cf N⟩
  unfold f_X5_readProduct_7
  rw [zi80_5, Option.bind_some, cg.2.2.2.1]
  by_cases c1 : K.2.2 = 3 ∧ T K.1 = 42
  · have o4 := o4 (by omega)
    rw [if_pos c1] at eq
    rw [if_neg (nI_ge (show i < n by omega) (by omega)), isg_1 (c := 42) (x := 42) rfl (by decide) cg c1, Option.bind_some]
    dsimp only
    rw [if_neg (show ¬ nI 1 = 0 by decide)]
    unfold f_X5_readProduct_33
    rw [isg_1 (c := 42) (x := 42) rfl (by decide) cg c1, Option.bind_some]
    dsimp only
    rw [if_neg (show ¬ nI 1 = 0 by decide)]
    exact go 10 _ rfl (by omega) eq
  · rw [if_neg c1] at eq
    by_cases c2 : K.2.2 = 3 ∧ T K.1 = 47
    · have o4 := o4 (by omega)
      rw [if_pos c2] at eq
      rw [if_neg (nI_ge (show i < n by omega) (by omega)), isg_0 (c := 42) (x := 42) rfl (by decide) cg c1, Option.bind_some]
      dsimp only
      rw [if_pos (show nI 0 = 0 from rfl), isg_1 (c := 47) (x := 47) rfl (by decide) cg c2, Option.bind_some]
      dsimp only
      rw [if_neg (show ¬ nI 1 = 0 by decide)]
      unfold f_X5_readProduct_33
      rw [isg_0 (c := 42) (x := 42) rfl (by decide) cg c1, Option.bind_some]
      dsimp only
      rw [if_pos (show nI 0 = 0 from rfl)]
      exact go 11 _ rfl (by omega) eq
    · rw [if_neg c2] at eq
      have fin := pq_nil (w := w) (u := u) eq cg cr hl
      unfold f_X5_readProduct_76
      split
      · exact fin
      · rw [isg_0 (c := 42) (x := 42) rfl (by decide) cg c1, Option.bind_some]
        dsimp only
        rw [if_pos (show nI 0 = 0 from rfl), isg_0 (c := 47) (x := 47) rfl (by decide) cg c2, Option.bind_some]
        dsimp only
        rw [if_pos (show nI 0 = 0 from rfl)]
        exact fin
theorem tail8_f {d v : Nat} {x : (Nat × Nat) ⊕ (List (Nat × Nat) × Nat × Nat × Nat)} (ih : CPs T n d w u) (hv : v ≤ 5) (cg : CG σ T n K) (cr : CR σ C) (hl : C.length + e ≤ K.1) {N i : Nat} (hi : i ≤ C.length) (hN : 700 < N + C.length) (eq : ps T n (d + 1) 8 v K = some x) : pq T n σ C e w u x (lp (b8 (r_X5_readExpr (7 - v))) N (80, nI v, nI i, mk σ w u)) := by
  have hn := cg.2.2.2.2.2.2.2
  have o2 := cg.2.2.2.2.2.1.2.1
  have o4 := cg.2.2.2.2.2.1.2.2.2.1
  have hK : K.1 ≤ n := Nat.le_trans cg.2.2.2.2.2.1.1 o2
  obtain ⟨N, rfl⟩ : ∃ M, N = M + 1 := ⟨N - 1, by omega⟩
  rw [ps_8] at eq
  rw [b8_1]
  have go : ∀ o t0, t0 = eC o 0 → K.2.2 ≠ 0 → bnd (suf (o, 0) (ps T n d 1 v (nxt T n K))) (ps T n d 8 v) = some x → pq T n σ C e w u x (f_X5_readSum_49 (r_X5_readExpr (7 - v)) (fun a0 a1 a2 a3 => lp (b8 (r_X5_readExpr (7 - v))) N (a0, a1, a2, a3)) 80 (nI v) (nI i) t0 (mk σ w u)) := by
    intro o t0 ht hk0 eq
    unfold f_X5_readSum_49
    rw [nI_1]
    refine pq_op (B := fun r1 => f_X5_readProduct (r_X5_readExpr (7 - v)) 80 (nI v) r1) (G := fun r5 => lp (b8 (r_X5_readExpr (7 - v))) N (80, nI v, nI (i + 1), r5)) eq cg cr hl hk0 ht (fun y τ hy cg1 cr1 hl1 => (ih v _ y τ C (e + 1) hv cg1 cr1 hl1).2.1 hy) (fun K' y τ c hy cg1 cr1 hl1 hlt => (ih v K' y τ (C ++ c) e hv cg1 cr1 hl1).2.2.2.2.2.2.2.2.1 N (i + 1) (by omega) (by omega) hy) (fun τ f p cf => ?_)
    obtain ⟨N, rfl⟩ : ∃ M, N = M + 1 := ⟨N - 1, by have := o4 hk0; omega⟩
    exact ⟨τ, ⟨Fr_r _ _, cf⟩, in_l8 cf N⟩
  unfold f_X5_readSum_7
  rw [zi80_5, Option.bind_some, cg.2.2.2.1]
  by_cases c1 : K.2.2 = 3 ∧ T K.1 = 43
  · have o4 := o4 (by omega)
    rw [if_pos c1] at eq
    rw [if_neg (nI_ge (show i < n by omega) (by omega)), isg_1 (c := 43) (x := 43) rfl (by decide) cg c1, Option.bind_some]
    dsimp only
    rw [if_neg (show ¬ nI 1 = 0 by decide)]
    unfold f_X5_readSum_33
    rw [isg_1 (c := 43) (x := 43) rfl (by decide) cg c1, Option.bind_some]
    dsimp only
    rw [if_neg (show ¬ nI 1 = 0 by decide)]
    exact go 8 _ rfl (by omega) eq
  · rw [if_neg c1] at eq
    by_cases c2 : K.2.2 = 3 ∧ T K.1 = 45
    · have o4 := o4 (by omega)
      rw [if_pos c2] at eq
      rw [if_neg (nI_ge (show i < n by omega) (by omega)), isg_0 (c := 43) (x := 43) rfl (by decide) cg c1, Option.bind_some]
      dsimp only
      rw [if_pos (show nI 0 = 0 from rfl), isg_1 (c := 45) (x := 45) rfl (by decide) cg c2, Option.bind_some]
      dsimp only
      rw [if_neg (show ¬ nI 1 = 0 by decide)]
      unfold f_X5_readSum_33
      rw [isg_0 (c := 43) (x := 43) rfl (by decide) cg c1, Option.bind_some]
      dsimp only
      rw [if_pos (show nI 0 = 0 from rfl)]
      exact go 9 _ rfl (by omega) eq
    · rw [if_neg c2] at eq
      have fin := pq_nil (w := w) (u := u) eq cg cr hl
      unfold f_X5_readSum_76
      split
      · exact fin
      · rw [isg_0 (c := 43) (x := 43) rfl (by decide) cg c1, Option.bind_some]
        dsimp only
        rw [if_pos (show nI 0 = 0 from rfl), isg_0 (c := 45) (x := 45) rfl (by decide) cg c2, Option.bind_some]
        dsimp only
        rw [if_pos (show nI 0 = 0 from rfl)]
        exact fin
theorem tail9_f {d v : Nat} {x : (Nat × Nat) ⊕ (List (Nat × Nat) × Nat × Nat × Nat)} (ih : CPs T n d w u) (hv : v ≤ 5) (cg : CG σ T n K) (cr : CR σ C) (hl : C.length + e ≤ K.1) {N i : Nat} (hi : i ≤ C.length) (hN : 700 < N + C.length) (eq : ps T n (d + 1) 9 v K = some x) : pq T n σ C e w u x (lp (b9 (r_X5_readExpr (7 - v))) N (80, nI v, nI i, mk σ w u)) := by
  have hn := cg.2.2.2.2.2.2.2
  have o2 := cg.2.2.2.2.2.1.2.1
  have o4 := cg.2.2.2.2.2.1.2.2.2.1
  have hK : K.1 ≤ n := Nat.le_trans cg.2.2.2.2.2.1.1 o2
  obtain ⟨N, rfl⟩ : ∃ M, N = M + 1 := ⟨N - 1, by omega⟩
  rw [ps_9] at eq
  rw [b9_1]
  unfold f_X5_readAnd_7
  rw [zi80_5, Option.bind_some, cg.2.2.2.1]
  by_cases c1 : kw T K = 12
  · have hk2 := kw_2 (T := T) (K := K) (by omega)
    have o4 := o4 (by omega)
    rw [if_pos c1] at eq
    rw [if_neg (nI_ge (show i < n by omega) (by omega)), isw_1 (i := 11) (by decide) wd_and cg c1, Option.bind_some]
    dsimp only
    rw [if_neg (show ¬ nI 1 = 0 by decide), nI_1]
    refine pq_op (B := fun r1 => f_X5_readNot (r_X5_readExpr (7 - v)) 80 (nI v) r1) (G := fun r5 => lp (b9 (r_X5_readExpr (7 - v))) N (80, nI v, nI (i + 1), r5)) eq cg cr hl (by omega) rfl (fun y τ hy cg1 cr1 hl1 => (ih v _ y τ C (e + 1) hv cg1 cr1 hl1).2.2.2.2.1 hy) (fun K' y τ c hy cg1 cr1 hl1 hlt => (ih v K' y τ (C ++ c) e hv cg1 cr1 hl1).2.2.2.2.2.2.2.2.2.1 N (i + 1) (by omega) (by omega) hy) (fun τ f p cf => ?_)
    obtain ⟨N, rfl⟩ : ∃ M, N = M + 1 := ⟨N - 1, by omega⟩
    exact ⟨τ, ⟨Fr_r _ _, cf⟩, in_l9 cf N⟩
  · rw [if_neg c1] at eq
    have fin := pq_nil (w := w) (u := u) eq cg cr hl
    unfold f_X5_readAnd_51
    split
    · exact fin
    · rw [isw_0 (i := 11) (by decide) wd_and cg c1, Option.bind_some]
      dsimp only
      rw [if_pos (show nI 0 = 0 from rfl)]
      exact fin
theorem tail10_f {d v : Nat} {x : (Nat × Nat) ⊕ (List (Nat × Nat) × Nat × Nat × Nat)} (ih : CPs T n d w u) (hv : v ≤ 5) (cg : CG σ T n K) (cr : CR σ C) (hl : C.length + e ≤ K.1) {N i : Nat} (hi : i ≤ C.length) (hN : 700 < N + C.length) (eq : ps T n (d + 1) 10 v K = some x) : pq T n σ C e w u x (lp (b10 (r_X5_readExpr (7 - v))) N (80, nI v, nI i, mk σ w u)) := by
  have hn := cg.2.2.2.2.2.2.2
  have o2 := cg.2.2.2.2.2.1.2.1
  have o4 := cg.2.2.2.2.2.1.2.2.2.1
  have hK : K.1 ≤ n := Nat.le_trans cg.2.2.2.2.2.1.1 o2
  obtain ⟨N, rfl⟩ : ∃ M, N = M + 1 := ⟨N - 1, by omega⟩
  rw [ps_10] at eq
  rw [b10_1]
  unfold f_X5_readExpr_48
  rw [zi80_5, Option.bind_some, cg.2.2.2.1]
  by_cases c1 : kw T K = 13
  · have hk2 := kw_2 (T := T) (K := K) (by omega)
    have o4 := o4 (by omega)
    rw [if_pos c1] at eq
    rw [if_neg (nI_ge (show i < n by omega) (by omega)), isw_1 (i := 12) (by decide) wd_or cg c1, Option.bind_some]
    dsimp only
    rw [if_neg (show ¬ nI 1 = 0 by decide), nI_1]
    refine pq_op (B := fun r1 => f_X5_readAnd (r_X5_readExpr (7 - v)) 80 (nI v) r1) (G := fun r5 => lp (b10 (r_X5_readExpr (7 - v))) N (80, nI v, nI (i + 1), r5)) eq cg cr hl (by omega) rfl (fun y τ hy cg1 cr1 hl1 => (ih v _ y τ C (e + 1) hv cg1 cr1 hl1).2.2.2.2.2.1 hy) (fun K' y τ c hy cg1 cr1 hl1 hlt => (ih v K' y τ (C ++ c) e hv cg1 cr1 hl1).2.2.2.2.2.2.2.2.2.2.1 N (i + 1) (by omega) (by omega) hy) (fun τ f p cf => ?_)
    obtain ⟨N, rfl⟩ : ∃ M, N = M + 1 := ⟨N - 1, by omega⟩
    exact ⟨τ, ⟨Fr_r _ _, cf⟩, in_l10 cf N⟩
  · rw [if_neg c1] at eq
    have fin := pq_nil (w := w) (u := u) eq cg cr hl
    unfold f_X5_readExpr_92
    split
    · exact fin
    · rw [isw_0 (i := 12) (by decide) wd_or cg c1, Option.bind_some]
      dsimp only
      rw [if_pos (show nI 0 = 0 from rfl)]
      exact fin
theorem test_f {d v : Nat} {x : (Nat × Nat) ⊕ (List (Nat × Nat) × Nat × Nat × Nat)} (ih : CPs T n d w u) (hv : v ≤ 5) (cg : CG σ T n K) (cr : CR σ C) (hl : C.length + e ≤ K.1) (eq : ps T n (d + 1) 3 v K = some x) : pq T n σ C e w u x (f_X5_readTest (r_X5_readExpr (7 - v)) 80 (nI v) (mk σ w u)) := by
  rw [ps_3] at eq
  unfold f_X5_readTest
  rw [zg80]
  refine pq_bnd eq (fun y hy => (ih v K y σ C e hv cg cr hl).2.2.1 hy) (fun K' y τ c hf cg1 cr1 hl1 => ?_) (fun τ f p cf => ?_)
  · have go : ∀ o t0, t0 = eC o 0 → K'.2.2 ≠ 0 → suf (o, 0) (ps T n d 2 v (nxt T n K')) = some y → pq T n τ (C ++ c) e w u y (f_X5_readTest_39 (r_X5_readExpr (7 - v)) 80 (nI v) t0 (mk τ w u)) := by
      intro o t0 ht hk0 eq2
      unfold f_X5_readTest_39
      rw [← e_nil (suf _ _)] at eq2
      exact pq_op (B := fun r1 => f_X5_readSum (r_X5_readExpr (7 - v)) 80 (nI v) r1) (G := fun r5 => f_X5_readTest_60 (r_X5_readExpr (7 - v)) r5) eq2 cg1 cr1 hl1 hk0 ht (fun y2 τ2 hy2 cg2 cr2 hl2 => (ih v _ y2 τ2 (C ++ c) (e + 1) hv cg2 cr2 hl2).2.2.1 hy2) (fun K2 y2 τ2 c2 hy2 cg2 cr2 hl2 _ => pq_nil hy2 cg2 cr2 hl2) (fun τ2 f p cf => ⟨τ2, ⟨Fr_r _ _, cf⟩, rfl⟩)
    by_cases c1 : K'.2.2 = 3 ∧ T K'.1 = 60
    · rw [if_pos c1] at hf
      rw [isg_1 (c := 60) (x := 60) rfl (by decide) cg1 c1, Option.bind_some]
      dsimp only
      rw [if_neg (show ¬ nI 1 = 0 by decide)]
      unfold f_X5_readTest_23
      rw [isg_1 (c := 60) (x := 60) rfl (by decide) cg1 c1, Option.bind_some]
      dsimp only
      rw [if_neg (show ¬ nI 1 = 0 by decide)]
      exact go 6 _ rfl (by omega) hf
    · rw [if_neg c1] at hf
      rw [isg_0 (c := 60) (x := 60) rfl (by decide) cg1 c1, Option.bind_some]
      dsimp only
      rw [if_pos (show nI 0 = 0 from rfl)]
      by_cases c2 : K'.2.2 = 3 ∧ T K'.1 = 61
      · rw [if_pos c2] at hf
        rw [isg_1 (c := 61) (x := 61) rfl (by decide) cg1 c2, Option.bind_some]
        dsimp only
        rw [if_neg (show ¬ nI 1 = 0 by decide)]
        unfold f_X5_readTest_23
        rw [isg_0 (c := 60) (x := 60) rfl (by decide) cg1 c1, Option.bind_some]
        dsimp only
        rw [if_pos (show nI 0 = 0 from rfl)]
        exact go 7 _ rfl (by omega) hf
      · rw [if_neg c2] at hf
        rw [isg_0 (c := 61) (x := 61) rfl (by decide) cg1 c2, Option.bind_some]
        dsimp only
        rw [if_pos (show nI 0 = 0 from rfl)]
        exact pq_nil hf cg1 cr1 hl1
  · unfold f_X5_readTest_60
    refine ⟨τ, ⟨Fr_r _ _, cf⟩, ?_⟩
    rw [isSign_n cf.1 cf.2.2.1 cf.2.2.2, Option.bind_some]
    dsimp only
    rw [if_pos (show nI 0 = 0 from rfl), isSign_n cf.1 cf.2.2.1 cf.2.2.2, Option.bind_some]
    dsimp only
    rw [if_pos (show nI 0 = 0 from rfl)]
theorem nots_f {d v : Nat} {x : (Nat × Nat) ⊕ (List (Nat × Nat) × Nat × Nat × Nat)} (ih : CPs T n d w u) (hv : v ≤ 5) (cg : CG σ T n K) (cr : CR σ C) (hl : C.length + e ≤ K.1) {N j : Nat} (hj : j ≤ 6) (hlj : C.length + e + j ≤ K.1) (hN : 8 < N + j) (eq : ps T n (d + 1) (11 + j) v K = some x) : pq T n σ C e w u (pj j x) (lp (b11 (r_X5_readExpr (7 - v))) N (80, nI v, nI j, nI j, mk σ w u)) := by
  have hn := cg.2.2.2.2.2.2.2
  have o2 := cg.2.2.2.2.2.1.2.1
  have o4 := cg.2.2.2.2.2.1.2.2.2.1
  obtain ⟨N, rfl⟩ : ∃ M, N = M + 1 := ⟨N - 1, by omega⟩
  rw [ps_11] at eq
  rw [b11_1]
  unfold f_X5_readNot_4
  by_cases c1 : kw T K = 14
  · have hk2 := kw_2 (T := T) (K := K) (by omega)
    have o4 := o4 (by omega)
    have hgt : K.1 < (nxt T n K).1 := Nat.lt_of_lt_of_le o4 (tok_ok hn o2).2
    rw [if_pos c1] at eq
    by_cases c2 : 11 + j = 17
    · rw [if_pos c2] at eq
      cases eq
      have hj6 : j = 6 := by omega
      subst hj6
      obtain ⟨τ, ⟨fr, cf⟩, e2⟩ := fail_G (w := w) (u := u) cg (f := 2) (by omega) (by omega)
      obtain ⟨τ2, ⟨fr2, cf2⟩, e3⟩ := in_46 (w := w) (u := u) (rec := r_X5_readExpr (7 - v)) (x := nI v) cf (j := 6) (by omega)
      unfold f_X5_readNot_32
      rw [if_pos (by decide), isw_1 (i := 13) (by decide) wd_not cg c1, Option.bind_some]
      dsimp only
      rw [if_neg (show ¬ nI 1 = 0 by decide), show f_X5_fail 80 2 (mk σ w u) = some (mk τ w u) from e2, Option.bind_some, e3]
      exact ⟨τ2, ⟨Fr_t (Wrd_x fr) fr2, cf2⟩, rfl⟩
    · rw [if_neg c2] at eq
      obtain ⟨τ, ⟨fr, cg1⟩, eA⟩ := adv_G (w := w) (u := u) cg
      have cr1 : CR τ C := CR_F cr fr (fun q k e => by unfold Wrd at e; omega)
      rw [if_neg (show ¬ (6 : Int32) ≤ nI j from nI_ge (b := 6) (by omega) (by decide)), isw_1 (i := 13) (by decide) wd_not cg c1, Option.bind_some]
      dsimp only
      rw [if_neg (show ¬ nI 1 = 0 by decide), eA, Option.bind_some, nI_1]
      refine pq_t (Wrd_x fr) ?_
      cases h6 : ps T n d (11 + (j + 1)) v (nxt T n K) with
      | none => rw [h6] at eq; cases eq
      | some y =>
        have hy := (ih v (nxt T n K) y τ C e hv cg1 cr1 (by omega)).2.2.2.2.2.2.2.2.2.2.2 N (j + 1) (by omega) (by omega) (by omega) h6
        rw [h6] at eq
        match y, hy with
        | .inl (f1, p1), hy =>
          cases eq
          exact hy
        | .inr (c, K2), hy =>
          cases eq
          have er : c ++ [(3, 0)] ++ rep3 j = c ++ rep3 (j + 1) := by rw [rep3_S, List.append_assoc]; rfl
          show pq T n τ C e w u (.inr (c ++ [(3, 0)] ++ rep3 j, K2)) _
          rw [er]
          exact hy
  · rw [if_neg c1] at eq
    have hy := (ih v K x σ C (e + j) hv cg cr (by omega)).2.2.2.1 eq
    have fin : pq T n σ C e w u (pj j x) (f_X5_readNot_46 (r_X5_readExpr (7 - v)) 80 (nI v) (nI j) (mk σ w u)) := by
      unfold f_X5_readNot_46
      match x, hy with
      | .inl (f1, p1), hy =>
        obtain ⟨τ, ⟨fr, cf⟩, hA⟩ := hy
        obtain ⟨τ2, ⟨fr2, cf2⟩, hB⟩ := in_l53 (w := w) (u := u) (rec := r_X5_readExpr (7 - v)) (j := j) cf j 0 (99999 + 1) τ cf (by omega) (by omega) (by omega)
        rw [hA, Option.bind_some, b53_l]
        exact ⟨τ2, ⟨Fr_t fr fr2, cf2⟩, hB⟩
      | .inr (c, K2), hy =>
        obtain ⟨hl2, τ, ⟨fr, cg2, cr2⟩, hA⟩ := hy
        have h9 := l53_f (w := w) (u := u) (e := e) (rec := r_X5_readExpr (7 - v)) (j := j) hn j 0 (99999 + 1) τ (C ++ c) cg2 cr2 (by omega) (by omega) (by omega) (by omega)
        obtain ⟨h10, τ2, ⟨fr2, q2⟩, hB⟩ := h9
        rw [hA, Option.bind_some, b53_l]
        rw [List.append_assoc] at h10 q2
        exact ⟨h10, τ2, ⟨Fr_t fr fr2, q2⟩, hB⟩
    have f32 : f_X5_readNot_32 (r_X5_readExpr (7 - v)) 80 (nI v) (nI j) (mk σ w u) = f_X5_readNot_46 (r_X5_readExpr (7 - v)) 80 (nI v) (nI j) (mk σ w u) := by
      unfold f_X5_readNot_32
      rw [isw_0 (i := 13) (by decide) wd_not cg c1, Option.bind_some]
      dsimp only
      rw [if_pos (show nI 0 = 0 from rfl)]
    split
    · rw [f32]
      exact fin
    · rw [isw_0 (i := 13) (by decide) wd_not cg c1, Option.bind_some]
      dsimp only
      rw [if_pos (show nI 0 = 0 from rfl), f32]
      exact fin
theorem pj_0 (x : (Nat × Nat) ⊕ (List (Nat × Nat) × Nat × Nat × Nat)) : pj 0 x = x := by
  match x with
  | .inl _ => rfl
  | .inr (c, K) => show Sum.inr (c ++ [], K) = _; rw [List.append_nil]
theorem CP_all : ∀ d, CPs T n d w u := by
  intro d
  induction d with
  | zero =>
    intro v K x σ C e hv cg cr hl
    exact ⟨fun h => (by cases h), fun h => (by cases h), fun h => (by cases h), fun h => (by cases h), fun h => (by cases h), fun h => (by cases h), fun h => (by cases h), fun _ _ _ _ h => (by cases h), fun _ _ _ _ h => (by cases h), fun _ _ _ _ h => (by cases h), fun _ _ _ _ h => (by cases h), fun _ _ _ _ _ h => by cases h⟩
  | succ d ih =>
    intro v K x σ C e hv cg cr hl
    refine ⟨fun h => part_f ih hv cg cr hl h, fun h => ?_, fun h => ?_, fun h => test_f ih hv cg cr hl h, fun h => ?_, fun h => ?_, fun h => ?_, fun N i h1 h2 h => tail7_f ih hv cg cr hl h1 h2 h, fun N i h1 h2 h => tail8_f ih hv cg cr hl h1 h2 h, fun N i h1 h2 h => tail9_f ih hv cg cr hl h1 h2 h, fun N i h1 h2 h => tail10_f ih hv cg cr hl h1 h2 h, fun N j h1 h2 h3 h => nots_f ih hv cg cr hl h1 h2 h3 h⟩
    · rw [ps_1] at h
      unfold f_X5_readProduct
      rw [zg80]
      simp only [b7_l]
      exact pq_bnd h (fun y hy => (ih v K y σ C e hv cg cr hl).1 hy) (fun K' y τ c hf cg1 cr1 hl1 => (ih v K' y τ (C ++ c) e hv cg1 cr1 hl1).2.2.2.2.2.2.2.1 (99999 + 1) 0 (by omega) (by omega) hf) (fun τ f p cf => ⟨τ, ⟨Fr_r _ _, cf⟩, in_l7 cf 99999⟩)
    · rw [ps_2] at h
      unfold f_X5_readSum
      rw [zg80]
      simp only [b8_l]
      exact pq_bnd h (fun y hy => (ih v K y σ C e hv cg cr hl).2.1 hy) (fun K' y τ c hf cg1 cr1 hl1 => (ih v K' y τ (C ++ c) e hv cg1 cr1 hl1).2.2.2.2.2.2.2.2.1 (99999 + 1) 0 (by omega) (by omega) hf) (fun τ f p cf => ⟨τ, ⟨Fr_r _ _, cf⟩, in_l8 cf 99999⟩)
    · rw [ps_4] at h
      unfold f_X5_readNot
      rw [zg80, b11_l]
      have h9 := (ih v K x σ C e hv cg cr hl).2.2.2.2.2.2.2.2.2.2.2 (99999 + 1) 0 (by omega) (by omega) (by omega) h
      rw [pj_0] at h9
      exact h9
    · rw [ps_5] at h
      unfold f_X5_readAnd
      rw [zg80]
      simp only [b9_l]
      exact pq_bnd h (fun y hy => (ih v K y σ C e hv cg cr hl).2.2.2.2.1 hy) (fun K' y τ c hf cg1 cr1 hl1 => (ih v K' y τ (C ++ c) e hv cg1 cr1 hl1).2.2.2.2.2.2.2.2.2.1 (99999 + 1) 0 (by omega) (by omega) hf) (fun τ f p cf => ⟨τ, ⟨Fr_r _ _, cf⟩, in_l9 cf 99999⟩)
    · rw [ps_6] at h
      unfold f_X5_readExpr
      rw [zg80, if_pos (show nI v < 6 from (nI_ltI (b := 6) (by omega) (by decide)).mpr (by omega))]
      simp only [b10_l]
      exact pq_bnd h (fun y hy => (ih v K y σ C e hv cg cr hl).2.2.2.2.2.1 hy) (fun K' y τ c hf cg1 cr1 hl1 => (ih v K' y τ (C ++ c) e hv cg1 cr1 hl1).2.2.2.2.2.2.2.2.2.2.1 (99999 + 1) 0 (by omega) (by omega) hf) (fun τ f p cf => ⟨τ, ⟨Fr_r _ _, cf⟩, in_l10 cf 99999⟩)
theorem expr_f {d : Nat} {x : (Nat × Nat) ⊕ (List (Nat × Nat) × Nat × Nat × Nat)} (eq : ps T n d 6 0 K = some x) (cg : CG σ T n K) (cr : CR σ []) : pq T n σ [] 0 w u x (r_X5_readExpr 8 80 0 (mk σ w u)) := (CP_all d 0 K x σ [] 0 (by omega) cg cr (Nat.zero_le _)).2.2.2.2.2.2.1 eq
end CQ
