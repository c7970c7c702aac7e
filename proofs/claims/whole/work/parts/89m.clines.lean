/-! L3: the class reads lines -/
def fg (x : Nat) : Nat := if x = 0 then 0 else 1
def fp9 (P : List (Nat × Nat)) : Nat := if P = [] then 0 else 1
def told (Q : Nat → Nat) (P : List (Nat × Nat)) : Nat := fg (Q 0) + 2 * fg (Q 3) + 4 * fg (Q 4) + 8 * fp9 P
theorem fg_lt (x : Nat) : fg x < 2 := by unfold fg; split <;> omega
theorem fp_lt (P : List (Nat × Nat)) : fp9 P < 2 := by unfold fp9; split <;> omega
theorem fg_0 {x : Nat} (h : x = 0) : fg x = 0 := if_pos h
theorem fg_1 {x : Nat} (h : x ≠ 0) : fg x = 1 := if_neg h
theorem tb_all : ∀ a, a < 2 → ∀ b, b < 2 → ∀ c, c < 2 → ∀ d, d < 2 → (nI (a + 2 * b + 4 * c + 8 * d) &&& 1 = 0 ↔ a = 0) ∧ (nI (a + 2 * b + 4 * c + 8 * d) &&& 2 = 0 ↔ b = 0) ∧ (nI (a + 2 * b + 4 * c + 8 * d) &&& 4 = 0 ↔ c = 0) ∧ (nI (a + 2 * b + 4 * c + 8 * d) &&& 8 = 0 ↔ d = 0) ∧ nI (a + 2 * b + 4 * c + 8 * d) ||| 1 = nI (1 + 2 * b + 4 * c + 8 * d) ∧ nI (a + 2 * b + 4 * c + 8 * d) ||| 2 = nI (a + 2 * 1 + 4 * c + 8 * d) ∧ nI (a + 2 * b + 4 * c + 8 * d) ||| 4 = nI (a + 2 * b + 4 * 1 + 8 * d) ∧ nI (a + 2 * b + 4 * c + 8 * d) ||| 8 = nI (a + 2 * b + 4 * c + 8 * 1) := by
  intro a ha b hb c hc d hd
  have h1 : a = 0 ∨ a = 1 := by omega
  have h2 : b = 0 ∨ b = 1 := by omega
  have h3 : c = 0 ∨ c = 1 := by omega
  have h4 : d = 0 ∨ d = 1 := by omega
  rcases h1 with e1 | e1 <;> rcases h2 with e2 | e2 <;> rcases h3 with e3 | e3 <;> rcases h4 with e4 | e4 <;> subst e1 <;> subst e2 <;> subst e3 <;> subst e4 <;> decide
section CN
variable {σ τ : Nat → Nat → Int32} {w u : Int64} {T : Nat → Nat} {n : Nat} {K : Nat × Nat × Nat} {Q : Nat → Nat} {P : List (Nat × Nat)}
def Wrm (q _k : Nat) : Prop := 80 ≤ q ∧ q < 100
def Wrl (q k : Nat) : Prop := 80 ≤ q ∧ q < 100 ∧ ¬ (q = 81 ∧ k = 1)
def mb8 (τ : Nat → Nat → Int32) : Prop := ∃ m, m ≤ 8 ∧ τ 81 1 = nI m
theorem Wl_m (h : Fr Wrl σ τ) : Fr Wrm σ τ := Fr_m h (fun q k e => by unfold Wrl at e; unfold Wrm; omega)
theorem mb8_F (h : mb8 σ) (fr : Fr Wrl σ τ) : mb8 τ := by
  obtain ⟨m, h1, h2⟩ := h
  exact ⟨m, h1, by rw [fr 81 1 (by unfold Wrl; omega)]; exact h2⟩
def Wpo (q k : Nat) : Prop := q = 80 ∧ k ≤ 10
theorem Wrd_l (h : Fr Wrd σ τ) : Fr Wrl σ τ := Fr_m h (fun q k e => by unfold Wrd at e; unfold Wrl; omega)
theorem Wpo_l (h : Fr Wpo σ τ) : Fr Wrl σ τ := Fr_m h (fun q k e => by unfold Wpo at e; unfold Wrl; omega)
theorem Wx_l (h : Fr Wx σ τ) : Fr Wrl σ τ := Fr_m h (fun q k e => by unfold Wx at e; unfold Wrl; omega)
def CB (σ : Nat → Nat → Int32) (Q : Nat → Nat) (P : List (Nat × Nat)) : Prop := σ 81 0 = nI (bq Q) ∧ σ 81 1 = nI (Q 1) ∧ σ 81 2 = nI (Q 2) ∧ σ 81 3 = nI (sq3 Q) ∧ σ 81 4 = nI (Q 4) ∧ (∀ j, j < Q 4 → σ 83 j = nI (Q (5 + j))) ∧ CR σ P ∧ σ 91 1 = nI 0 ∧ (∀ i, i < 8 → σ 93 i = nI (Q (13 + i)) ∧ σ 95 i = nI (Q (21 + i)) ∧ σ 97 i = nI 0 ∧ σ 99 i = nI (Q (29 + i))) ∧ σ 80 11 = nI (Q 37)
def CL (σ : Nat → Nat → Int32) (Q : Nat → Nat) (P : List (Nat × Nat)) : Prop := CB σ Q P ∧ σ 80 10 = nI (told Q P)
theorem CB_F {V : Nat → Nat → Prop} (cb : CB σ Q P) (fr : Fr V σ τ) (hw : ∀ q k, V q k → ¬ (80 ≤ q ∧ q < 100) ∨ (q = 80 ∧ k ≠ 11)) : CB τ Q P := by
  obtain ⟨b0, b1, b2, b3, b4, b5, b6, b7, b8, b9⟩ := cb
  have g : ∀ q k, 80 < q → q < 100 → τ q k = σ q k := fun q k h1 h2 => fr q k (fun e => by have := hw q k e; omega)
  exact ⟨by rw [g _ _ (by omega) (by omega)]; exact b0, by rw [g _ _ (by omega) (by omega)]; exact b1, by rw [g _ _ (by omega) (by omega)]; exact b2, by rw [g _ _ (by omega) (by omega)]; exact b3, by rw [g _ _ (by omega) (by omega)]; exact b4, fun j hj => by rw [g _ _ (by omega) (by omega)]; exact b5 j hj, CR_F b6 fr (fun q k e => by have := hw q k e; omega), by rw [g _ _ (by omega) (by omega)]; exact b7, fun i hi => by rw [g _ _ (by omega) (by omega), g _ _ (by omega) (by omega), g _ _ (by omega) (by omega), g _ _ (by omega) (by omega)]; exact b8 i hi, by rw [fr 80 11 (fun e => by have := hw _ _ e; omega)]; exact b9⟩
def lq (T : Nat → Nat) (n : Nat) (σ : Nat → Nat → Int32) (w u : Int64) : LnR → Option hp_H → Prop
  | .inl (f, p), r => RN (fun τ => Fr Wrm σ τ ∧ CF τ f p ∧ mb8 τ) w u r
  | .inr (Q, P, K), r => RN (fun τ => Fr Wrm σ τ ∧ CG τ T n K ∧ CL τ Q P) w u r
theorem CL_m (cl : CL σ Q P) (wq : WQ Q P) : mb8 σ := ⟨Q 1, wq.2.1, cl.1.2.1⟩
theorem lq_t {x : LnR} {r : Option hp_H} (fr : Fr Wrm σ τ) (h : lq T n τ w u x r) : lq T n σ w u x r := by
  match x, h with
  | .inl (f, p), ⟨τ', ⟨f1, h1⟩, h2⟩ => exact ⟨τ', ⟨Fr_t fr f1, h1⟩, h2⟩
  | .inr (Q, P, K), ⟨τ', ⟨f1, h1⟩, h2⟩ => exact ⟨τ', ⟨Fr_t fr f1, h1⟩, h2⟩
theorem take_9 (cg : CG σ T n K) {lo hi : Nat} (hl : lo ≤ 9999) (hh : hi ≤ 9999) : match num9 T n lo hi K with
  | .inl (f, p) => RQ (fun τ => Fr Wrd σ τ ∧ CF τ f p) w u (nI 0) (f_X5_take 80 (nI lo) (nI hi) (mk σ w u))
  | .inr (a, K1) => RQ (fun τ => Fr Wrd σ τ ∧ CG τ T n K1) w u (nI a) (f_X5_take 80 (nI lo) (nI hi) (mk σ w u)) := by
  unfold num9
  rcases take_f (w := w) (u := u) cg hl hh with ⟨⟨k1, k2, k3, k4⟩, h⟩ | ⟨hn, h⟩
  · rw [if_pos k1, if_pos ⟨k2, k3, k4⟩]
    exact h
  · by_cases c : K.2.2 = 1
    · rw [if_pos c, if_neg (fun e => hn ⟨c, e⟩)]
      rw [show nmF K = 2 by unfold nmF; rw [if_pos c]] at h
      exact h
    · rw [if_neg c]
      rw [show nmF K = 1 by unfold nmF; rw [if_neg c]] at h
      exact h
theorem once_1 (cg : CG σ T n K) {t t' : Nat} {b : Int32} (h10 : σ 80 10 = nI t) (hb : nI t &&& b = 0) (ho : nI t ||| b = nI t') : RN (fun τ => Fr Wpo σ τ ∧ CG τ T n (nxt T n K) ∧ τ 80 10 = nI t') w u (f_X5_passOnce 80 b (mk σ w u)) := by
  have fr1 : Fr (fun q k => q = 80 ∧ k = 10) σ (s2 σ 80 10 (nI t')) := Fr_s ⟨rfl, rfl⟩
  obtain ⟨τ, ⟨fr, cg1⟩, e1⟩ := adv_G (w := w) (u := u) (CG_F cg fr1 (fun q k e => by omega))
  unfold f_X5_passOnce f_X5_passOnce_14
  rw [zg80, zi80_10, Option.bind_some, h10, if_pos hb, Option.bind_some, ho, zw80_10, Option.bind_some, e1, Option.bind_some]
  exact ⟨τ, ⟨Fr_t (Fr_m fr1 (fun q k e => by unfold Wpo; omega)) (Fr_m fr (fun q k e => by unfold Wrd at e; unfold Wpo; omega)), cg1, by rw [fr 80 10 (by unfold Wrd; omega), s2_at rfl rfl]⟩, rfl⟩
theorem once_0 (cg : CG σ T n K) {t : Nat} {b : Int32} (h10 : σ 80 10 = nI t) (hb : ¬ nI t &&& b = 0) : RN (fun τ => Fr Wpo σ τ ∧ CF τ 5 K.1) w u (f_X5_passOnce 80 b (mk σ w u)) := by
  obtain ⟨τ, ⟨fr, cf⟩, e1⟩ := fail_G (w := w) (u := u) cg (f := 5) (by omega) (by omega)
  have fr1 : Fr (fun q k => q = 80 ∧ k = 10) τ (s2 τ 80 10 (τ 80 10 ||| b)) := Fr_s ⟨rfl, rfl⟩
  have cf1 := CF_F cf fr1 (fun q k e => by omega)
  unfold f_X5_passOnce f_X5_passOnce_14
  rw [zg80, zi80_10, Option.bind_some, h10, if_neg hb, show f_X5_fail 80 5 (mk σ w u) = some (mk τ w u) from e1, Option.bind_some, zi80_10, Option.bind_some, zw80_10, Option.bind_some, advance_n cf1.1 cf1.2.2.1 cf1.2.2.2, Option.bind_some]
  exact ⟨_, ⟨Fr_t (Fr_m fr (fun q k e => by unfold Wrd at e; unfold Wpo; omega)) (Fr_m fr1 (fun q k e => by unfold Wpo; omega)), cf1⟩, rfl⟩
theorem isNN_0 {f p : Nat} (cf : CF σ f p) {x : Int32} : f_X5_isNumberNext 80 x (mk σ w u) = some (nI 0, mk σ w u) := by
  unfold f_X5_isNumberNext f_X5_isNumberNext_23 f_X5_isNumberNext_24
  rw [zg80, zi80_2, Option.bind_some, cf.1, if_neg (nI_ne0 (by have := cf.2.2.1; omega) (by have := cf.2.2.2; omega)), if_pos (by decide)]
  rfl
theorem isNN_f (cg : CG σ T n K) {a : Nat} (ha : a < 100) : f_X5_isNumberNext 80 (nI a) (mk σ w u) = some (nI (if a = 0 ∨ K.2.2 = 1 then 1 else 0), mk σ w u) := by
  have c7 := cg.2.2.2.2.1.2.1
  have o3 := cg.2.2.2.2.2.1.2.2.1
  unfold f_X5_isNumberNext f_X5_isNumberNext_23 f_X5_isNumberNext_19 f_X5_isNumberNext_24
  rw [zg80, zi80_2, Option.bind_some, cg.2.1, if_pos (show nI 0 = 0 from rfl)]
  by_cases c : a = 0
  · subst c
    rw [if_pos (show nI 0 = 0 from rfl), if_pos (by decide), if_pos (Or.inl rfl)]
    rfl
  · rw [if_neg (nI_ne0 (by omega) (by omega)), zi80_7, Option.bind_some, c7]
    by_cases c2 : K.2.2 = 1
    · rw [if_pos (show nI K.2.2 = 1 by rw [c2]; rfl), if_pos (by decide), if_pos (Or.inr c2)]
      rfl
    · rw [if_neg (show ¬ nI K.2.2 = 1 from fun e => c2 ((nI_eq (b := 1) (by omega) (by decide)).mp e)), if_pos (by decide), if_neg (by omega)]
      rfl
/-- a man's line -/
theorem readMan_f (cg : CG σ T n K) (cl : CL σ Q P) (wq : WQ Q P) : lq T n σ w u (if Q 1 = 8 then .inl (2, K.1) else man9 T n Q P (nxt T n K)) (f_X5_readMan 80 (mk σ w u)) := by
  have b1 := cl.1.2.1
  have w1 := wq.2.1
  unfold f_X5_readMan
  rw [zg80, zr80_0, Option.bind_some, zi81_1, Option.bind_some, b1]
  by_cases c : Q 1 = 8
  · obtain ⟨τ, ⟨fr, cf⟩, e1⟩ := fail_G (w := w) (u := u) cg (f := 2) (by omega) (by omega)
    rw [if_pos c, if_neg (show ¬ nI (Q 1) < 8 from nI_nlt (b := 8) (by omega) (by omega)), show f_X5_fail 80 2 (mk σ w u) = some (mk τ w u) from e1, Option.bind_some]
    exact ⟨τ, ⟨Wl_m (Wrd_l fr), cf, mb8_F (CL_m cl wq) (Wrd_l fr)⟩, rfl⟩
  · obtain ⟨τ, ⟨fr, cg1⟩, e1⟩ := adv_G (w := w) (u := u) cg
    have cb1 := CB_F cl.1 fr (fun q k e => by unfold Wrd at e; omega)
    have t1 : τ 80 10 = nI (told Q P) := by rw [fr 80 10 (by unfold Wrd; omega)]; exact cl.2
    rw [if_neg c, if_pos (show nI (Q 1) < 8 from (nI_ltI (b := 8) (by omega) (by decide)).mpr (by omega)), e1, Option.bind_some, zr80_1, Option.bind_some, zr91_2, Option.bind_some, zr80_0, Option.bind_some, zi81_1, Option.bind_some, cb1.2.1]
    refine lq_t (Wl_m (Wrd_l fr)) ?_
    have fin : ∀ (τ2 : Nat → Nat → Int32) (b : Int32), Fr Wrm τ τ2 → τ2 81 1 = nI (Q 1) → ∀ f p, CF τ2 f p → (∃ τ3, Fr Wrm τ τ3 ∧ (CF τ3 f p ∧ mb8 τ3) ∧ ((f_X2_set 94 (nI (Q 1)) b (mk τ2 w u)).bind fun r15 => (rd_R r15 80 5 0).bind fun v16 => (rd_I r15 v16 1 1).bind fun v17 => (wr_I r15 v16 1 1 (v17 + 1)).bind fun h18 => some h18) = some (mk τ3 w u)) := by
      intro τ2 b f2 h81 f p cf
      refine ⟨s2 (s2 τ2 95 (Q 1) b) 81 1 (nI (Q 1) + 1), Fr_st (Fr_st f2 (by unfold Wrm; omega)) (by unfold Wrm; omega), ⟨CF_F cf (Fr_st (Fr_s (W := fun q k => q = 95 ∨ q = 81) (Or.inl rfl)) (Or.inr rfl)) (fun q k e => by omega), Q 1 + 1, by omega, by rw [s2_at rfl rfl, nI_1]⟩, ?_⟩
      rw [zs94 (by omega), Option.bind_some, zr80_0, Option.bind_some, zi81_1, Option.bind_some, s2_off (by omega), h81, zw81_1, Option.bind_some]
    unfold man9
    have h1 := take_9 (w := w) (u := u) cg1 (lo := 0) (hi := 4095) (by omega) (by omega)
    match hr : num9 T n 0 4095 (nxt T n K), h1 with
    | .inl (f, p), h1 =>
      obtain ⟨τ2, ⟨fr2, cf2⟩, e2⟩ := h1
      have f3 : Fr (fun q k => q = 93) τ2 (s2 τ2 93 (Q 1) (nI 0)) := Fr_s rfl
      have cf3 := CF_F cf2 f3 (fun q k e => by omega)
      obtain ⟨v, e3⟩ := take_n (w := w) (u := u) (a := 1) (b := 9) cf3
      have h81 : (s2 τ2 93 (Q 1) (nI 0)) 81 1 = nI (Q 1) := by rw [s2_off (by omega), fr2 81 1 (by unfold Wrd; omega)]; exact cb1.2.1
      obtain ⟨τ4, f4, cf4, e4⟩ := fin _ v (Fr_t (Wl_m (Wrd_l fr2)) (Fr_m f3 (fun q k e => by unfold Wrm; omega))) h81 f p cf3
      rw [show f_X5_take 80 0 4095 (mk τ w u) = some (nI 0, mk τ2 w u) from e2, Option.bind_some]
      dsimp only
      rw [zs92 (by omega), Option.bind_some, zr80_1, Option.bind_some, zr91_3, Option.bind_some, zr80_0, Option.bind_some, zi81_1, Option.bind_some, h81, e3, Option.bind_some]
      dsimp only
      rw [e4]
      exact ⟨τ4, ⟨f4, cf4⟩, rfl⟩
    | .inr (a, K1), h1 =>
      obtain ⟨τ2, ⟨fr2, cg2⟩, e2⟩ := h1
      have f3 : Fr (fun q k => q = 93) τ2 (s2 τ2 93 (Q 1) (nI a)) := Fr_s rfl
      have cg3 := CG_F cg2 f3 (fun q k e => by omega)
      have h81 : (s2 τ2 93 (Q 1) (nI a)) 81 1 = nI (Q 1) := by rw [s2_off (by omega), fr2 81 1 (by unfold Wrd; omega)]; exact cb1.2.1
      rw [show f_X5_take 80 0 4095 (mk τ w u) = some (nI a, mk τ2 w u) from e2, Option.bind_some]
      dsimp only
      rw [zs92 (by omega), Option.bind_some, zr80_1, Option.bind_some, zr91_3, Option.bind_some, zr80_0, Option.bind_some, zi81_1, Option.bind_some, h81]
      have h2 := take_9 (w := w) (u := u) cg3 (lo := 1) (hi := 9) (by omega) (by omega)
      match hr2 : num9 T n 1 9 K1, h2 with
      | .inl (f, p), h2 =>
        obtain ⟨τ4, ⟨fr4, cf4⟩, e4⟩ := h2
        obtain ⟨τ5, f5, cf5, e5⟩ := fin τ4 (nI 0) (Fr_t (Wl_m (Wrd_l fr2)) (Fr_t (Fr_m f3 (fun q k e => by unfold Wrm; omega)) (Wl_m (Wrd_l fr4)))) (by rw [fr4 81 1 (by unfold Wrd; omega)]; exact h81) f p cf4
        rw [show f_X5_take 80 1 9 (mk (s2 τ2 93 (Q 1) (nI a)) w u) = some (nI 0, mk τ4 w u) from e4, Option.bind_some]
        dsimp only
        rw [e5]
        exact ⟨τ5, ⟨f5, cf5⟩, rfl⟩
      | .inr (b, K2), h2 =>
        obtain ⟨τ4, ⟨fr4, cg4⟩, e4⟩ := h2
        rw [show f_X5_take 80 1 9 (mk (s2 τ2 93 (Q 1) (nI a)) w u) = some (nI b, mk τ4 w u) from e4, Option.bind_some]
        dsimp only
        have h81b : τ4 81 1 = nI (Q 1) := by rw [fr4 81 1 (by unfold Wrd; omega)]; exact h81
        rw [zs94 (by omega), Option.bind_some, zr80_0, Option.bind_some, zi81_1, Option.bind_some, s2_off (by omega), h81b, nI_1, zw81_1, Option.bind_some]
        have f5 : Fr (fun q k => q = 95 ∨ q = 81) τ4 (s2 (s2 τ4 95 (Q 1) (nI b)) 81 1 (nI (Q 1 + 1))) := Fr_st (Fr_s (Or.inl rfl)) (Or.inr rfl)
        refine ⟨_, ⟨Fr_t (Wl_m (Wrd_l fr2)) (Fr_t (Fr_m f3 (fun q k e => by unfold Wrm; omega)) (Fr_t (Wl_m (Wrd_l fr4)) (Fr_m f5 (fun q k e => by unfold Wrm; omega)))), CG_F cg4 f5 (fun q k e => by omega), ?_, ?_⟩, rfl⟩
        · obtain ⟨d0, d1, d2, d3, d4, d5, d6, d7, d8, d9⟩ := cb1
          have fa : Fr Wrd τ τ2 := fr2
          have g : ∀ q k, q ≠ 80 → q ≠ 93 → q ≠ 95 → ¬ (q = 81 ∧ k = 1) → (s2 (s2 τ4 95 (Q 1) (nI b)) 81 1 (nI (Q 1 + 1))) q k = τ q k := fun q k x1 x2 x3 x4 => by rw [s2_off x4, s2_off (by omega), fr4 q k (by unfold Wrd; omega), s2_off (by omega), fr2 q k (by unfold Wrd; omega)]
          have o : ∀ k, k ≠ 1 → k ≠ 13 + Q 1 → k ≠ 21 + Q 1 → un (un (un Q (13 + Q 1) a) (21 + Q 1) b) 1 (Q 1 + 1) k = Q k := fun k x1 x2 x3 => by rw [un_off x1, un_off x3, un_off x2]
          refine ⟨?_, ?_, ?_, ?_, ?_, ?_, ?_, ?_, ?_, ?_⟩
          · rw [g _ _ (by omega) (by omega) (by omega) (by omega), d0]; unfold bq; rw [o 0 (by omega) (by omega) (by omega)]
          · rw [s2_at rfl rfl, un_at rfl]
          · rw [g _ _ (by omega) (by omega) (by omega) (by omega), d2, o 2 (by omega) (by omega) (by omega)]
          · rw [g _ _ (by omega) (by omega) (by omega) (by omega), d3]; unfold sq3; rw [o 3 (by omega) (by omega) (by omega)]
          · rw [g _ _ (by omega) (by omega) (by omega) (by omega), d4, o 4 (by omega) (by omega) (by omega)]
          · intro j hj
            rw [o 4 (by omega) (by omega) (by omega)] at hj
            have := wq.2.2.2.2.1
            rw [g _ _ (by omega) (by omega) (by omega) (by omega), d5 j hj, o (5 + j) (by omega) (by omega) (by omega)]
          · exact ⟨by rw [g _ _ (by omega) (by omega) (by omega) (by omega)]; exact d6.1, fun j k m h => by rw [g _ _ (by omega) (by omega) (by omega) (by omega)]; exact d6.2 j k m h⟩
          · rw [g _ _ (by omega) (by omega) (by omega) (by omega)]; exact d7
          · intro i hi
            obtain ⟨x1, x2, x3, x4⟩ := d8 i hi
            refine ⟨?_, ?_, ?_, ?_⟩
            · rw [s2_off (by omega), s2_off (by omega), fr4 93 i (by unfold Wrd; omega)]
              by_cases ci : i = Q 1
              · rw [s2_at rfl ci, un_off (by omega), un_off (by omega), un_at (by omega)]
              · rw [s2_off (by omega), fr2 93 i (by unfold Wrd; omega), x1, o (13 + i) (by omega) (by omega) (by omega)]
            · rw [s2_off (by omega)]
              by_cases ci : i = Q 1
              · rw [s2_at rfl ci, un_off (by omega), un_at (by omega)]
              · rw [s2_off (by omega), fr4 95 i (by unfold Wrd; omega), s2_off (by omega), fr2 95 i (by unfold Wrd; omega), x2, o (21 + i) (by omega) (by omega) (by omega)]
            · rw [g _ _ (by omega) (by omega) (by omega) (by omega)]; exact x3
            · rw [g _ _ (by omega) (by omega) (by omega) (by omega), x4, o (29 + i) (by omega) (by omega) (by omega)]
          · rw [s2_off (by omega), s2_off (by omega), fr4 80 11 (by unfold Wrd; omega), s2_off (by omega), fr2 80 11 (by unfold Wrd; omega), d9, o 37 (by omega) (by omega) (by omega)]
        · rw [s2_off (by omega), s2_off (by omega), fr4 80 10 (by unfold Wrd; omega), s2_off (by omega), fr2 80 10 (by unfold Wrd; omega), t1]
          unfold told
          rw [un_off (by omega), un_off (by omega), un_off (by omega), un_off (by omega), un_off (by omega), un_off (by omega), un_off (by omega), un_off (by omega), un_off (by omega)]
end CN
