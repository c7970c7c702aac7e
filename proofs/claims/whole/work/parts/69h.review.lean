/-! L3: review -/
section RW
variable {σ : Nat → Nat → Int32} {w u : Int64} {A X : Nat → Nat} {P : List (Nat × Nat)}
theorem sek_pos {lo : Nat} {s : Nat × Nat} : ∀ n i, i < n → Us (dg (A 2) (lo + i)) (A 2) = 2 ^ A 2 - 1 → (sek A P X lo s n).1 ≠ 0 := by
  intro n
  induction n with
  | zero => intro i h; omega
  | succ n ih =>
    intro i h hf
    show (stq A P X (lo + n) (sek A P X lo s n)).1 ≠ 0
    unfold stq
    by_cases c : i = n
    · rw [c] at hf
      rw [if_pos hf]
      split
      · omega
      · show _ + 1 ≠ 0; omega
    · have := ih i (by omega) hf
      split
      · split
        · exact this
        · show _ + 1 ≠ 0; omega
      · exact this
theorem sek_id : (sek A P X 0 (0, 0) (A 2 ^ A 2)).1 ≠ 0 := by
  refine sek_pos _ (cod (A 2) (fun q => q) (A 2)) (cod_lt _ (fun i h => h)) ?_
  rw [Nat.zero_add]
  have h : ∀ q, q < A 2 → dg (A 2) (cod (A 2) (fun q => q) (A 2)) q = q := fun q hq => by
    have := dg_cod (R := A 2) (p := A 2) (d := 0) (i := 0) (q := q) (o := fun q => q) (by omega) (fun j h => h) (by rw [Nat.pow_zero]; exact Nat.one_pos) hq
    rw [Nat.pow_zero, Nat.mul_one, Nat.add_zero] at this
    exact this
  rw [Us_c h]
  exact full_e (Us_lt _ (fun q h => h)) (fun k hk => (Us_bt _ _ _).mpr ⟨k, hk, rfl⟩)
def rvw (A : Nat → Nat) (P : List (Nat × Nat)) (X : Nat → Nat) (c : Nat) : Int32 := if A 2 ≤ 6 then (if c = 0 then nJ (sek A P X 0 (0, 0) (A 2 ^ A 2)).1 else nI (dg (A 2) (sek A P X 0 (0, 0) (A 2 ^ A 2)).2 (c - 1))) else -2
theorem cl_review (cv : CV σ 34 A P X) (hx : X 0 ≤ 999) {c : Nat} (hc : c ≤ A 2) : RQ (Fr Ws σ) w u (rvw A P X c) (f_X10_review 0 (nJ c) (mk σ w u)) := by
  have hR8 := cv.2.2.2.1.2.2.2.1
  have a2 : σ 5 2 = nI (A 2) := cv.2.1.1.2.2.1
  have key : RQ (Fr Ws σ) w u (rvw A P X c) (f_X10_review_10 0 (nJ c) (mk σ w u)) := by
    unfold f_X10_review_10 rvw
    rw [zr0_4, Option.bind_some, zi5_2, Option.bind_some, a2]
    by_cases h6 : A 2 ≤ 6
    · obtain ⟨τ, ⟨f1, b1⟩, e1⟩ := seek_f (w := w) (u := u) cv hx h6
      rw [if_pos h6, if_pos (show nI (A 2) ≤ 6 from nI_le (b := 6) h6 (by decide)), zr0_12, Option.bind_some, zr0_8, Option.bind_some, e1, Option.bind_some]
      unfold f_X10_review_62
      by_cases c0 : c = 0
      · rw [c0, if_pos rfl, if_pos (show nJ 0 = -1 from rfl), zr0_12, Option.bind_some, zi107_3, Option.bind_some, b1.1]
        exact RQ_i (Wj_s f1)
      · rw [if_neg c0, if_neg (show ¬ nJ c = -1 from fun e => by have e2 : nJ c = nJ 0 := e; rw [q_JJ (by omega) (by omega)] at e2; exact c0 e2), zr0_12, Option.bind_some, zr107_2, Option.bind_some, nJ_pos (by omega), zt112 (by omega), Option.bind_some]
        dsimp only
        rw [b1.2 sek_id (c - 1) (by omega)]
        exact RQ_i (Wj_s f1)
    · rw [if_neg h6, if_neg (show ¬ nI (A 2) ≤ 6 from nI_ge (a := 6) (by omega) (by omega))]
      exact RQ_i (Fr_r _ _)
  unfold f_X10_review
  rw [zg0]
  by_cases c0 : c = 0
  · rw [c0] at key ⊢
    rw [if_pos (show nJ 0 = -1 from rfl)]
    exact key
  · rw [if_neg (show ¬ nJ c = -1 from fun e => by have e2 : nJ c = nJ 0 := e; rw [q_JJ (by omega) (by omega)] at e2; exact c0 e2), nJ_pos (by omega), needRow_f cv (by omega), Option.bind_some, ← nJ_pos (by omega)]
    exact key
theorem power_f {a b : Nat} (hb : b < 100000) (h : hp_H) : f_X11_power (nI a) (nI b) h = some (nI (a ^ b), h) := by
  unfold f_X11_power l_X11_power_4
  refine lp_S (fun x => x = some (nI (a ^ b), h)) (fun i τ => (nI a, nI b, nI (a ^ i), nI i, h)) (fun i τ => True) b ?_ ?_ b 0 _ (fun _ _ => 0) (by omega) (by omega) trivial
  · intro i hi k τ _ hk
    have h1 := hk τ trivial
    dsimp only at h1 ⊢
    unfold f_X11_power_4
    rw [if_neg (nI_ge hi (by omega)), pk_mul, Nat.mul_comm, ← Nat.pow_succ, nI_1]
    exact h1
  · intro k τ _
    dsimp only
    unfold f_X11_power_4 f_X11_power_19
    rw [if_pos (nI_le (Nat.le_refl _) (by omega))]
def Vs (o : Nat → Nat) (R : Nat) : Nat → Nat := it (fun j v => v ||| 2 ^ o (R - 1 - j)) 0
theorem Vs_e (o : Nat → Nat) (R : Nat) : Vs o R R = Us o R := by
  have key : ∀ n t, n ≤ R → (bt (Vs o R n) t = 1 ↔ ∃ j, j < n ∧ o (R - 1 - j) = t) := by
    intro n
    induction n with
    | zero => intro t _; exact ⟨fun h => by (rw [bt_i, show Vs o R 0 = 0 from rfl, Nat.zero_testBit] at h; exact absurd h (by simp)), fun ⟨q, h, _⟩ => by omega⟩
    | succ n ih =>
      intro t hn
      rw [show Vs o R (n + 1) = Vs o R n ||| 2 ^ o (R - 1 - n) from rfl, bt_or2, ih t (by omega), bt_pw]
      constructor
      · rintro (⟨q, h1, h2⟩ | h)
        · exact ⟨q, by omega, h2⟩
        · exact ⟨n, by omega, h⟩
      · rintro ⟨q, h1, h2⟩
        by_cases c : q = n
        · subst c; exact Or.inr h2
        · exact Or.inl ⟨q, by omega, h2⟩
  apply Nat.eq_of_testBit_eq
  intro t
  have g : ∀ a b : Bool, (a = true ↔ b = true) → a = b := fun a b h => by cases a <;> cases b <;> simp_all
  apply g
  rw [← bt_i, ← bt_i, key R t (Nat.le_refl _), Us_bt]
  constructor
  · rintro ⟨j, h1, h2⟩; exact ⟨R - 1 - j, by omega, h2⟩
  · rintro ⟨q, h1, h2⟩; exact ⟨R - 1 - q, by omega, by rw [show R - 1 - (R - 1 - q) = q by omega]; exact h2⟩
/-- all used: no row twice -/
theorem Us_inj {o : Nat → Nat} {R : Nat} (h : Us o R = 2 ^ R - 1) : ∀ q q', q < R → q' < R → o q = o q' → q = q' := by
  have hp : pc (Us o R) R = R := by rw [h]; exact pc_all _ _ (Nat.le_refl _)
  have key : ∀ q q', q < q' → q' < R → o q ≠ o q' := fun q q' h1 h2 e => by
    have g1 := Us_pj o R (q' + 1) (R - (q' + 1))
    rw [show q' + 1 + (R - (q' + 1)) = R by omega, hp, Us_S, or_same ((Us_bt o q' (o q')).mpr ⟨q, h1, e⟩)] at g1
    have g2 := Us_pc o R q'
    omega
  intro q q' h1 h2 e
  by_cases c : q < q'
  · exact absurd e (key q q' c h2)
  · by_cases c2 : q' < q
    · exact absurd e.symm (key q' q c2 h1)
    · omega
theorem isOrder_R (rv : RV σ 0 A P X 0) (hR : A 2 ≤ 6) {n : Nat} (hn : n < 2 ^ 31) : ∃ τ, Fr (Wb 33) σ τ ∧ RV τ 0 A P X 0 ∧ ((Us (dg (A 2) n) (A 2) = 2 ^ A 2 - 1 ∧ RV τ 33 A P (po A (dg (A 2) n) X) 0 ∧ f_X11_isOrder 118 (nI n) (mk σ w u) = some (nI 1, mk τ w u)) ∨ (Us (dg (A 2) n) (A 2) ≠ 2 ^ A 2 - 1 ∧ f_X11_isOrder 118 (nI n) (mk σ w u) = some (nI 0, mk τ w u))) := by
  obtain ⟨τ1, f1, r33, r0, e1⟩ := tries_V (w := w) (u := u) rv
  have a2 : τ1 118 3 = nI (A 2) := r0.2.1.1.2.2.1
  have wa := rv.2.2.2.2.1
  obtain ⟨o, ho⟩ : ∃ o, o = dg (A 2) n := ⟨_, rfl⟩
  have ol : ∀ q, q < A 2 → o q < A 2 := fun q hq => by rw [ho]; exact Nat.mod_lt _ (by omega)
  rw [← ho]
  unfold f_X11_isOrder
  rw [zg118, e1, Option.bind_some, zi118_3, Option.bind_some, a2]
  unfold l_X11_isOrder_16
  rw [show nI (A 2) - 1 = nJ (A 2 - 0) from rfl]
  obtain ⟨rs, hrs⟩ : ∃ rs : Nat → Nat, rs = fun j => n / A 2 ^ j := ⟨_, rfl⟩
  rw [show (nI n) = nI (rs 0) by rw [hrs]; show nI n = nI (n / A 2 ^ 0); rw [Nat.pow_zero, Nat.div_one]]
  refine lp_S (fun x => ∃ τ, Fr (Wb 33) σ τ ∧ RV τ 0 A P X 0 ∧ ((Us o (A 2) = 2 ^ A 2 - 1 ∧ RV τ 33 A P (po A o X) 0 ∧ x = some (nI 1, mk τ w u)) ∨ (Us o (A 2) ≠ 2 ^ A 2 - 1 ∧ x = some (nI 0, mk τ w u)))) (fun j τ => (118, nI (Vs o (A 2) j), nI (rs j), nJ (A 2 - j), mk τ w u)) (fun j τ => Fr (Wb 33) σ τ ∧ RV τ 0 A P X 0 ∧ Rr τ 33 (fun k => if 25 + (A 2 - j) ≤ k ∧ k < 25 + A 2 then X (25 + o (k - 25)) else X k)) (A 2) ?_ ?_ (A 2) 0 _ τ1 (by omega) (by omega) ⟨f1, r0, fun k hk => by dsimp only; rw [if_neg (by omega)]; exact r33.2.2.1 k hk⟩
  · intro j hj k τ ⟨fr, q0, rr⟩ hk
    have b2 : τ 118 3 = nI (A 2) := q0.2.1.1.2.2.1
    have hrl : rs j ≤ n := by rw [hrs]; exact Nat.div_le_self _ _
    have er : rs j % A 2 = o (A 2 - 1 - j) := by
      rw [ho, hrs]
      unfold dg
      rw [show A 2 - 1 - (A 2 - 1 - j) = j by omega]
    have ed : rs j / A 2 = rs (j + 1) := by
      rw [hrs]
      show n / A 2 ^ j / A 2 = n / A 2 ^ (j + 1)
      rw [Nat.div_div_eq_div_mul, Nat.pow_succ]
    have hol := ol (A 2 - 1 - j) (by omega)
    have es := RV_0s q0 (o (A 2 - 1 - j)) (by omega)
    have f2 : Fr (Wb 33) τ (s2 τ 128 (58 + (A 2 - 1 - j)) (nI (X (25 + o (A 2 - 1 - j))))) := Fr_s (by unfold Wb; omega)
    have h := hk (s2 τ 128 (58 + (A 2 - 1 - j)) (nI (X (25 + o (A 2 - 1 - j))))) ⟨Fr_t fr f2, RV_o2 q0 (Wb_n f2), fun k hk => by
      by_cases e : k = 25 + (A 2 - 1 - j)
      · dsimp only
        rw [s2_at rfl (by omega), if_pos (by omega), e, show 25 + (A 2 - 1 - j) - 25 = A 2 - 1 - j by omega]
      · rw [s2_off (by omega), rr k hk]
        dsimp only
        by_cases e2 : 25 + (A 2 - j) ≤ k ∧ k < 25 + A 2
        · rw [if_pos e2, if_pos (by omega)]
        · rw [if_neg e2, if_neg (by omega)]⟩
    dsimp only at h ⊢
    unfold f_X11_isOrder_16
    rw [nJ_pos (k := A 2 - j) (by omega), if_neg (show ¬ nI (A 2 - j - 1) < 0 from nI_pos (by omega)), zi118_3, Option.bind_some, b2, rem_f (by omega) (by omega) (by omega), Option.bind_some, Option.bind_some, div_f (by omega) (by omega) (by omega), Option.bind_some, zr118_36, Option.bind_some, er, ed, show (25 : Int32) + nI (o (A 2 - 1 - j)) = nI (25 + o (A 2 - 1 - j)) from nI_add 25 _, Option.bind_some, za128 (by omega), Option.bind_some, es, show (58 : Int32) + nI (A 2 - j - 1) = nI (58 + (A 2 - 1 - j)) from by rw [show A 2 - j - 1 = A 2 - 1 - j by omega]; exact nI_add 58 _, zb128 (by omega), Option.bind_some, show (1 : Int32) <<< (nI (o (A 2 - 1 - j)) &&& 31) = nI (2 ^ o (A 2 - 1 - j)) from x_one (by omega), x_or, show nI (A 2 - j - 1) + (-1) = nJ (A 2 - (j + 1)) from by rw [show A 2 - (j + 1) = A 2 - j - 1 by omega]; exact x_m1 _]
    exact h
  · intro k τ ⟨fr, q0, rr⟩
    have b2 : τ 118 3 = nI (A 2) := q0.2.1.1.2.2.1
    have h64 : 2 ^ A 2 ≤ 2 ^ 6 := Nat.pow_le_pow_right (by decide) hR
    have hul := Us_lt (o := o) (R := A 2) (A 2) ol
    have hp := Nat.two_pow_pos (A 2)
    dsimp only
    unfold f_X11_isOrder_16 f_X11_isOrder_69 f_X11_isOrder_86
    rw [Nat.sub_self, if_pos (show nJ 0 < 0 by decide), zi118_3, Option.bind_some, b2, show (1 : Int32) <<< (nI (A 2) &&& 31) = nI (2 ^ A 2) from x_one (by omega), show nI (2 ^ A 2) - 1 = nI (2 ^ A 2 - 1) from by rw [show nI (2 ^ A 2) - 1 = nJ (2 ^ A 2) from rfl, nJ_pos hp], Vs_e]
    by_cases c : Us o (A 2) = 2 ^ A 2 - 1
    · refine ⟨τ, fr, q0, Or.inl ⟨c, ?_, by rw [c, if_pos rfl]; rfl⟩⟩
      have h1 : Rr τ 33 (po A o X) := fun k hk => by
        rw [rr k hk]
        unfold po
        rw [Nat.sub_self, Nat.add_zero]
      exact RV_mk r33 (Wb_n (Fr_m (show Fr (Wb 33) τ1 τ from fun q k hw => (fr q k hw).trans (f1 q k hw).symm) (fun q k e => e))) h1 (po_W wa rv.2.2.2.2.2.1 ol (Us_inj c))
    · refine ⟨τ, fr, q0, Or.inr ⟨c, by rw [if_neg (fun e => c ((nI_eq (by omega) (by omega)).mp e))]; rfl⟩⟩
theorem re_review (rv : RV σ 0 A P X 0) (hx : X 0 ≤ 999) {c : Nat} (hc : c ≤ A 2) : RQ (fun τ => Fr Wq (s2 σ 118 0 0) τ) w u (rvw A P X c) (f_X11_review 118 (nJ c) (mk σ w u)) := by
  have t0 : (s2 σ 118 0 0) 118 0 = nI 0 := by rw [s2_at rfl rfl]; rfl
  have rv0 : RV (s2 σ 118 0 0) 0 A P X 0 := RV_F rv (Fr_s (W := fun q k => q = 118 ∧ k = 0) ⟨rfl, rfl⟩) (fun q k e => by omega)
  have tm := rv0.2.1.1.2.1; have tr := rv0.2.1.1.2.2.1; have tb := rv0.2.1.1.1; have hB1 := rv.2.2.2.2.1.1; have hB2 := rv.2.2.2.2.1.2.1; have hM8 := rv.2.2.2.2.1.2.2.1; have hR8 := rv.2.2.2.2.1.2.2.2.1; have hS12 := rv.2.2.2.2.1.2.2.2.2.1; have hT := RV_b rv
  have key : RQ (fun τ => Fr Wq (s2 σ 118 0 0) τ) w u (rvw A P X c) (f_X11_review_24 118 (nJ c) 118 1 (mk (s2 σ 118 0 0) w u)) := by
    unfold f_X11_review_24 rvw
    rw [show f_X11_right 118 1 1 (mk (s2 σ 118 0 0) w u) = some (nI 1, mk (s2 σ 118 0 0) w u) from right_1 t0, Option.bind_some]
    dsimp only
    rw [if_neg (show ¬ nI 1 = 0 by decide), zi118_3, Option.bind_some, tr]
    by_cases h6 : A 2 ≤ 6
    · rw [if_pos h6, if_pos (show nI (A 2) ≤ 6 from nI_le (b := 6) h6 (by decide))]
      obtain ⟨V, hV⟩ : ∃ V, V = (if c = 0 then nJ (sek A P X 0 (0, 0) (A 2 ^ A 2)).1 else nI (dg (A 2) (sek A P X 0 (0, 0) (A 2 ^ A 2)).2 (c - 1))) := ⟨_, rfl⟩
      rw [← hV]
      have hpw : A 2 ^ A 2 ≤ 46656 := by
        have : ∀ a, a ≤ 6 → a ^ a ≤ 46656 := by decide
        exact this _ h6
      unfold l_X11_review_52
      have s2l : ∀ n, (sek A P X 0 (0, 0) n).2 ≤ n := by
        intro n
        induction n with
        | zero => exact Nat.le_refl _
        | succ n ih =>
          show (stq A P X (0 + n) (sek A P X 0 (0, 0) n)).2 ≤ n + 1
          unfold stq
          split
          · split
            · omega
            · show 0 + n ≤ n + 1; omega
          · omega
      refine lp_S (RQ (fun τ => Fr Wq (s2 σ 118 0 0) τ) w u V) (fun n τ => (118, nJ c, nJ (sek A P X 0 (0, 0) n).1, nI (sek A P X 0 (0, 0) n).2, nI n, mk τ w u)) (fun n τ => Fr Wq (s2 σ 118 0 0) τ ∧ RV τ 0 A P X 0) (A 2 ^ A 2) ?_ ?_ (A 2 ^ A 2) 0 _ _ (by omega) (by omega) ⟨Fr_r _ _, rv0⟩
      · intro n hn k τ ⟨fr, r0⟩ hk
        have b2 : τ 118 3 = nI (A 2) := r0.2.1.1.2.2.1
        obtain ⟨τ1, f1, q0, h1⟩ := isOrder_R (w := w) (u := u) r0 h6 (n := n) (by omega)
        have hsl := sek_le (A := A) (P := P) (X := X) (lo := 0) (s := (0, 0)) (by omega) n
        have eS : sek A P X 0 (0, 0) (n + 1) = stq A P X n (sek A P X 0 (0, 0) n) := by
          show stq A P X (0 + n) (sek A P X 0 (0, 0) n) = _
          rw [Nat.zero_add]
        dsimp only at hk ⊢
        rw [eS] at hk
        unfold stq at hk
        unfold f_X11_review_52 f_X11_review_101
        rw [zi118_3, Option.bind_some, Option.bind_some, b2, power_f (by omega), Option.bind_some]
        dsimp only
        rw [if_neg (nI_ge hn (by omega))]
        rcases h1 with ⟨g1, g2, g3⟩ | ⟨g1, g3⟩
        · obtain ⟨τ2, f2, e2⟩ := rightOnes_R (w := w) (u := u) g2
          rw [mo_0, po_k (by omega), rr_so (o := dg (A 2) n) hM8 (fun q hq => Nat.mod_lt _ (by omega)) _ (Nat.le_refl _)] at e2
          have h := hk τ2 ⟨Fr_t fr (Fr_t (Wb_q f1) (Wr_q f2)), RV_fr q0 f2⟩
          have hso := sso_le (A := A) (P := P) (X := X) (dg (A 2) n) (A 2)
          rw [if_pos g1] at h
          rw [g3, Option.bind_some]
          dsimp only
          rw [if_neg (show ¬ nI 1 = 0 by decide), e2, Option.bind_some]
          dsimp only
          rw [nI_1]
          by_cases c2 : sso A P X (dg (A 2) n) (A 2) + 1 ≤ (sek A P X 0 (0, 0) n).1
          · rw [if_pos c2] at h
            rw [if_neg (fun e => by rw [q_Jlt (by omega) (by omega)] at e; omega)]
            exact h
          · rw [if_neg c2] at h
            rw [if_pos ((q_Jlt (by omega) (by omega)).mpr (by omega))]
            dsimp only at h
            rw [nJ_S] at h
            exact h
        · have h := hk τ1 ⟨Fr_t fr (Wb_q f1), q0⟩
          rw [if_neg g1] at h
          rw [g3, Option.bind_some]
          dsimp only
          rw [if_pos (show nI 0 = 0 from rfl), nI_1]
          exact h
      · intro k τ ⟨fr, r0⟩
        have b2 : τ 118 3 = nI (A 2) := r0.2.1.1.2.2.1
        have hs2 := s2l (A 2 ^ A 2)
        dsimp only
        unfold f_X11_review_52 f_X11_review_107 f_X11_review_138
        rw [zi118_3, Option.bind_some, Option.bind_some, b2, power_f (by omega), Option.bind_some]
        dsimp only
        rw [if_pos (nI_le (Nat.le_refl _) (by omega)), hV]
        by_cases c0 : c = 0
        · rw [c0, if_pos rfl, if_pos (show nJ 0 = -1 from rfl)]
          exact RQ_i fr
        · have hpp : 0 < A 2 ^ (A 2 - 1 - (c - 1)) := Nat.pow_pos (by omega)
          have hpl : A 2 ^ (A 2 - 1 - (c - 1)) ≤ A 2 ^ A 2 := Nat.pow_le_pow_right (by omega) (by omega)
          have hdl := Nat.div_le_self (sek A P X 0 (0, 0) (A 2 ^ A 2)).2 (A 2 ^ (A 2 - 1 - (c - 1)))
          rw [if_neg c0, if_neg (show ¬ nJ c = -1 from fun e => by have e2 : nJ c = nJ 0 := e; rw [q_JJ (by omega) (by omega)] at e2; exact c0 e2), zi118_3, Option.bind_some, Option.bind_some, b2, show nI (A 2) - 1 - nJ c = nI (A 2 - 1 - (c - 1)) from by rw [show nI (A 2) - 1 = nJ (A 2) from rfl, nJ_pos (by omega), nJ_pos (by omega)]; exact pk_sub (by omega), power_f (by omega), Option.bind_some]
          dsimp only
          rw [div_f (by omega) hpp (by omega), Option.bind_some, zi118_3, Option.bind_some, b2, rem_f (by omega) (by omega) (by omega), Option.bind_some]
          exact RQ_i fr
    · rw [if_neg h6, if_neg (show ¬ nI (A 2) ≤ 6 from nI_ge (a := 6) (by omega) (by omega))]
      exact RQ_i (Fr_r _ _)
  unfold f_X11_review
  rw [zg118, zw118_0, Option.bind_some, if_neg (show ¬ nJ c < -1 from fun e => by have e2 : nJ c < nJ 0 := e; rw [q_JJlt (by omega) (by omega)] at e2; omega), zi118_3, Option.bind_some, tr, if_neg (fun e => by have e2 : nI (A 2) ≤ nJ c := e; rw [q_leJ (by omega) (by omega)] at e2; omega)]
  exact key
end RW
