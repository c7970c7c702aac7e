/-! L3: review, the class -/
section CR
variable {σ : Nat → Nat → Int32} {w u : Int64} {A X : Nat → Nat} {P : List (Nat × Nat)}
def MI (τ : Nat → Nat → Int32) (A : Nat → Nat) (P : List (Nat × Nat)) (X : Nat → Nat) : Prop := ∀ r be, r < 6 → be < 64 → τ 109 (r * 64 + be) = nJ 0 ∨ τ 109 (r * 64 + be) = nI (rg A P X r be)
def BS (τ : Nat → Nat → Int32) (R : Nat) (s : Nat × Nat) : Prop := τ 107 3 = nJ s.1 ∧ (s.1 ≠ 0 → ∀ q, q < R → τ 113 q = nI (dg R s.2 q))
def Wj1 (q _k : Nat) : Prop := q = 109 ∨ q = 10 ∨ q = 14
def Wj (q _k : Nat) : Prop := q = 107 ∨ q = 109 ∨ q = 111 ∨ q = 113 ∨ q = 10 ∨ q = 14
theorem Wj_s {τ : Nat → Nat → Int32} (h : Fr Wj σ τ) : Fr Ws σ τ := Fr_m h (fun q k e => by unfold Ws; unfold Wj at e; omega)
theorem Wj1_j {τ : Nat → Nat → Int32} (h : Fr Wj1 σ τ) : Fr Wj σ τ := Fr_m h (fun q k e => by unfold Wj; unfold Wj1 at e; omega)
theorem orr_lt (hT : ∀ i, i < 8 → X (25 + i) < 256) (be : Nat) : ∀ n, n ≤ 8 → orr X be n < 256 := by
  intro n
  induction n with
  | zero => intro _; exact Nat.zero_lt_succ _
  | succ n ih =>
    intro hn
    rw [orr_S]
    have h1 := ih (by omega)
    have h2 := hT n (by omega)
    exact or8 h1 (by split <;> omega)
theorem rightAt118_f (cv : CV σ 34 A P X) (hx : X 0 ≤ 999) (mi : MI σ A P X) {r be : Nat} (hr : r < 6) (hbe : be < 64) : RQ (fun τ => Fr Wj1 σ τ ∧ MI τ A P X) w u (nI (rg A P X r be)) (f_X4_rightAt_118 107 34 (nI r) (nI be) (nI (orr X be (A 2))) (mk σ w u)) := by
  have hT := CV_b cv
  have wa := cv.2.2.2.1
  have hB2 := wa.2.1
  have hM8 := wa.2.2.1
  have hR8 := wa.2.2.2.1
  have e0 := CV_s cv r (by omega)
  have hr2 := (hT r (by omega)).2.2.2
  obtain ⟨τ1, f1, e1⟩ := heard_f (w := w) (u := u) cv (ab := X (25 + r)) (bs := orr X be (A 2)) (mud := mq A (X 0)) hr2 (orr_lt (fun i hi => (hT i hi).2.2.2) be _ hR8) (by have := mq_lt wa (X 0); omega)
  have hh := tw12 (hd_lt A P X (X (25 + r)) (orr X be (A 2)) (mq A (X 0)) (A 0)).1 hB2
  have c1 := CV_fr cv f1
  have e2 := namedBy_f (w := w) (u := u) c1 hh
  have hn := nmb_le A X (hd A P X (X (25 + r)) (orr X be (A 2)) (mq A (X 0)) (A 0)).1 wa.2.2.2.2.1 (A 1)
  have fin : ∀ v, v = rg A P X r be → RQ (fun τ => Fr Wj1 σ τ ∧ MI τ A P X) w u (nI (rg A P X r be)) (f_X4_rightAt_169 107 (nI r) (nI be) (nI v) (mk τ1 w u)) := by
    intro v hv
    unfold f_X4_rightAt_169
    rw [zr107_0, Option.bind_some, show nI r * (64 : Int32) = nI (r * 64) from pk_mul r 64, nI_add, zs108 (by omega), Option.bind_some, hv]
    refine ⟨_, ⟨Fr_st (Fr_m f1 (fun q k e => by unfold Wj1; unfold Wc at e; omega)) (Or.inl rfl), fun r' be' h1 h2 => ?_⟩, rfl⟩
    by_cases e : r' = r ∧ be' = be
    · rw [e.1, e.2, s2_at rfl rfl]; exact Or.inr rfl
    · rw [s2_off (by omega), f1 109 _ (by unfold Wc; omega)]
      exact mi r' be' h1 h2
  obtain ⟨H, hH⟩ : ∃ H, H = (hd A P X (X (25 + r)) (orr X be (A 2)) (mq A (X 0)) (A 0)).1 := ⟨_, rfl⟩
  have hrg : rg A P X r be = if (nmb A X H (A 1)).1 = 0 then 0 else bt (X (25 + r)) ((nmb A X H (A 1)).1 - 1) := by rw [hH]; rfl
  rw [← hH] at e1 e2 hn
  unfold f_X4_rightAt_118 f_X4_rightAt_168
  rw [M_s isM_34, Option.bind_some, show f_X2_at (34 + 7) (nI r) (mk σ w u) = some (nI (X (25 + r)), mk σ w u) from by rw [M_ts isM_34 (by omega), e0], Option.bind_some]
  dsimp only
  rw [show f_X3_mudIn 34 0 (mk σ w u) = some (nI (mq A (X 0 + 0)), mk σ w u) from mudIn_f cv (n := 0) (by decide), Option.bind_some]
  dsimp only
  rw [Nat.add_zero, e1, Option.bind_some]
  dsimp only
  rw [e2, Option.bind_some]
  dsimp only
  by_cases c : (nmb A X H (A 1)).1 = 0
  · rw [c, if_pos (show nJ 0 = -1 from rfl)]
    exact fin 0 (by rw [hrg, if_pos c])
  · rw [nJ_pos (k := (nmb A X H (A 1)).1) (by omega), if_neg (show ¬ nI ((nmb A X H (A 1)).1 - 1) = -1 from fun e => by have e2 : nI ((nmb A X H (A 1)).1 - 1) = nJ 0 := e; rw [q_eqJ (by omega) (by omega)] at e2; omega), holds_f (by omega) (by omega), Option.bind_some]
    dsimp only
    have hb := bt_lt (X (25 + r)) ((nmb A X H (A 1)).1 - 1)
    by_cases c2 : bt (X (25 + r)) ((nmb A X H (A 1)).1 - 1) = 0
    · rw [c2, if_pos (show nI 0 = 0 from rfl)]
      exact fin 0 (by rw [hrg, if_neg c, c2])
    · rw [if_neg (nI_ne0 (by omega) (by omega))]
      exact fin 1 (by rw [hrg, if_neg c]; omega)
theorem rightAt37_f (cv : CV σ 34 A P X) (hx : X 0 ≤ 999) (mi : MI σ A P X) {r b1 b2 : Nat} (hr : r < 6) (hbe : b1 ||| b2 < 64) : RQ (fun τ => Fr Wj1 σ τ ∧ MI τ A P X) w u (nI (rg A P X r (b1 ||| b2))) (f_X4_rightAt_37 107 34 (nI r) (nI b1) (nI b2) (mk σ w u)) := by
  have hT := CV_b cv
  have hR8 := cv.2.2.2.1.2.2.2.1
  have a2 : σ 5 2 = nI (A 2) := cv.2.1.1.2.2.1
  obtain ⟨be, hb⟩ : ∃ be, be = b1 ||| b2 := ⟨_, rfl⟩
  unfold f_X4_rightAt_37
  rw [x_or, ← hb]
  rw [← hb] at hbe
  rw [zr107_0, Option.bind_some, show nI r * (64 : Int32) = nI (r * 64) from pk_mul r 64, nI_add, zt108 (by omega), Option.bind_some]
  dsimp only
  have hrl := rg_lt (A := A) (P := P) (X := X) r be
  by_cases c : σ 109 (r * 64 + be) = nJ 0
  · rw [c, if_pos (show nJ 0 = -1 from rfl)]
    unfold l_X4_rightAt_72
    refine lp_S (RQ (fun τ => Fr Wj1 σ τ ∧ MI τ A P X) w u (nI (rg A P X r be))) (fun i τ => (107, 34, nI r, nI be, nI (orr X be i), nI i, mk τ w u)) (fun i τ => τ = σ) (A 2) ?_ ?_ (A 2) 0 _ σ (by omega) (by omega) rfl
    · intro i hi k τ e hk
      subst e
      have h := hk τ rfl
      have e0 := CV_s cv i (by omega)
      have hbl := bt_lt be i
      dsimp only at h ⊢
      rw [orr_S] at h
      unfold f_X4_rightAt_72 f_X4_rightAt_109
      rw [M_a isM_34, Option.bind_some, zi5_2, Option.bind_some, a2, if_neg (nI_ge hi (by omega)), holds_f (by omega) (by omega), Option.bind_some]
      dsimp only
      by_cases c2 : bt be i = 0
      · rw [if_pos c2] at h
        rw [c2, if_pos (show nI 0 = 0 from rfl), show nI (orr X be i) ||| (0 : Int32) = nI (orr X be i ||| 0) from x_or _ 0, nI_1]
        exact h
      · rw [if_neg c2] at h
        rw [if_neg (nI_ne0 (by omega) (by omega)), M_s isM_34, Option.bind_some, M_ts isM_34 (by omega), Option.bind_some]
        dsimp only
        rw [e0, x_or, nI_1]
        exact h
    · intro k τ e
      subst e
      dsimp only
      unfold f_X4_rightAt_72
      rw [M_a isM_34, Option.bind_some, zi5_2, Option.bind_some, a2, if_pos (nI_le (Nat.le_refl _) (by omega))]
      exact rightAt118_f cv hx mi hr hbe
  · rcases mi r be hr hbe with h | h
    · exact absurd h c
    · rw [h, if_neg (show ¬ nI (rg A P X r be) = -1 from fun e => by have e2 : nI (rg A P X r be) = nJ 0 := e; rw [q_eqJ (by omega) (by omega)] at e2; omega)]
      exact ⟨σ, ⟨Fr_r _ _, mi⟩, rfl⟩
/-- a place's row, with so much behind it -/
theorem rightAt_f (cv : CV σ 34 A P X) (hx : X 0 ≤ 999) (mi : MI σ A P X) {o : Nat → Nat} {i b1 : Nat} (hR : A 2 ≤ 6) (hi : i < A 2) (ho : ∀ q, q ≤ i → o q < A 2) (hO : ∀ q, q ≤ i → σ 111 q = nI (o q)) (hb1 : b1 < 64) : RQ (fun τ => Fr Wj1 σ τ ∧ MI τ A P X) w u (nI (rg A P X (o i) (b1 ||| (if i = 0 then 0 else 2 ^ o (i - 1))))) (f_X4_rightAt 107 34 (nI i) (nI b1) (mk σ w u)) := by
  have ho1 := ho i (Nat.le_refl _)
  have hbl : b1 ||| (if i = 0 then 0 else 2 ^ o (i - 1)) < 2 ^ 6 := by
    refine Nat.or_lt_two_pow hb1 ?_
    split
    · decide
    · have := ho (i - 1) (by omega)
      exact Nat.pow_lt_pow_right (by decide) (by omega)
  have key := rightAt37_f (w := w) (u := u) cv hx mi (r := o i) (b1 := b1) (b2 := if i = 0 then 0 else 2 ^ o (i - 1)) (by omega) hbl
  unfold f_X4_rightAt
  rw [zg107, if_pos (show (0 : Int32) ≤ nI i from nI_le (a := 0) (by omega) (by omega)), zr107_1, Option.bind_some, zt110 (by omega), Option.bind_some]
  dsimp only
  rw [hO i (Nat.le_refl _)]
  by_cases c : i = 0
  · rw [if_pos c] at key ⊢
    rw [c, if_pos (show nI 0 = 0 from rfl)]
    rw [c] at key
    exact key
  · rw [if_neg c] at key ⊢
    have h2 := ho (i - 1) (by omega)
    rw [if_neg (nI_ne0 (by omega) (by omega)), zr107_1, Option.bind_some, show nI i - 1 = nI (i - 1) from by rw [show nI i - 1 = nJ i from rfl, nJ_pos (by omega)], zt110 (by omega), Option.bind_some]
    dsimp only
    rw [hO (i - 1) (by omega), show (1 : Int32) = nI 1 from rfl, x_one (by omega)]
    exact key
theorem keepBetter_f {R v : Nat} {s : Nat × Nat} {o : Nat → Nat} {n : Nat} (hR : R ≤ 6) (bs : BS σ R s) (hO : ∀ q, q < R → σ 111 q = nI (o q)) (hd : ∀ q, q < R → dg R n q = o q) (hv : v ≤ 6) (hs : s.1 ≤ 7) : RN (fun τ => Fr Wj σ τ ∧ (∀ k, τ 111 k = σ 111 k) ∧ (∀ k, τ 109 k = σ 109 k) ∧ BS τ R (if v + 1 ≤ s.1 then s else (v + 1, n))) w u (f_X4_keepBetter 107 (nI v) (mk σ w u)) := by
  unfold f_X4_keepBetter f_X4_keepBetter_24
  rw [zg107, zi107_3, Option.bind_some, bs.1]
  by_cases c : v + 1 ≤ s.1
  · rw [if_pos c, if_pos ((q_leJ (by omega) (by omega)).mpr c)]
    exact ⟨σ, ⟨Fr_r _ _, fun _ => rfl, fun _ => rfl, bs⟩, rfl⟩
  · rw [if_neg c, if_neg (fun e => c ((q_leJ (by omega) (by omega)).mp e)), zw107_3, Option.bind_some, zr107_2, Option.bind_some, zr107_1, Option.bind_some, C_copy zC112 zC110 (by decide) (by decide), Option.bind_some]
    refine ⟨_, ⟨?_, fun k => ?_, fun k => ?_, ?_, fun _ q hq => ?_⟩, rfl⟩
    · intro q k hw
      unfold Wj at hw
      rw [sr_n (by omega), s2_off (by omega)]
    · rw [sr_n (by decide), s2_off (by omega)]
    · rw [sr_n (by decide), s2_off (by omega)]
    · rw [sr_n (by decide), s2_at rfl rfl, nJ_S]
    · rw [sr_s, if_pos (by omega), s2_off (by omega), hO q hq, hd q hq]
theorem stq_le {n : Nat} {s : Nat × Nat} (h : s.1 ≤ A 2 + 1) : (stq A P X n s).1 ≤ A 2 + 1 := by
  unfold stq
  split
  · split
    · exact h
    · have := sso_le (A := A) (P := P) (X := X) (dg (A 2) n) (A 2)
      show _ + 1 ≤ _
      omega
  · exact h
theorem sek_le {lo : Nat} {s : Nat × Nat} (h : s.1 ≤ A 2 + 1) : ∀ n, (sek A P X lo s n).1 ≤ A 2 + 1 := by
  intro n
  induction n with
  | zero => exact h
  | succ n ih => exact stq_le ih
/-- what a search from a place on leaves -/
def TQ (σ : Nat → Nat → Int32) (A : Nat → Nat) (P : List (Nat × Nat)) (X : Nat → Nat) (o : Nat → Nat) (p : Nat) (s : Nat × Nat) (τ : Nat → Nat → Int32) : Prop := Fr Wj σ τ ∧ (∀ q, q < p → τ 111 q = nI (o q)) ∧ MI τ A P X ∧ BS τ (A 2) s
theorem tryFrom_f (hx : X 0 ≤ 999) (hR : A 2 ≤ 6) : ∀ (d f p : Nat) (o : Nat → Nat) (s : Nat × Nat) (σ : Nat → Nat → Int32), p + d = A 2 → d < f → CV σ 34 A P X → (∀ q, q < p → o q < A 2) → pc (Us o p) (A 2) = p → (∀ q, q < p → σ 111 q = nI (o q)) → MI σ A P X → BS σ (A 2) s → s.1 ≤ A 2 + 1 → RN (TQ σ A P X o p (sek A P X (cod (A 2) o p * A 2 ^ d) s (A 2 ^ d))) w u (r_X4_tryFrom f 107 34 (nI p) (nI (Us o p)) (nI (sso A P X o (p - 1))) (mk σ w u)) := by
  intro d
  induction d with
  | zero =>
    intro f p o s σ hpd hf cv ho hU hO mi bs hs
    obtain ⟨f, rfl⟩ : ∃ g, f = g + 1 := ⟨f - 1, by omega⟩
    have hp : p = A 2 := by omega
    have a2 : σ 5 2 = nI (A 2) := cv.2.1.1.2.2.1
    have hdg : ∀ q, q < A 2 → dg (A 2) (cod (A 2) o p) q = o q := fun q hq => by
      have := dg_cod (R := A 2) (p := p) (d := 0) (i := 0) (q := q) (o := o) (by omega) ho (by rw [Nat.pow_zero]; exact Nat.one_pos) (by omega)
      rw [Nat.pow_zero, Nat.mul_one, Nat.add_zero] at this
      exact this
    have hfull : Us (dg (A 2) (cod (A 2) o p)) (A 2) = 2 ^ A 2 - 1 := by
      rw [Us_c hdg]
      rw [hp] at hU ho
      exact full_e (Us_lt _ ho) (pc_ful _ hU)
    have hss : sso A P X (dg (A 2) (cod (A 2) o p)) (A 2) = sso A P X o (A 2) := sso_c (fun q _ h => hdg q h) (Nat.le_refl _)
    have eF : sek A P X (cod (A 2) o p * A 2 ^ 0) s (A 2 ^ 0) = if sso A P X o (A 2) + 1 ≤ s.1 then s else (sso A P X o (A 2) + 1, cod (A 2) o p) := by
      rw [Nat.pow_zero, Nat.mul_one]
      show stq A P X (cod (A 2) o p + 0) s = _
      unfold stq
      rw [Nat.add_zero, if_pos hfull, hss]
    rw [eF]
    have hsl := sso_le (A := A) (P := P) (X := X) o (A 2)
    have fin : ∀ τ, Fr Wj1 σ τ → MI τ A P X → RN (TQ σ A P X o p (if sso A P X o (A 2) + 1 ≤ s.1 then s else (sso A P X o (A 2) + 1, cod (A 2) o p))) w u ((f_X4_keepBetter 107 (nI (sso A P X o (A 2))) (mk τ w u)).bind fun r4 => some r4) := by
      intro τ fr m1
      have O1 : ∀ q, q < A 2 → τ 111 q = nI (o q) := fun q hq => by rw [fr 111 q (by unfold Wj1; omega)]; exact hO q (by omega)
      have B1 : BS τ (A 2) s := ⟨by rw [fr 107 3 (by unfold Wj1; omega)]; exact bs.1, fun h q hq => by rw [fr 113 q (by unfold Wj1; omega)]; exact bs.2 h q hq⟩
      obtain ⟨τ2, ⟨f2, k1, k2, b2⟩, e2⟩ := keepBetter_f (w := w) (u := u) hR B1 O1 hdg (show sso A P X o (A 2) ≤ 6 by omega) (by omega)
      rw [e2, Option.bind_some]
      exact ⟨τ2, ⟨Fr_t (Wj1_j fr) f2, fun q hq => by rw [k1]; exact O1 q (by omega), fun r be h1 h2 => by rw [k2]; exact m1 r be h1 h2, b2⟩, rfl⟩
    show RN _ w u (f_X4_tryFrom (r_X4_tryFrom f) 107 34 (nI p) (nI (Us o p)) (nI (sso A P X o (p - 1))) (mk σ w u))
    unfold f_X4_tryFrom
    rw [zg107, M_a isM_34, Option.bind_some, zi5_2, Option.bind_some, a2, show hp_min (nI (A 2)) 6 = nI (min (A 2) 6) from hp_min_nI (b := 6) (by omega) (by decide), Nat.min_eq_left hR, hp, if_neg (nI_nlt (Nat.le_refl _) (by omega))]
    by_cases c : A 2 = 0
    · have e1 : f_X4_rightAt 107 34 (nI (A 2) - 1) 0 (mk σ w u) = some (0, mk σ w u) := by
        rw [c]
        unfold f_X4_rightAt
        rw [zg107, if_neg (by decide)]
      rw [e1, Option.bind_some]
      dsimp only
      have h := fin σ (Fr_r _ _) mi
      rw [hp] at h
      rw [show nI (sso A P X o (A 2 - 1)) + (0 : Int32) = nI (sso A P X o (A 2)) from by rw [c]; rfl]
      exact h
    · obtain ⟨τ1, ⟨f1, m1⟩, e1⟩ := rightAt_f (w := w) (u := u) cv hx mi (o := o) (i := A 2 - 1) (b1 := 0) hR (by omega) (fun q hq => ho q (by omega)) (fun q hq => hO q (by omega)) (by decide)
      have e2 : rg A P X (o (A 2 - 1)) (0 ||| (if A 2 - 1 = 0 then 0 else 2 ^ o (A 2 - 1 - 1))) = sbo A P X o (A 2 - 1) := by
        unfold sbo bes
        rw [if_neg (show ¬ A 2 - 1 + 1 < A 2 by omega)]
      have e3 : sso A P X o (A 2 - 1) + sbo A P X o (A 2 - 1) = sso A P X o (A 2) := by
        rw [← sso_S, show A 2 - 1 + 1 = A 2 by omega]
      rw [e2] at e1
      rw [show nI (A 2) - 1 = nI (A 2 - 1) from by rw [show nI (A 2) - 1 = nJ (A 2) from rfl, nJ_pos (by omega)], show f_X4_rightAt 107 34 (nI (A 2 - 1)) 0 (mk σ w u) = some (nI (sbo A P X o (A 2 - 1)), mk τ1 w u) from e1, Option.bind_some]
      dsimp only
      rw [nI_add, e3]
      have h := fin τ1 f1 m1
      rw [hp] at h
      exact h
  | succ d ih =>
    intro f p o s σ hpd hf cv ho hU hO mi bs hs
    obtain ⟨f, rfl⟩ : ∃ g, f = g + 1 := ⟨f - 1, by omega⟩
    have a2 : σ 5 2 = nI (A 2) := cv.2.1.1.2.2.1
    obtain ⟨K, hK⟩ : ∃ K, K = A 2 ^ d := ⟨_, rfl⟩
    have eK : A 2 ^ (d + 1) = A 2 * K := by rw [Nat.pow_succ, hK, Nat.mul_comm]
    have hUl := Us_lt (R := A 2) p ho
    have h64 : 2 ^ A 2 ≤ 2 ^ 6 := Nat.pow_le_pow_right (by decide) hR
    obtain ⟨sr, hsr⟩ : ∃ sr, sr = it (fun r s => sek A P X (cod (A 2) o p * (A 2 * K) + r * K) s K) s := ⟨_, rfl⟩
    have hsrl : ∀ r, (sr r).1 ≤ A 2 + 1 := fun r => by
      rw [hsr, ← sek_mul]
      exact sek_le hs _
    have srS : ∀ r, sr (r + 1) = sek A P X (cod (A 2) o p * (A 2 * K) + r * K) (sr r) K := fun r => by rw [hsr]; rfl
    have eR : sek A P X (cod (A 2) o p * A 2 ^ (d + 1)) s (A 2 ^ (d + 1)) = sr (A 2) := by rw [eK, sek_mul, hsr]
    rw [eR]
    show RN _ w u (f_X4_tryFrom (r_X4_tryFrom f) 107 34 (nI p) (nI (Us o p)) (nI (sso A P X o (p - 1))) (mk σ w u))
    unfold f_X4_tryFrom
    rw [zg107, M_a isM_34, Option.bind_some, zi5_2, Option.bind_some, a2, show hp_min (nI (A 2)) 6 = nI (min (A 2) 6) from hp_min_nI (b := 6) (by omega) (by decide), Nat.min_eq_left hR, if_pos ((nI_ltI (by omega) (by omega)).mpr (by omega))]
    unfold l_X4_tryFrom_40
    refine lp_S (RN (TQ σ A P X o p (sr (A 2))) w u) (fun r τ => (107, 34, nI p, nI (Us o p), nI (sso A P X o (p - 1)), nI (A 2), nI r, mk τ w u)) (fun r τ => TQ σ A P X o p (sr r) τ) (A 2) ?_ ?_ (A 2) 0 _ σ (by omega) (by omega) ⟨Fr_r _ _, hO, mi, by rw [hsr]; exact bs⟩
    · intro r hr k τ ⟨fr, O1, m1, b1⟩ hk
      have cv1 : CV τ 34 A P X := CV_s4 cv (Wj_s fr)
      have hbl := bt_lt (Us o p) r
      obtain ⟨o', ho'⟩ : ∃ o' : Nat → Nat, o' = fun q => if q = p then r else o q := ⟨_, rfl⟩
      have o1 : ∀ q, q < p → o' q = o q := fun q hq => by rw [ho']; exact if_neg (by omega)
      have o2 : o' p = r := by rw [ho']; exact if_pos rfl
      have ol : ∀ q, q < p + 1 → o' q < A 2 := fun q hq => by
        by_cases e : q = p
        · rw [e, o2]; exact hr
        · rw [o1 q (by omega)]; exact ho q (by omega)
      have ec : cod (A 2) o' (p + 1) * A 2 ^ d = cod (A 2) o p * (A 2 * K) + r * K := by
        rw [cod_S, o2, cod_c o1, ← hK, Nat.add_mul, Nat.mul_assoc]
      have eU : Us o' (p + 1) = Us o p ||| 2 ^ r := by rw [Us_S, o2, Us_c o1]
      dsimp only at hk ⊢
      unfold f_X4_tryFrom_40 f_X4_tryFrom_99
      rw [if_neg (nI_ge hr (by omega)), holds_f (by omega) (by omega), Option.bind_some]
      dsimp only
      by_cases c : bt (Us o p) r = 0
      · have hU1 : pc (Us o' (p + 1)) (A 2) = p + 1 := by rw [eU, pc_or _ _ _ c hr, hU]
        rw [c, if_pos (show nI 0 = 0 from rfl), show (1 : Int32) <<< (nI r &&& 31) = nI (2 ^ r) from x_one (by omega)]
        have go : ∀ τ1, Fr Wj1 τ τ1 → MI τ1 A P X → ∀ v, sso A P X o (p - 1) + v = sso A P X o' p → RN (TQ σ A P X o p (sr (A 2))) w u ((rd_R (mk τ1 w u) 107 4 1).bind fun v3 => (f_X2_set v3 (nI p) (nI r) (mk τ1 w u)).bind fun r4 => (r_X4_tryFrom f 107 34 (nI p + 1) (nI (Us o p) ||| nI (2 ^ r)) (nI (sso A P X o (p - 1)) + nI v) r4).bind fun r5 => k (107, 34, nI p, nI (Us o p), nI (sso A P X o (p - 1)), nI (A 2), nI r + 1, r5)) := by
          intro τ1 f1 n1 v hv
          have f2 : Fr Wj τ (s2 τ1 111 p (nI r)) := Fr_st (Wj1_j f1) (by unfold Wj; omega)
          have fr2 := Fr_t fr f2
          obtain ⟨τ3, ⟨f3, O3, m3, b3⟩, e3⟩ := ih f (p + 1) o' (sr r) (s2 τ1 111 p (nI r)) (by omega) (by omega) (CV_s4 cv (Wj_s fr2)) ol hU1 (fun q hq => by
            by_cases e : q = p
            · rw [e, s2_at rfl rfl, o2]
            · rw [s2_off (by omega), f1 111 q (by unfold Wj1; omega), o1 q (by omega)]; exact O1 q (by omega)) (fun r' be h1 h2 => by rw [s2_off (by omega)]; exact n1 r' be h1 h2) ⟨by rw [s2_off (by omega), f1 107 3 (by unfold Wj1; omega)]; exact b1.1, fun h q hq => by rw [s2_off (by omega), f1 113 q (by unfold Wj1; omega)]; exact b1.2 h q hq⟩ (hsrl r)
          rw [ec, ← hK, ← srS] at b3
          rw [zr107_1, Option.bind_some, zs110 (by omega), Option.bind_some, x_or, nI_add, hv, ← eU, nI_1]
          rw [Nat.add_sub_cancel] at e3
          rw [e3, Option.bind_some, nI_1]
          exact hk τ3 ⟨Fr_t fr2 f3, fun q hq => by rw [O3 q (by omega), o1 q hq], m3, b3⟩
        by_cases cp : p = 0
        · have e1 : f_X4_rightAt 107 34 (nI p - 1) (nI (2 ^ r)) (mk τ w u) = some (nI 0, mk τ w u) := by
            rw [cp]
            unfold f_X4_rightAt
            rw [zg107, if_neg (by decide)]
            rfl
          rw [e1, Option.bind_some]
          dsimp only
          exact go τ (Fr_r _ _) m1 0 (by rw [cp]; rfl)
        · have h2 : 2 ^ r < 2 ^ 6 := Nat.pow_lt_pow_right (by decide) (by omega)
          obtain ⟨τ1, ⟨f1, n1⟩, e1⟩ := rightAt_f (w := w) (u := u) cv1 hx m1 (o := o) (i := p - 1) (b1 := 2 ^ r) hR (by omega) (fun q hq => ho q (by omega)) (fun q hq => O1 q (by omega)) h2
          have e2 : rg A P X (o (p - 1)) (2 ^ r ||| (if p - 1 = 0 then 0 else 2 ^ o (p - 1 - 1))) = sbo A P X o' (p - 1) := by
            unfold sbo bes
            rw [if_pos (show p - 1 + 1 < A 2 by omega), show p - 1 + 1 = p by omega, o2, o1 (p - 1) (by omega)]
            by_cases c0 : p - 1 = 0
            · rw [if_pos c0, if_pos c0]
            · rw [if_neg c0, if_neg c0, o1 (p - 1 - 1) (by omega)]
          have e3 : sso A P X o (p - 1) + sbo A P X o' (p - 1) = sso A P X o' p := by
            rw [sso_c (o := o) (o' := o') (n := p - 1) (fun q h1 _ => (o1 q (by omega)).symm) (by omega), ← sso_S, show p - 1 + 1 = p by omega]
          rw [e2] at e1
          rw [show nI p - 1 = nI (p - 1) from by rw [show nI p - 1 = nJ p from rfl, nJ_pos (by omega)], e1, Option.bind_some]
          dsimp only
          exact go τ1 f1 n1 _ e3
      · have c1 : bt (Us o p) r = 1 := by omega
        have hno : sr (r + 1) = sr r := by
          rw [srS]
          refine sek_no _ _ _ (fun i hi => ?_)
          intro hfull
          have hg : ∀ q, q < p + 1 → dg (A 2) (cod (A 2) o' (p + 1) * A 2 ^ d + i) q = o' q := fun q hq => dg_cod (by omega) ol (by rw [← hK]; exact hi) hq
          rw [ec] at hg
          have h1 := Us_c hg
          rw [eU, or_same c1] at h1
          have h2 := Us_pj (dg (A 2) (cod (A 2) o p * (A 2 * K) + r * K + i)) (A 2) (p + 1) d
          rw [h1, hU, show p + 1 + d = A 2 by omega, hfull, pc_all _ _ (Nat.le_refl _)] at h2
          omega
        have h := hk τ ⟨fr, O1, m1, by rw [hno]; exact b1⟩
        rw [if_neg (nI_ne0 (by omega) (by omega)), nI_1]
        exact h
    · intro k τ tq
      dsimp only
      unfold f_X4_tryFrom_40
      rw [if_pos (nI_le (Nat.le_refl _) (by omega))]
      exact ⟨τ, tq, rfl⟩
theorem seek_f (cv : CV σ 34 A P X) (hx : X 0 ≤ 999) (hR : A 2 ≤ 6) : RN (fun τ => Fr Wj σ τ ∧ BS τ (A 2) (sek A P X 0 (0, 0) (A 2 ^ A 2))) w u (f_X4_seek 107 34 (mk σ w u)) := by
  unfold f_X4_seek
  rw [zg107, zr107_0, Option.bind_some, C_fill zC108 (by decide), Option.bind_some, zw107_3, Option.bind_some]
  obtain ⟨τ0, h0⟩ : ∃ τ0, τ0 = s2 (CNightMarchLaw_law_r8392_cce158.sr σ (108 + 1) (fun j => if j < 384 then (-1 : Int32) else σ (108 + 1) j)) 107 3 (-1) := ⟨_, rfl⟩
  rw [← h0]
  have fr : Fr Wj σ τ0 := by
    intro q k hw
    unfold Wj at hw
    rw [h0, s2_off (by omega), sr_n (by omega)]
  obtain ⟨τ, ⟨f1, -, -, b1⟩, e1⟩ := tryFrom_f (w := w) (u := u) (A := A) (P := P) hx hR (A 2) 9 0 (fun _ => 0) (0, 0) τ0 (by omega) (by omega) (CV_s4 cv (Wj_s fr)) (fun q hq => by omega) (pc_z _) (fun q hq => by omega) (fun r be h1 h2 => Or.inl (by rw [h0, s2_off (by omega), sr_s, if_pos (by omega)]; rfl)) ⟨by rw [h0, s2_at rfl rfl]; rfl, fun h => absurd rfl h⟩ (by omega)
  rw [show cod (A 2) (fun _ => 0) 0 * A 2 ^ A 2 = 0 from Nat.zero_mul _] at b1
  rw [show r_X4_tryFrom 9 107 34 0 0 0 (mk τ0 w u) = some (mk τ w u) from e1, Option.bind_some]
  exact ⟨τ, ⟨Fr_t fr f1, b1⟩, rfl⟩
end CR
