/-! L3: byMud -/
theorem it_spl {α : Type} (f : Nat → α → α) (a : α) (n m : Nat) : it f a (n + m) = it (fun i => f (n + i)) (it f a n) m := by
  induction m with
  | zero => rfl
  | succ m ih => rw [← Nat.add_assoc, it_S, it_S, ih]
def bmv (t way : Nat) : Nat → Nat := it (fun k v => v * (if bt way k = 1 then t else 10 - t)) 1
def bmt (T9 T0 : Nat → Nat) (way : Nat) : Nat → Nat := it (fun k v => v + (if bt way k = 1 then T9 k else T0 k)) 0
def bms (t : Nat) (T9 T0 : Nat → Nat) (n : Nat) : Nat → Nat := it (fun way v => v + bmv t way n * bmt T9 T0 way n) 0
def bmw (t n : Nat) : Nat → Nat := it (fun way v => v + bmv t way n) 0
def bma (t : Nat) (T9 T0 : Nat → Nat) : Nat → Nat := it (fun k v => v + t * T9 k + (10 - t) * T0 k) 0
theorem bt_add {w n k : Nat} (hk : k < n) : bt (2 ^ n + w) k = bt w k := by
  unfold bt
  obtain ⟨d, rfl⟩ : ∃ d, n = k + (d + 1) := ⟨n - k - 1, by omega⟩
  rw [Nat.pow_add, Nat.mul_add_div (Nat.two_pow_pos k), Nat.pow_succ, Nat.mul_comm (2 ^ d) 2, Nat.mul_add_mod]
theorem bt_hi {w n : Nat} (hw : w < 2 ^ n) : bt (2 ^ n + w) n = 1 := by
  unfold bt
  rw [Nat.add_div_left _ (Nat.two_pow_pos n), Nat.div_eq_of_lt hw]
theorem bt_lo {w n : Nat} (hw : w < 2 ^ n) : bt w n = 0 := by
  unfold bt
  rw [Nat.div_eq_of_lt hw]
theorem bmv_hi {t w n : Nat} : ∀ k, k ≤ n → bmv t (2 ^ n + w) k = bmv t w k := by
  intro k
  induction k with
  | zero => intro _; rfl
  | succ k ih =>
    intro hk
    show bmv t (2 ^ n + w) k * _ = bmv t w k * _
    rw [ih (by omega), bt_add (by omega)]
theorem bmt_hi {T9 T0 : Nat → Nat} {w n : Nat} : ∀ k, k ≤ n → bmt T9 T0 (2 ^ n + w) k = bmt T9 T0 w k := by
  intro k
  induction k with
  | zero => intro _; rfl
  | succ k ih =>
    intro hk
    show bmt T9 T0 (2 ^ n + w) k + _ = bmt T9 T0 w k + _
    rw [ih (by omega), bt_add (by omega)]
theorem sum_m {g : Nat → Nat} (a n : Nat) : it (fun i v => v + g i * a) 0 n = it (fun i v => v + g i) 0 n * a := by
  induction n with
  | zero => exact (Nat.zero_mul a).symm
  | succ n ih => rw [it_S, it_S, ih, Nat.add_mul]
theorem bmw_p {t : Nat} (ht : t ≤ 10) : ∀ n, bmw t n (2 ^ n) = 10 ^ n := by
  intro n
  induction n with
  | zero => rfl
  | succ n ih =>
    have e1 : 2 ^ (n + 1) = 2 ^ n + 2 ^ n := by rw [Nat.pow_succ]; omega
    have e2 : it (fun way v => v + bmv t way (n + 1)) 0 (2 ^ n) = 10 ^ n * (10 - t) := by
      rw [← ih]
      unfold bmw
      rw [← sum_m]
      refine it_c (fun i hi v => ?_)
      show v + bmv t i n * (if bt i n = 1 then t else 10 - t) = _
      rw [bt_lo hi, if_neg (by decide)]
    unfold bmw
    rw [e1, it_spl, it_add, e2]
    have e3 : it (fun i v => v + bmv t (2 ^ n + i) (n + 1)) 0 (2 ^ n) = 10 ^ n * t := by
      rw [← ih]
      unfold bmw
      rw [← sum_m]
      refine it_c (fun i hi v => ?_)
      show v + bmv t (2 ^ n + i) n * (if bt (2 ^ n + i) n = 1 then t else 10 - t) = _
      rw [bt_hi hi, if_pos rfl, bmv_hi n (Nat.le_refl _)]
    rw [e3, ← Nat.mul_add, Nat.pow_succ, show 10 - t + t = 10 by omega]
theorem bms_S {t : Nat} (T9 T0 : Nat → Nat) (ht : t ≤ 10) (n : Nat) : bms t T9 T0 (n + 1) (2 ^ (n + 1)) = 10 * bms t T9 T0 n (2 ^ n) + 10 ^ n * (t * T9 n + (10 - t) * T0 n) := by
  have e1 : 2 ^ (n + 1) = 2 ^ n + 2 ^ n := by rw [Nat.pow_succ]; omega
  have hw := bmw_p ht n
  have e2 : it (fun way v => v + bmv t way (n + 1) * bmt T9 T0 way (n + 1)) 0 (2 ^ n) = bms t T9 T0 n (2 ^ n) * (10 - t) + 10 ^ n * ((10 - t) * T0 n) := by
    rw [← hw]
    unfold bms bmw
    rw [← sum_m, ← sum_m, ← it_add2]
    refine it_c (fun i hi v => ?_)
    show v + bmv t i n * (if bt i n = 1 then t else 10 - t) * (bmt T9 T0 i n + (if bt i n = 1 then T9 n else T0 n)) = _
    rw [bt_lo hi, if_neg (by decide), if_neg (by decide), Nat.mul_add, Nat.mul_right_comm, Nat.mul_assoc (bmv t i n) (10 - t) (T0 n)]
  have e3 : it (fun i v => v + bmv t (2 ^ n + i) (n + 1) * bmt T9 T0 (2 ^ n + i) (n + 1)) 0 (2 ^ n) = bms t T9 T0 n (2 ^ n) * t + 10 ^ n * (t * T9 n) := by
    rw [← hw]
    unfold bms bmw
    rw [← sum_m, ← sum_m, ← it_add2]
    refine it_c (fun i hi v => ?_)
    show v + bmv t (2 ^ n + i) n * (if bt (2 ^ n + i) n = 1 then t else 10 - t) * (bmt T9 T0 (2 ^ n + i) n + (if bt (2 ^ n + i) n = 1 then T9 n else T0 n)) = _
    rw [bt_hi hi, if_pos rfl, if_pos rfl, bmv_hi n (Nat.le_refl _), bmt_hi n (Nat.le_refl _), Nat.mul_add, Nat.mul_right_comm, Nat.mul_assoc (bmv t i n) t (T9 n)]
  have e4 : bms t T9 T0 (n + 1) (2 ^ (n + 1)) = it (fun way v => v + bmv t way (n + 1) * bmt T9 T0 way (n + 1)) 0 (2 ^ n) + it (fun i v => v + bmv t (2 ^ n + i) (n + 1) * bmt T9 T0 (2 ^ n + i) (n + 1)) 0 (2 ^ n) := by
    show it _ 0 (2 ^ (n + 1)) = _
    rw [e1, it_spl, it_add]
  rw [e4, e2, e3]
  have e5 : bms t T9 T0 n (2 ^ n) * (10 - t) + bms t T9 T0 n (2 ^ n) * t = 10 * bms t T9 T0 n (2 ^ n) := by rw [← Nat.mul_add, show 10 - t + t = 10 by omega, Nat.mul_comm]
  rw [Nat.mul_add (10 ^ n)]
  omega
theorem bms_a {t : Nat} (T9 T0 : Nat → Nat) (ht : t ≤ 10) : ∀ n, bms t T9 T0 n (2 ^ n) = bma t T9 T0 n * 10 ^ (n - 1) := by
  intro n
  induction n with
  | zero => rfl
  | succ n ih =>
    rw [bms_S T9 T0 ht, ih]
    show _ = (bma t T9 T0 n + t * T9 n + (10 - t) * T0 n) * 10 ^ n
    by_cases h : n = 0
    · subst h
      show 10 * (0 * 1) + 1 * _ = (0 + _ + _) * 1
      omega
    · obtain ⟨d, rfl⟩ : ∃ d, n = d + 1 := ⟨n - 1, by omega⟩
      rw [Nat.add_sub_cancel, Nat.add_assoc (bma t T9 T0 (d + 1)), Nat.add_mul, Nat.pow_succ, Nat.mul_comm (10 ^ d * 10) (t * T9 (d + 1) + (10 - t) * T0 (d + 1)), ← Nat.mul_assoc (bma t T9 T0 (d + 1)), Nat.mul_comm (bma t T9 T0 (d + 1) * 10 ^ d) 10]
section OH
variable {σ : Nat → Nat → Int32} {w u : Int64} {A X Z : Nat → Nat} {P : List (Nat × Nat)} {b om : Nat}
theorem cl_byMud (cv : CV σ 34 A P X) (hx : X 0 ≤ 999) {m n t : Nat} (hma : m < A 1) (hn1 : 1 ≤ n) (hn : n ≤ 5) (ht : t ≤ 10) : RQ (Fr Ws σ) w u (nI (bma t (fun i => tn A P (rt A i X) (m + 1) 9 (A 2)) (fun i => tn A P (rt A i X) (m + 1) 0 (A 2)) n * 10 ^ (n - 1))) (f_X10_byMud 0 (nI m) (nI n) (nI t) (mk σ w u)) := by
  have hM8 := cv.2.2.2.1.2.2.1
  unfold f_X10_byMud
  rw [zg0]
  rw [needMan_f cv hma, Option.bind_some]
  rw [show f_X10_needWithin (nI n) 1 5 (mk σ w u) = some (mk σ w u) from needWithin_f (a := 1) (b := 5) (by omega) (by omega) (by decide), Option.bind_some]
  rw [show f_X10_needWithin (nI t) 0 10 (mk σ w u) = some (mk σ w u) from needWithin_f (a := 0) (b := 10) (by omega) (by omega) (by decide), Option.bind_some]
  obtain ⟨T9, h9⟩ : ∃ T9, T9 = fun i => tn A P (rt A i X) (m + 1) 9 (A 2) := ⟨_, rfl⟩
  obtain ⟨T0, h0⟩ : ∃ T0, T0 = fun i => tn A P (rt A i X) (m + 1) 0 (A 2) := ⟨_, rfl⟩
  rw [← h9, ← h0]
  unfold l_X10_byMud_27
  refine lp_S (RQ (Fr Ws σ) w u (nI (bma t T9 T0 n * 10 ^ (n - 1)))) (fun i τ => (0, nI m, nI n, nI t, nI (bma t T9 T0 i), nI (10 ^ (i - 1)), nI i, mk τ w u)) (fun i τ => Fr Ws σ τ ∧ CV τ 34 A P X) n ?_ ?_ n 0 _ σ (by omega) (by omega) ⟨Fr_r _ _, cv⟩
  · intro i hi k τ ⟨fr, cv1⟩ hk
    obtain ⟨τ2, f2, e2⟩ := timesNamed_f (w := w) (u := u) cv1 (c := m + 1) (n := i) (mud := 9) (by omega) (by omega) (by omega)
    have cv2 := CV_fr cv1 f2
    obtain ⟨τ3, f3, e3⟩ := timesNamed_f (w := w) (u := u) cv2 (c := m + 1) (n := i) (mud := 0) (by omega) (by omega) (by omega)
    rw [nJ_S, show tn A P (rt A i X) (m + 1) 9 (A 2) = T9 i by rw [h9]] at e2
    rw [nJ_S, show tn A P (rt A i X) (m + 1) 0 (A 2) = T0 i by rw [h0]] at e3
    have h := hk τ3 ⟨Fr_t fr (Fr_t (Wc_s f2) (Wc_s f3)), CV_fr cv2 f3⟩
    dsimp only at h ⊢
    rw [show bma t T9 T0 (i + 1) = bma t T9 T0 i + t * T9 i + (10 - t) * T0 i from rfl, Nat.add_sub_cancel] at h
    unfold f_X10_byMud_27 f_X10_byMud_86
    rw [if_neg (nI_ge hi (by omega)), zr0_8, Option.bind_some, show f_X3_timesNamed 34 (nI m) (nI i) 9 (mk τ w u) = some (nI (T9 i), mk τ2 w u) from e2, Option.bind_some]
    dsimp only
    rw [zr0_8, Option.bind_some, show f_X3_timesNamed 34 (nI m) (nI i) 0 (mk τ2 w u) = some (nI (T0 i), mk τ3 w u) from e3, Option.bind_some]
    dsimp only
    rw [pk_mul, nI_add, show (10 : Int32) - nI t = nI (10 - t) from pk_sub (a := 10) ht, pk_mul, nI_add, nI_1]
    by_cases c : i = 0
    · subst c
      rw [if_pos (show nI 0 = 0 from rfl), show nI (10 ^ (0 - 1)) * 1 = nI (10 ^ 0) by decide]
      exact h
    · rw [if_neg (nI_ne0 (by omega) (by omega)), show nI (10 ^ (i - 1)) * 10 = nI (10 ^ i) from by
        rw [show nI (10 ^ (i - 1)) * 10 = nI (10 ^ (i - 1) * 10) from pk_mul _ 10, ← Nat.pow_succ, show (i - 1).succ = i by omega]]
      exact h
  · intro k τ ⟨fr, cv1⟩
    dsimp only
    unfold f_X10_byMud_27
    rw [if_pos (nI_le (Nat.le_refl _) (by omega))]
    unfold f_X10_byMud_95
    rw [pk_mul]
    exact RQ_i fr
theorem re_byMud (rv : RV σ 0 A P X 0) (hx : X 0 ≤ 999) {m n t : Nat} (hma : m < A 1) (hn1 : 1 ≤ n) (hn : n ≤ 5) (ht : t ≤ 10) : RQ (fun τ => Fr Wq (s2 σ 118 0 0) τ) w u (nI (bma t (fun i => tn A P (rt A i X) (m + 1) 9 (A 2)) (fun i => tn A P (rt A i X) (m + 1) 0 (A 2)) n * 10 ^ (n - 1))) (f_X11_byMud 118 (nI m) (nI n) (nI t) (mk σ w u)) := by
  have t0 : (s2 σ 118 0 0) 118 0 = nI 0 := by rw [s2_at rfl rfl]; rfl
  have rv0 : RV (s2 σ 118 0 0) 0 A P X 0 := RV_F rv (Fr_s (W := fun q k => q = 118 ∧ k = 0) ⟨rfl, rfl⟩) (fun q k e => by omega)
  have tm := rv0.2.1.1.2.1; have tr := rv0.2.1.1.2.2.1; have tb := rv0.2.1.1.1; have hB1 := rv.2.2.2.2.1.1; have hB2 := rv.2.2.2.2.1.2.1; have hM8 := rv.2.2.2.2.1.2.2.1; have hR8 := rv.2.2.2.2.1.2.2.2.1; have hS12 := rv.2.2.2.2.1.2.2.2.2.1; have hT := RV_b rv
  rw [← bms_a _ _ ht]
  obtain ⟨T9, h9⟩ : ∃ T9, T9 = fun i => tn A P (rt A i X) (m + 1) 9 (A 2) := ⟨_, rfl⟩
  obtain ⟨T0, h0⟩ : ∃ T0, T0 = fun i => tn A P (rt A i X) (m + 1) 0 (A 2) := ⟨_, rfl⟩
  rw [← h9, ← h0]
  have hp := Nat.two_pow_pos n
  have h2 : 2 ^ n ≤ 2 ^ 5 := Nat.pow_le_pow_right (by decide) hn
  unfold f_X11_byMud
  rw [zg118, zw118_0, Option.bind_some]
  rw [show f_X11_isMan 118 (nI m) (mk (s2 σ 118 0 0) w u) = some (nI 1, mk (s2 σ 118 0 0) w u) from isMan_1 tm (by omega) hma t0, Option.bind_some]
  dsimp only
  rw [if_neg (show ¬ nI 1 = 0 by decide)]
  rw [show f_X11_within (nI n) 1 5 (mk (s2 σ 118 0 0) w u) = some (nI 1, mk (s2 σ 118 0 0) w u) from within_1 (a := 1) (b := 5) hn1 hn (by decide) _, Option.bind_some]
  dsimp only
  rw [if_neg (show ¬ nI 1 = 0 by decide), show f_X11_within (nI t) 0 10 (mk (s2 σ 118 0 0) w u) = some (nI 1, mk (s2 σ 118 0 0) w u) from within_1 (a := 0) (b := 10) (by omega) ht (by decide) _, Option.bind_some]
  dsimp only
  rw [if_neg (show ¬ nI 1 = 0 by decide)]
  unfold f_X11_byMud_38
  rw [show f_X11_right 118 1 2 (mk (s2 σ 118 0 0) w u) = some (nI 1, mk (s2 σ 118 0 0) w u) from right_1 t0, Option.bind_some]
  dsimp only
  rw [if_neg (show ¬ nI 1 = 0 by decide)]
  have e5 : (1 : Int32) <<< (nI n &&& 31) = nI (2 ^ n) := x_one (by omega)
  unfold l_X11_byMud_53
  have hq : ∀ τ a, Fr (fun q k => Wq q k ∨ (q = 118 ∧ k = 41)) (s2 σ 118 0 0) τ → RV τ 0 A P X a → Fr Wq (s2 σ 118 0 0) (s2 τ 118 41 (-1)) := fun τ a fr r => by
    intro q k hw
    by_cases e : q = 118 ∧ k = 41
    · rw [s2_at e.1 e.2, e.1, e.2]
      exact rv0.2.2.2.1.1.symm
    · rw [s2_off e]
      exact fr q k (fun e2 => by rcases e2 with e2 | e2; exact hw e2; exact e e2)
  refine lp_S (RQ (fun τ => Fr Wq (s2 σ 118 0 0) τ) w u (nI (bms t T9 T0 n (2 ^ n)))) (fun i τ => (118, nI m, nI n, nI t, nI (bms t T9 T0 n i), nI i, mk τ w u)) (fun i τ => Fr (fun q k => Wq q k ∨ (q = 118 ∧ k = 41)) (s2 σ 118 0 0) τ ∧ ∃ a, RV τ 0 A P X a) (2 ^ n) ?_ ?_ (2 ^ n) 0 _ _ (by omega) (by omega) ⟨Fr_r _ _, 0, rv0⟩
  · intro i hi k τ ⟨fr, a, rv1⟩ hk
    obtain ⟨τ1, f1, r33, r0, e1⟩ := tries_V (w := w) (u := u) rv1
    dsimp only at hk ⊢
    unfold f_X11_byMud_53
    rw [e5, if_neg (nI_ge hi (by omega)), e1, Option.bind_some]
    unfold l_X11_byMud_74
    obtain ⟨wf, hwf⟩ : ∃ wf : Nat → Nat, wf = fun j => if bt i j = 1 then 9 else 0 := ⟨_, rfl⟩
    refine lp_S (RQ (fun τ => Fr Wq (s2 σ 118 0 0) τ) w u (nI (bms t T9 T0 n (2 ^ n)))) (fun j τ => (118, nI m, nI n, nI t, nI (bms t T9 T0 n i), nI i, nI (bmv t i j), nI (bmt T9 T0 i j), nI j, mk τ w u)) (fun j τ => Fr (fun q k => Wq q k ∨ (q = 118 ∧ k = 41)) (s2 σ 118 0 0) τ ∧ ∃ a, RV τ 0 A P X a ∧ RV τ 33 A P (ny A P wf X j) a) n ?_ ?_ n 0 _ τ1 (by omega) (by omega) ⟨Fr_t fr (Fr_m (Wb_q f1) (fun q k e => Or.inl e)), a, r0, r33⟩
    · intro j hj k2 τ2 ⟨fr2, a2, q0, q33⟩ hk2
      have hb := bt_lt i j
      have key : ∀ d, d = wf j → ∃ τ4, (Fr (fun q k => Wq q k ∨ (q = 118 ∧ k = 41)) (s2 σ 118 0 0) τ4 ∧ ∃ a, RV τ4 0 A P X a ∧ RV τ4 33 A P (ny A P wf X (j + 1)) a) ∧ τ4 132 m = nI (tn A P (rt A j X) (m + 1) d (A 2)) ∧ f_X11_nightGoes 118 33 (mk (s2 τ2 118 41 (nI d)) w u) = some (mk τ4 w u) := by
        intro d hd
        have hd9 : d ≤ 9 := by rw [hd, hwf]; dsimp only; split <;> omega
        have fa : Fr (fun q k => q = 118 ∧ k = 41) τ2 (s2 τ2 118 41 (nI d)) := Fr_s ⟨rfl, rfl⟩
        have mkv : ∀ b Z, RV τ2 b A P Z a2 → RV (s2 τ2 118 41 (nI d)) b A P Z (d + 1) := fun b Z r => ⟨r.1, Ra_F r.2.1 fa (fun q k e => by omega), fun k hk => by rw [s2_off (by omega)]; exact r.2.2.1 k hk, ⟨by rw [s2_at rfl rfl]; exact (nJ_S d).symm, by omega⟩, r.2.2.2.2⟩
        obtain ⟨τ4, f4, r4, -, -, o4, e4⟩ := nightV (w := w) (u := u) (mkv 33 _ q33) (by rw [ny_0]; omega)
        have em : ∀ n, mo A (d + 1) n = d := fun n => by unfold mo; rw [if_neg (by omega)]; omega
        rw [em] at r4 o4
        have o5 := o4 m (by omega)
        rw [tn_c hM8 (ny_q j)] at o5
        refine ⟨τ4, ⟨Fr_t (Fr_t fr2 (Fr_m fa (fun q k e => Or.inr e))) (Fr_m (Wn_q f4) (fun q k e => Or.inl e)), d + 1, RV_o2 (mkv 0 _ q0) f4, ?_⟩, o5, e4⟩
        rw [ny_S, ← hd]
        exact r4
      dsimp only at hk2 ⊢
      unfold f_X11_byMud_74
      rw [if_neg (nI_ge hj (by omega)), show (1 : Int32) = nI 1 from rfl, x_bit (by omega) (by omega)]
      by_cases c : bt i j = 1
      · obtain ⟨τ4, hI, o4, e4⟩ := key 9 (by rw [hwf]; dsimp only; rw [if_pos c])
        have h := hk2 τ4 hI
        rw [show bmv t i (j + 1) = bmv t i j * t from by show bmv t i j * (if bt i j = 1 then t else 10 - t) = _; rw [if_pos c], show bmt T9 T0 i (j + 1) = bmt T9 T0 i j + T9 j from by show bmt T9 T0 i j + (if bt i j = 1 then T9 j else T0 j) = _; rw [if_pos c]] at h
        rw [show tn A P (rt A j X) (m + 1) 9 (A 2) = T9 j by rw [h9]] at o4
        rw [c, if_pos rfl]
        unfold f_X11_byMud_96
        rw [if_neg (show ¬ nI 1 = 0 by decide)]
        unfold f_X11_byMud_113
        rw [if_neg (show ¬ nI 1 = 0 by decide)]
        unfold f_X11_byMud_128
        rw [pk_mul, zw118_41, Option.bind_some, show f_X11_nightGoes 118 33 (mk (s2 τ2 118 41 9) w u) = some (mk τ4 w u) from e4, Option.bind_some, zr118_44, Option.bind_some, za132 (by omega), Option.bind_some, o4, nI_add, nI_1]
        exact h
      · obtain ⟨τ4, hI, o4, e4⟩ := key 0 (by rw [hwf]; dsimp only; rw [if_neg c])
        have h := hk2 τ4 hI
        rw [show bmv t i (j + 1) = bmv t i j * (10 - t) from by show bmv t i j * (if bt i j = 1 then t else 10 - t) = _; rw [if_neg c], show bmt T9 T0 i (j + 1) = bmt T9 T0 i j + T0 j from by show bmt T9 T0 i j + (if bt i j = 1 then T9 j else T0 j) = _; rw [if_neg c]] at h
        rw [show tn A P (rt A j X) (m + 1) 0 (A 2) = T0 j by rw [h0]] at o4
        rw [show bt i j = 0 by omega, if_neg (show ¬ nI 0 = nI 1 by decide)]
        unfold f_X11_byMud_96
        rw [if_pos (show (0 : Int32) = 0 from rfl)]
        unfold f_X11_byMud_113
        rw [if_pos (show (0 : Int32) = 0 from rfl)]
        unfold f_X11_byMud_128
        rw [show (10 : Int32) - nI t = nI (10 - t) from pk_sub (a := 10) ht, pk_mul, zw118_41, Option.bind_some, show f_X11_nightGoes 118 33 (mk (s2 τ2 118 41 0) w u) = some (mk τ4 w u) from e4, Option.bind_some, zr118_44, Option.bind_some, za132 (by omega), Option.bind_some, o4, nI_add, nI_1]
        exact h
    · intro k2 τ2 ⟨fr2, a2, q0, q33⟩
      have h := hk τ2 ⟨fr2, a2, q0⟩
      dsimp only
      unfold f_X11_byMud_74
      rw [if_pos (nI_le (Nat.le_refl _) (by omega))]
      unfold f_X11_byMud_154
      rw [pk_mul, nI_add, nI_1]
      exact h
  · intro k τ ⟨fr, a, rv1⟩
    dsimp only
    unfold f_X11_byMud_53
    rw [e5, if_pos (nI_le (Nat.le_refl _) (by omega))]
    unfold f_X11_byMud_170
    rw [zw118_41, Option.bind_some]
    exact RQ_i (hq τ a fr rv1)
end OH
