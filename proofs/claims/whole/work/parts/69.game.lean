/-! L3: reform -/
/-- hearing with another tread of one man: only his own bit of a beat matters -/
theorem ls_t {X Y : Nat → Nat} {beat set M : Nat} (h : ∀ i, i < M → bt (X (1 + i)) beat = bt (Y (1 + i)) beat ∧ X (9 + i) = Y (9 + i)) : ls X beat set M = ls Y beat set M := by
  induction M with
  | zero => rfl
  | succ M ih =>
    unfold ls
    rw [ih (fun i hi => h i (by omega)), (h M (by omega)).1, (h M (by omega)).2]
theorem hb_t {A X Y : Nat → Nat} {P : List (Nat × Nat)} {ab bs mud beat last : Nat} (h : ∀ i, i < A 1 → bt (X (1 + i)) beat = bt (Y (1 + i)) beat ∧ X (9 + i) = Y (9 + i)) : hb A P X ab bs mud beat last = hb A P Y ab bs mud beat last := by
  unfold hb vals
  rw [ls_t h, ls_t h]
/-- the tread that has all beats, or none -/
def tr9 (A X : Nat → Nat) (m has : Nat) : Nat → Nat := un X (1 + m) (if has = 0 then 0 else 2 ^ A 0 - 1)
theorem bt_all {n k : Nat} (h : k < n) : bt (2 ^ n - 1) k = 1 := by
  rw [bt_1, Nat.testBit_two_pow_sub_one]
  exact decide_eq_true h
theorem hb_tr {A X : Nat → Nat} {P : List (Nat × Nat)} {m t ab bs mud beat last : Nat} (hM : A 1 ≤ 8) (hm : m < 8) (hb1 : beat < A 0) : hb A P (un X (1 + m) t) ab bs mud beat last = hb A P (tr9 A X m (bt t beat)) ab bs mud beat last := by
  have hl := bt_lt t beat
  refine hb_t (fun i hi => ?_)
  unfold tr9
  by_cases e : i = m
  · subst e
    rw [un_at rfl, un_at rfl, un_off (by omega), un_off (by omega)]
    refine ⟨?_, rfl⟩
    rcases (show bt t beat = 0 ∨ bt t beat = 1 by omega) with c | c
    · rw [c, if_pos rfl]; unfold bt; simp
    · rw [c, if_neg (by decide), bt_all hb1]
  · rw [un_off (by omega), un_off (by omega), un_off (by omega), un_off (by omega)]
    exact ⟨rfl, rfl⟩
/-- who is named of a row with another tread of a man -/
def nr (A : Nat → Nat) (P : List (Nat × Nat)) (X : Nat → Nat) (m r t : Nat) : Nat := na A P (un X (1 + m) t) r (mq A (X 0))
def rfm (A : Nat → Nat) (P : List (Nat × Nat)) (X : Nat → Nat) (m r : Nat) : Nat → Nat × Nat := it (fun t s => if s.2 ≤ pc (t ^^^ X (1 + m)) 12 then s else if nr A P X m r t = m + 1 then (t + 1, pc (t ^^^ X (1 + m)) 12) else s) (0, 13)
theorem rfm_S (A : Nat → Nat) (P : List (Nat × Nat)) (X : Nat → Nat) (m r t : Nat) : rfm A P X m r (t + 1) = if (rfm A P X m r t).2 ≤ pc (t ^^^ X (1 + m)) 12 then rfm A P X m r t else if nr A P X m r t = m + 1 then (t + 1, pc (t ^^^ X (1 + m)) 12) else rfm A P X m r t := rfl
theorem rfm_K (A : Nat → Nat) (P : List (Nat × Nat)) (X : Nat → Nat) (m r : Nat) : ∀ n, (rfm A P X m r n).1 ≤ n ∧ (rfm A P X m r n).2 ≤ 13 ∧ ((rfm A P X m r n).1 = 0 → (rfm A P X m r n).2 = 13) := by
  intro n
  induction n with
  | zero => exact ⟨Nat.le_refl _, Nat.le_refl _, fun _ => rfl⟩
  | succ n ih =>
    have h := pc_le (n ^^^ X (1 + m)) 12
    rw [rfm_S]
    split
    · exact ⟨by omega, ih.2⟩
    · split
      · exact ⟨by dsimp only; omega, by dsimp only; omega, fun e => by dsimp only at e; omega⟩
      · exact ⟨by omega, ih.2⟩
def rf9 (s : Nat × Nat) : Nat := if s.1 = 0 then 99999 else s.2
def rfv (q : Nat) (s : Nat × Nat) : Int32 := if s.1 = 0 then nJ 0 else if q = 0 then nI s.2 else nI (s.1 - 1)
section OI
variable {σ : Nat → Nat → Int32} {w u : Int64} {A X Z : Nat → Nat} {P : List (Nat × Nat)} {b om : Nat}
theorem re_reform (rv : RV σ 0 A P X 0) (hx : X 0 ≤ 999) {m q : Nat} (hma : m < A 1) (hq : q ≤ 1) : RQ (fun τ => Fr Wq (s2 σ 118 0 0) τ) w u (if ro A X m = 0 then nJ 0 else rfv q (rfm A P X m (ro A X m - 1) (2 ^ A 0))) (f_X11_reform 118 (nI m) (nI q) (mk σ w u)) := by
  have hro := ro_le A X m
  have t0 : (s2 σ 118 0 0) 118 0 = nI 0 := by rw [s2_at rfl rfl]; rfl
  have rv0 : RV (s2 σ 118 0 0) 0 A P X 0 := RV_F rv (Fr_s (W := fun q k => q = 118 ∧ k = 0) ⟨rfl, rfl⟩) (fun q k e => by omega)
  have tm := rv0.2.1.1.2.1; have tr := rv0.2.1.1.2.2.1; have tb := rv0.2.1.1.1; have hB1 := rv.2.2.2.2.1.1; have hB2 := rv.2.2.2.2.1.2.1; have hM8 := rv.2.2.2.2.1.2.2.1; have hR8 := rv.2.2.2.2.1.2.2.2.1; have hS12 := rv.2.2.2.2.1.2.2.2.2.1; have hT := RV_b rv
  have hp := Nat.two_pow_pos (A 0)
  have h2 : 2 ^ A 0 ≤ 2 ^ 12 := Nat.pow_le_pow_right (by decide) hB2
  have e5 : (1 : Int32) <<< (nI (A 0) &&& 31) = nI (2 ^ A 0) := x_one (by omega)
  unfold f_X11_reform
  rw [zg118, zw118_0, Option.bind_some]
  rw [show f_X11_isMan 118 (nI m) (mk (s2 σ 118 0 0) w u) = some (nI 1, mk (s2 σ 118 0 0) w u) from isMan_1 tm (by omega) hma t0, Option.bind_some]
  dsimp only
  rw [if_neg (show ¬ nI 1 = 0 by decide)]
  rw [show f_X11_isWhat 118 (nI q) 1 (mk (s2 σ 118 0 0) w u) = some (nI 1, mk (s2 σ 118 0 0) w u) from isWhat_1 (b := 1) hq (by decide) t0, Option.bind_some]
  dsimp only
  rw [if_neg (show ¬ nI 1 = 0 by decide)]
  rw [show f_X11_rowOf 118 0 (nI m) (mk (s2 σ 118 0 0) w u) = some (nJ (ro A X m), mk (s2 σ 118 0 0) w u) from rowOf_R rv0 (by omega), Option.bind_some]
  dsimp only
  obtain ⟨τ1, f1, r33, r0, e1⟩ := tries_V (w := w) (u := u) rv0
  rw [e1, Option.bind_some]
  obtain ⟨R, hR⟩ : ∃ R, R = ro A X m := ⟨_, rfl⟩
  rw [← hR] at hro ⊢
  obtain ⟨V, hV⟩ : ∃ V, V = (if R = 0 then nJ 0 else rfv q (rfm A P X m (R - 1) (2 ^ A 0))) := ⟨_, rfl⟩
  rw [← hV]
  unfold l_X11_reform_46
  have fin : ∀ τ s, Fr Wq (s2 σ 118 0 0) τ → V = rfv q s → s.1 ≤ 2 ^ A 0 → s.2 ≤ 13 → (s.1 = 0 → s.2 = 13) → RQ (fun τ => Fr Wq (s2 σ 118 0 0) τ) w u V (f_X11_reform_127 (nI q) (nJ s.1) (nI (rf9 s)) (mk τ w u)) := fun τ s fr hv h1 h3 h4 => by
    unfold f_X11_reform_127 f_X11_reform_148
    unfold rfv at hv
    by_cases c : s.1 = 0
    · rw [if_pos c] at hv
      rw [c, if_pos (show nJ 0 = -1 from rfl), hv]
      exact RQ_i fr
    · rw [if_neg c] at hv
      rw [if_neg (show ¬ nJ s.1 = -1 from fun e => by have e2 : nJ s.1 = nJ 0 := e; rw [q_JJ (by omega) (by omega)] at e2; exact c e2)]
      by_cases c2 : q = 0
      · rw [if_pos c2] at hv
        rw [c2, if_pos (show nI 0 = 0 from rfl), hv]
        unfold rf9
        rw [if_neg c]
        exact RQ_i fr
      · rw [if_neg c2] at hv
        rw [if_neg (nI_ne0 (by omega) (by omega)), hv, nJ_pos (by omega)]
        exact RQ_i fr
  by_cases h0 : R = 0
  · rw [if_pos h0] at hV
    rw [h0]
    refine lp_S (RQ (fun τ => Fr Wq (s2 σ 118 0 0) τ) w u V) (fun i τ => (118, nI m, nI q, nJ 0, nJ 0, nI 99999, nI i, mk τ w u)) (fun i τ => τ = τ1) 0 (fun i hi => by omega) ?_ 0 0 _ τ1 (by omega) (by omega) rfl
    intro k τ e
    subst e
    dsimp only
    unfold f_X11_reform_46
    rw [zi118_1, Option.bind_some, r0.2.1.1.1, e5, if_neg (nI_ge (by omega) (by omega)), if_pos (show nJ 0 = -1 from rfl)]
    exact fin τ (0, 13) (Wb_q f1) (by rw [hV]; rfl) (Nat.zero_le _) (Nat.le_refl _) (fun _ => rfl)
  · rw [if_neg h0] at hV
    refine lp_S (RQ (fun τ => Fr Wq (s2 σ 118 0 0) τ) w u V) (fun i τ => (118, nI m, nI q, nJ R, nJ (rfm A P X m (R - 1) i).1, nI (rf9 (rfm A P X m (R - 1) i)), nI i, mk τ w u)) (fun i τ => Fr Wq (s2 σ 118 0 0) τ ∧ RV τ 0 A P X 0 ∧ ∃ Y, RV τ 33 A P Y 0 ∧ ∀ a, un Y (1 + m) a = un X (1 + m) a) (2 ^ A 0) ?_ ?_ (2 ^ A 0) 0 _ τ1 (by omega) (by omega) ⟨Wb_q f1, r0, X, r33, fun a => rfl⟩
    · intro i hi k τ ⟨fr, rv1, Y, rY, hY⟩ hk
      have tb : τ 118 1 = nI (A 0) := rv1.2.1.1.1
      have hK := rfm_K A P X m (R - 1) i
      have h8 := pc_le (i ^^^ X (1 + m)) 12
      have h7 := xr12 (a := i) (b := X (1 + m)) (by omega) (hT m (by omega)).1
      have e6 := RV_0t rv1 m (by omega)
      have h9 : rf9 (rfm A P X m (R - 1) i) ≤ 99999 := by unfold rf9; split <;> omega
      dsimp only at hk ⊢
      unfold f_X11_reform_46
      rw [zi118_1, Option.bind_some, tb, e5, if_neg (nI_ge hi (by omega)), nJ_pos (k := R) (by omega), if_neg (show ¬ nI (R - 1) = -1 from fun e => by have e2 : nI (R - 1) = nJ 0 := e; rw [q_eqJ (by omega) (by omega)] at e2; omega), zr118_36, Option.bind_some, show (1 : Int32) + nI m = nI (1 + m) from nI_add 1 m, za128 (by omega), Option.bind_some, e6, x_xor, bits_f (by omega), Option.bind_some]
      dsimp only
      unfold f_X11_reform_121
      rw [nJ_pos (k := R) (by omega)] at hk
      by_cases c : (rfm A P X m (R - 1) i).2 ≤ pc (i ^^^ X (1 + m)) 12
      · have h := hk τ ⟨fr, rv1, Y, rY, hY⟩
        rw [rfm_S, if_pos c] at h
        rw [if_neg (nI_nlt (by unfold rf9; split; omega; exact c) (by omega)), nI_1]
        exact h
      · have rr2 : Rr (s2 τ 128 (34 + m) (nI i)) 33 (un X (1 + m) i) := by rw [← hY]; exact Rr_s rY.2.2.1 (k := 1 + m) (by omega)
        have f2 : Fr (Wb 33) τ (s2 τ 128 (34 + m) (nI i)) := Fr_s (by unfold Wb; omega)
        have r2 := RV_mk rY (Wb_n f2) rr2 (WX_t rv.2.2.2.2.2.1 (by omega) (by omega))
        obtain ⟨τ3, f3, e3⟩ := namedOf_f (w := w) (u := u) r2 (r := R - 1) (by omega)
        rw [mo_0, un_off (show 0 ≠ 1 + m by omega)] at e3
        have hnl : nr A P X m (R - 1) i ≤ A 1 := na_le _ _ _ _ _ hS12
        have h := hk τ3 ⟨Fr_t fr (Fr_t (Wb_q f2) (Wr_q f3)), RV_fr (RV_o2 rv1 (Wb_n f2)) f3, _, RV_fr r2 f3, fun a => un_un⟩
        rw [rfm_S, if_neg c] at h
        rw [if_pos (nI_lt (by unfold rf9; split; omega; omega) (by omega)), zr118_36, Option.bind_some, show (34 : Int32) + nI m = nI (34 + m) from nI_add 34 m, zb128 (by omega), Option.bind_some, show f_X11_namedOf 118 33 (nI (R - 1)) (mk (s2 τ 128 (34 + m) (nI i)) w u) = some (nJ (nr A P X m (R - 1) i), mk τ3 w u) from e3, Option.bind_some]
        dsimp only
        rw [nI_1]
        by_cases c2 : nr A P X m (R - 1) i = m + 1
        · rw [if_pos c2] at h
          rw [c2, nJ_S, if_pos rfl]
          rw [nJ_S, show rf9 (i + 1, pc (i ^^^ X (1 + m)) 12) = pc (i ^^^ X (1 + m)) 12 by unfold rf9; rw [if_neg (by dsimp only; omega)]] at h
          exact h
        · rw [if_neg c2] at h
          rw [if_neg (fun e => by rw [q_Jeq (by omega) (by omega)] at e; omega)]
          exact h
    · intro k τ ⟨fr, rv1, _⟩
      have tb : τ 118 1 = nI (A 0) := rv1.2.1.1.1
      have hK := rfm_K A P X m (R - 1) (2 ^ A 0)
      dsimp only
      unfold f_X11_reform_46
      rw [zi118_1, Option.bind_some, tb, e5, if_pos (nI_le (Nat.le_refl _) (by omega))]
      exact fin τ _ fr hV hK.1 hK.2.1 hK.2.2
theorem rw1_un {k a p : Nat} (hk : k < 25) : rw1 A (un X k a) p = rw1 A X p := by
  unfold rw1
  split
  · rfl
  · split
    · rfl
    · exact un_off (by omega)
/-- what was listened to -/
def LT (τ : Nat → Nat → Int32) (A X : Nat → Nat) (P : List (Nat × Nat)) (m r : Nat) (has beat last : Nat) : Prop := τ 117 (4 * beat + 2 * has + last) = nI (hb A P (tr9 A X m has) (rw1 A X (r + 1)) (rw1 A X r ||| rw1 A X (r + 2)) (mq A (X 0)) beat last)
def We (q _k : Nat) : Prop := q = 117 ∨ q = 73 ∨ q = 10 ∨ q = 14
theorem We_s {τ : Nat → Nat → Int32} (h : Fr We σ τ) : Fr Ws σ τ := Fr_m h (fun q k e => by unfold Ws; unfold We at e; omega)
theorem We_34 {τ : Nat → Nat → Int32} (cv : CV σ 34 A P X) (h : Fr We σ τ) : CV τ 34 A P X := CV_F cv h (fun q k e => by unfold We at e; omega)
theorem tr9_W (wx : WX A X) {m has : Nat} (hm : m < 8) : WX A (tr9 A X m has) := WX_t wx hm (by have := Nat.two_pow_pos (A 0); split <;> omega)
theorem listenTo_f (cv : CV σ 34 A P X) (ct : CV σ 71 A P X) (hx : X 0 ≤ 999) {m r : Nat} (hma : m < A 1) (hr : r < A 2) : RN (fun τ => Fr We σ τ ∧ (∃ Y, CV τ 71 A P Y ∧ ∀ a, un Y (1 + m) a = un X (1 + m) a) ∧ ∀ has beat last, has < 2 → beat < A 0 → last < 2 → LT τ A X P m r has beat last) w u (f_X10_listenTo 0 (nI m) (nI r) (mk σ w u)) := by
  have wa := cv.2.2.2.1
  have wx := cv.2.2.2.2.1
  have hB2 := wa.2.1
  have hM8 := wa.2.2.1
  have hR8 := wa.2.2.2.1
  have hmu := mq_lt wa (X 0)
  have hab := rw1_lt wa wx (r + 1)
  have hbs := or8 (rw1_lt wa wx r) (rw1_lt wa wx (r + 2))
  have hA0 : ∀ τ, Fr We σ τ → τ 5 0 = nI (A 0) := fun τ fr => (We_34 cv fr).2.1.1.1
  have e1 := menAt_I (w := w) (u := u) cv (p := r) (n := 0) (by omega) (by omega)
  have e2 := besideAt_f (w := w) (u := u) cv (p := r) (n := 0) (by omega) (by omega)
  have e3 := mudIn_f (w := w) (u := u) cv (n := 0) (by omega)
  rw [rt_0] at e1 e2
  rw [Nat.add_zero] at e3
  unfold f_X10_listenTo
  rw [zg0, zr0_8, Option.bind_some, show (0 : Int32) = nI 0 from rfl, e1, Option.bind_some]
  dsimp only
  rw [zr0_8, Option.bind_some, e2, Option.bind_some]
  dsimp only
  rw [zr0_8, Option.bind_some, e3, Option.bind_some]
  dsimp only
  obtain ⟨ab, hab2⟩ : ∃ ab, ab = rw1 A X (r + 1) := ⟨_, rfl⟩
  obtain ⟨bs, hbs2⟩ : ∃ bs, bs = rw1 A X r ||| rw1 A X (r + 2) := ⟨_, rfl⟩
  obtain ⟨mu, hmu2⟩ : ∃ mu, mu = mq A (X 0) := ⟨_, rfl⟩
  rw [← hab2, ← hbs2, ← hmu2]
  rw [← hab2] at hab
  rw [← hbs2] at hbs
  rw [← hmu2] at hmu
  have eLT : ∀ (τ : Nat → Nat → Int32) has beat last, τ 117 (4 * beat + 2 * has + last) = nI (hb A P (tr9 A X m has) ab bs mu beat last) → LT τ A X P m r has beat last := fun τ has beat last h => by unfold LT; rw [← hab2, ← hbs2, ← hmu2]; exact h
  unfold l_X10_listenTo_34
  refine lp_S (RN (fun τ => Fr We σ τ ∧ (∃ Y, CV τ 71 A P Y ∧ ∀ a, un Y (1 + m) a = un X (1 + m) a) ∧ ∀ has beat last, has < 2 → beat < A 0 → last < 2 → LT τ A X P m r has beat last) w u) (fun i τ => (0, nI m, nI ab, nI bs, nI mu, nI i, mk τ w u)) (fun i τ => Fr We σ τ ∧ (∃ Y, CV τ 71 A P Y ∧ ∀ a, un Y (1 + m) a = un X (1 + m) a) ∧ ∀ has beat last, has < i → beat < A 0 → last < 2 → LT τ A X P m r has beat last) 2 ?_ ?_ 2 0 _ σ (by omega) (by omega) ⟨Fr_r _ _, ⟨X, ct, fun a => rfl⟩, fun has beat last h => by omega⟩
  · intro i hi k τ ⟨fr, ⟨Y, cY, hY⟩, hL⟩ hk
    have key : ∀ v, v = (if i = 0 then 0 else 2 ^ A 0 - 1) → RN (fun τ => Fr We σ τ ∧ (∃ Y, CV τ 71 A P Y ∧ ∀ a, un Y (1 + m) a = un X (1 + m) a) ∧ ∀ has beat last, has < 2 → beat < A 0 → last < 2 → LT τ A X P m r has beat last) w u (f_X10_listenTo_64 (fun a0 a1 a2 a3 a4 a5 a6 => k (a0, a1, a2, a3, a4, a5, a6)) 0 (nI m) (nI ab) (nI bs) (nI mu) (nI i) 72 (nI m) (nI v) (mk τ w u)) := fun v hv => by
      obtain ⟨τ2, ⟨f2, m2⟩, e4⟩ := setTread_f (w := w) (u := u) cY (man := m) (a := v) (by omega)
      have e4' : f_X2_set 72 (nI m) (nI v) (mk τ w u) = some (mk (s2 τ 73 m (nI v)) w u) := zs72 (by omega)
      have mv2 : Mv (s2 τ 73 m (nI v)) 71 (tr9 A X m i) := by
        have h := Mv_t (τ := τ) (m := 71) (j := m) (a := v) cY.2.2.1 (by omega)
        rw [hY, hv] at h
        rw [hv]
        exact h
      have fr2 : Fr We τ (s2 τ 73 m (nI v)) := Fr_s (by unfold We; omega)
      have fm2 : Fr (Wm 71) τ (s2 τ 73 m (nI v)) := Fr_s (by unfold Wm; omega)
      have c2 := CV_mk cY fm2 mv2 (tr9_W wx (by omega))
      unfold f_X10_listenTo_64
      rw [e4', Option.bind_some]
      unfold l_X10_listenTo_70
      refine lp_S (RN (fun τ => Fr We σ τ ∧ (∃ Y, CV τ 71 A P Y ∧ ∀ a, un Y (1 + m) a = un X (1 + m) a) ∧ ∀ has beat last, has < 2 → beat < A 0 → last < 2 → LT τ A X P m r has beat last) w u) (fun j τ => (0, nI m, nI ab, nI bs, nI mu, nI i, nI j, mk τ w u)) (fun j τ => Fr We σ τ ∧ CV τ 71 A P (tr9 A X m i) ∧ ∀ has beat last, (has < i ∨ (has = i ∧ beat < j)) → beat < A 0 → last < 2 → LT τ A X P m r has beat last) (A 0) ?_ ?_ (A 0) 0 _ _ (by omega) (by omega) ⟨Fr_t fr fr2, c2, fun has beat last h h3 h4 => by have := hL has beat last (by omega) h3 h4; unfold LT at this ⊢; rw [s2_off (by omega)]; exact this⟩
      · intro j hj k2 τ3 ⟨fr3, c3, hL3⟩ hk2
        dsimp only at hk2 ⊢
        unfold f_X10_listenTo_70
        rw [zr0_4, Option.bind_some, zi5_0, Option.bind_some, hA0 τ3 fr3, if_neg (nI_ge hj (by omega))]
        unfold l_X10_listenTo_85
        refine lp_S (RN (fun τ => Fr We σ τ ∧ (∃ Y, CV τ 71 A P Y ∧ ∀ a, un Y (1 + m) a = un X (1 + m) a) ∧ ∀ has beat last, has < 2 → beat < A 0 → last < 2 → LT τ A X P m r has beat last) w u) (fun l τ => (0, nI m, nI ab, nI bs, nI mu, nI i, nI j, nI l, mk τ w u)) (fun l τ => Fr We σ τ ∧ CV τ 71 A P (tr9 A X m i) ∧ ∀ has beat last, (has < i ∨ (has = i ∧ (beat < j ∨ (beat = j ∧ last < l)))) → beat < A 0 → last < 2 → LT τ A X P m r has beat last) 2 ?_ ?_ 2 0 _ τ3 (by omega) (by omega) ⟨fr3, c3, fun has beat last h => hL3 has beat last (by omega)⟩
        · intro l hl k3 τ4 ⟨fr4, c4, hL4⟩ hk3
          obtain ⟨τ5, f5, e5⟩ := hearsBeat_f (w := w) (u := u) c4 (beat := j) (ab := ab) (bs := bs) (mud := mu) (last := l) (by omega) hab hbs (by omega)
          have f5e : Fr We τ4 τ5 := Fr_m f5 (fun q k e => by unfold We; unfold Wc at e; omega)
          have h := hk3 (s2 τ5 117 (4 * j + 2 * i + l) (nI (hb A P (tr9 A X m i) ab bs mu j l))) ⟨Fr_st (Fr_t fr4 f5e) (by unfold We; omega), CV_F (CV_fr c4 f5) (Fr_s (W := fun q _ => q = 117) rfl) (fun q k e => by omega), fun has beat last h3 h4 h6 => by
            by_cases e : has = i ∧ beat = j ∧ last = l
            · obtain ⟨rfl, rfl, rfl⟩ := e
              exact eLT _ _ _ _ (by rw [s2_at rfl rfl])
            · have := hL4 has beat last (by omega) h4 h6
              unfold LT at this ⊢
              rw [s2_off (by omega), f5 117 _ (by unfold Wc; omega)]
              exact this⟩
          dsimp only at h ⊢
          unfold f_X10_listenTo_85
          rw [if_neg (show ¬ (2 : Int32) ≤ nI l from nI_ge (b := 2) hl (by decide)), zr0_9, Option.bind_some, e5, Option.bind_some]
          dsimp only
          rw [zr0_14, Option.bind_some, show (4 : Int32) * nI j = nI (4 * j) from pk_mul 4 j, show (2 : Int32) * nI i = nI (2 * i) from pk_mul 2 i, nI_add, nI_add, zs116 (by omega), Option.bind_some, nI_1]
          exact h
        · intro k3 τ4 ⟨fr4, c4, hL4⟩
          have h := hk2 τ4 ⟨fr4, c4, fun has beat last h h3 h4 => hL4 has beat last (by omega) h3 h4⟩
          dsimp only at h ⊢
          unfold f_X10_listenTo_85 f_X10_listenTo_136
          rw [if_pos (show (2 : Int32) ≤ nI 2 by decide), nI_1]
          exact h
      · intro k2 τ3 ⟨fr3, c3, hL3⟩
        have h := hk τ3 ⟨fr3, ⟨_, c3, fun a => un_un⟩, fun has beat last h h3 h4 => hL3 has beat last (by omega) h3 h4⟩
        dsimp only at h ⊢
        unfold f_X10_listenTo_70 f_X10_listenTo_142
        rw [zr0_4, Option.bind_some, zi5_0, Option.bind_some, hA0 τ3 fr3, if_pos (nI_le (Nat.le_refl _) (by omega)), nI_1]
        exact h
    have hA5 := We_34 cv fr
    dsimp only
    unfold f_X10_listenTo_34
    rw [if_neg (show ¬ (2 : Int32) ≤ nI i from nI_ge (b := 2) hi (by decide)), zr0_9, Option.bind_some, zr71_2, Option.bind_some]
    by_cases c : i = 0
    · have h := key 0 (by rw [if_pos c])
      rw [if_pos (show nI i = 0 by rw [c]; rfl)]
      exact h
    · have h := key (2 ^ A 0 - 1) (by rw [if_neg c])
      rw [if_neg (nI_ne0 (by omega) (by omega)), zr0_4, Option.bind_some, allBeats_f hA5, Option.bind_some]
      dsimp only
      exact h
  · intro k τ h
    dsimp only
    unfold f_X10_listenTo_34
    rw [if_pos (show (2 : Int32) ≤ nI 2 by decide)]
    exact ⟨τ, h, rfl⟩
theorem isNamedWith_f (cv : CV σ 34 A P X) (hx : X 0 ≤ 999) {m r t : Nat} (hma : m < A 1) (hr : r < A 2) (ht : t < 2 ^ A 0) (hY : ∃ Y, CV σ 71 A P Y ∧ ∀ a, un Y (1 + m) a = un X (1 + m) a) (hL : ∀ has beat last, has < 2 → beat < A 0 → last < 2 → LT σ A X P m r has beat last) : ∃ τ, Fr We σ τ ∧ (∃ Y, CV τ 71 A P Y ∧ ∀ a, un Y (1 + m) a = un X (1 + m) a) ∧ (∀ q k, q = 117 → τ q k = σ q k) ∧ f_X10_isNamedWith 0 (nI m) (nI t) (mk σ w u) = some (nI (if nr A P X m r t = m + 1 then 1 else 0), mk τ w u) := by
  have wa := cv.2.2.2.1
  have wx := cv.2.2.2.2.1
  have hB2 := wa.2.1
  have hM8 := wa.2.2.1
  have hS12 := wa.2.2.2.2.1
  have h2 : 2 ^ A 0 ≤ 2 ^ 12 := Nat.pow_le_pow_right (by decide) hB2
  obtain ⟨Y, cY, hY⟩ := hY
  have mv2 : Mv (s2 σ 73 m (nI t)) 71 (un X (1 + m) t) := by
    have h := Mv_t (τ := σ) (m := 71) (j := m) (a := t) cY.2.2.1 (by omega)
    rw [hY] at h
    exact h
  have fm2 : Fr (Wm 71) σ (s2 σ 73 m (nI t)) := Fr_s (by unfold Wm; omega)
  have c2 := CV_mk cY fm2 mv2 (WX_t wx (by omega) ht)
  refine ⟨s2 σ 73 m (nI t), Fr_s (by unfold We; omega), ⟨_, c2, fun a => un_un⟩, fun q k e => s2_off (by omega), ?_⟩
  obtain ⟨H, hH⟩ : ∃ H, H = hd A P (un X (1 + m) t) (rw1 A X (r + 1)) (rw1 A X r ||| rw1 A X (r + 2)) (mq A (X 0)) := ⟨_, rfl⟩
  have hHl : ∀ i, (H i).1 < 2 ^ i ∧ (H i).2 < 2 := fun i => by rw [hH]; exact hd_lt _ _ _ _ _ _ i
  have hHS : ∀ i, i < A 0 → H (i + 1) = ((H i).1 ||| hb A P (tr9 A X m (bt t i)) (rw1 A X (r + 1)) (rw1 A X r ||| rw1 A X (r + 2)) (mq A (X 0)) i (H i).2 * 2 ^ i, hb A P (tr9 A X m (bt t i)) (rw1 A X (r + 1)) (rw1 A X r ||| rw1 A X (r + 2)) (mq A (X 0)) i (H i).2) := fun i hi => by
    rw [hH, ← hb_tr hM8 (by omega) hi]
    rfl
  have enr : nr A P X m r t = (nmb A (un X (1 + m) t) (H (A 0)).1 (A 1)).1 := by
    unfold nr na he
    rw [hH, rw1_un (by omega), rw1_un (by omega), rw1_un (by omega)]
  unfold f_X10_isNamedWith
  rw [zg0]
  unfold l_X10_isNamedWith_8
  have hH0 : H 0 = (0, 0) := by rw [hH]; rfl
  rw [show ((0 : Nat), nI m, nI t, (0 : Int32), (0 : Int32), (0 : Int32), mk σ w u) = ((0 : Nat), nI m, nI t, nI (H 0).1, nI (H 0).2, nI 0, mk σ w u) from by rw [hH0]; rfl]
  refine lp_S (fun x => x = some (nI (if nr A P X m r t = m + 1 then 1 else 0), mk (s2 σ 73 m (nI t)) w u)) (fun i τ => (0, nI m, nI t, nI (H i).1, nI (H i).2, nI i, mk τ w u)) (fun i τ => τ = σ) (A 0) ?_ ?_ (A 0) 0 _ σ (by omega) (by omega) rfl
  · intro i hi k τ e hk
    subst e
    have h := hk τ rfl
    have hb1 := bt_lt t i
    have hl := (hHl i).2
    have h3 := hb_lt A P (tr9 A X m (bt t i)) (rw1 A X (r + 1)) (rw1 A X r ||| rw1 A X (r + 2)) (mq A (X 0)) i (H i).2
    have h4 : 2 ^ i < 2 ^ 12 := Nat.pow_lt_pow_right (by decide) (by omega)
    have h5 : hb A P (tr9 A X m (bt t i)) (rw1 A X (r + 1)) (rw1 A X r ||| rw1 A X (r + 2)) (mq A (X 0)) i (H i).2 * 2 ^ i ≤ 1 * 2 ^ i := Nat.mul_le_mul_right _ (by omega)
    have e7 := hL (bt t i) i (H i).2 hb1 hi hl
    unfold LT at e7
    dsimp only at h ⊢
    rw [hHS i hi] at h
    unfold f_X10_isNamedWith_8
    rw [zr0_4, Option.bind_some, zi5_0, Option.bind_some, cv.2.1.1.1, if_neg (nI_ge hi (by omega)), zr0_14, Option.bind_some, show (1 : Int32) = nI 1 from rfl, x_bit (by omega) (by omega), show (4 : Int32) * nI i = nI (4 * i) from pk_mul 4 i, show (2 : Int32) * nI (bt t i) = nI (2 * bt t i) from pk_mul 2 _, nI_add, nI_add, zt116 (by omega), Option.bind_some]
    dsimp only
    rw [e7, shl_nI (by omega) (by omega), x_or, nI_add]
    exact h
  · intro k τ e
    subst e
    dsimp only
    unfold f_X10_isNamedWith_8
    rw [zr0_4, Option.bind_some, zi5_0, Option.bind_some, cv.2.1.1.1, if_pos (nI_le (Nat.le_refl _) (by omega))]
    unfold f_X10_isNamedWith_59
    have hn := nmb_le A (un X (1 + m) t) (H (A 0)).1 hS12 (A 1)
    rw [zr0_9, Option.bind_some, zr71_2, Option.bind_some, zs72 (by omega), Option.bind_some, zr0_9, Option.bind_some, namedBy_f c2 (tw12 (hHl (A 0)).1 hB2), Option.bind_some]
    dsimp only
    unfold f_X10_isNamedWith_88
    rw [← enr]
    rw [← enr] at hn
    by_cases c : nr A P X m r t = m + 1
    · rw [if_pos c, c, nJ_S, if_pos rfl, if_pos (by decide)]
      rfl
    · rw [if_neg c, if_neg (fun e => by rw [q_Jeq (by omega) (by omega)] at e; omega), if_pos (by decide)]
      rfl
theorem cl_reform (cv : CV σ 34 A P X) (hx : X 0 ≤ 999) {m q : Nat} (hma : m < A 1) (hq : q ≤ 1) : RQ (Fr Ws σ) w u (if ro A X m = 0 then nJ 0 else rfv q (rfm A P X m (ro A X m - 1) (2 ^ A 0))) (f_X10_reform 0 (nI m) (nI q) (mk σ w u)) := by
  have hro := ro_le A X m
  have hp := Nat.two_pow_pos (A 0)
  have cv0 := cv
  have hM := CV_M cv; have hT := CV_b cv; have cv2 := cv; obtain ⟨hm, ⟨⟨hA0, hA1, hA2, hA3, hA4⟩, hA7, hrl, hrn, hrc⟩, ⟨hN, hX⟩, ⟨hB1, hB2, hM8, hR8, hS12, hnm, hmd⟩, ⟨hN2, hW, hD⟩, hP⟩ := cv2
  have h2 : 2 ^ A 0 ≤ 2 ^ 12 := Nat.pow_le_pow_right (by decide) hB2
  unfold f_X10_reform
  rw [zg0]
  rw [needMan_f cv hma, Option.bind_some]
  rw [show f_X10_needWhat (nI q) 1 (mk σ w u) = some (mk σ w u) from needWhat_f (b := 1) hq (by decide), Option.bind_some]
  rw [zr0_8, Option.bind_some, rowOf_f cv (by omega), Option.bind_some]
  dsimp only
  by_cases h0 : ro A X m = 0
  · rw [if_pos h0, h0, if_pos (show nJ 0 = -1 from rfl)]
    exact RQ_i (Fr_r _ _)
  · obtain ⟨τ1, f1, c71, c34, e1⟩ := trial_f (w := w) (u := u) cv
    obtain ⟨τ2, ⟨f2, hY2, hL2⟩, e2⟩ := listenTo_f (w := w) (u := u) c34 c71 hx hma (r := ro A X m - 1) (by omega)
    have d2 := We_34 c34 f2
    obtain ⟨V, hV⟩ : ∃ V, V = rfv q (rfm A P X m (ro A X m - 1) (2 ^ A 0)) := ⟨_, rfl⟩
    rw [if_neg h0, ← hV, nJ_pos (k := ro A X m) (by omega), if_neg (show ¬ nI (ro A X m - 1) = -1 from fun e => by have e2 : nI (ro A X m - 1) = nJ 0 := e; rw [q_eqJ (by omega) (by omega)] at e2; omega), zr0_9, Option.bind_some, zr0_8, Option.bind_some, e1, Option.bind_some, e2, Option.bind_some, zr0_8, Option.bind_some, M_t hM, Option.bind_some, M_tt hM (by omega), Option.bind_some]
    dsimp only
    rw [CV_t d2 m (by omega)]
    unfold l_X10_reform_66
    refine lp_S (RQ (Fr Ws σ) w u V) (fun i τ => (0, nI m, nI q, nI (X (1 + m)), nJ (rfm A P X m (ro A X m - 1) i).1, nI (rfm A P X m (ro A X m - 1) i).2, nI i, mk τ w u)) (fun i τ => Fr Ws σ τ ∧ CV τ 34 A P X ∧ (∃ Y, CV τ 71 A P Y ∧ ∀ a, un Y (1 + m) a = un X (1 + m) a) ∧ ∀ has beat last, has < 2 → beat < A 0 → last < 2 → LT τ A X P m (ro A X m - 1) has beat last) (2 ^ A 0) ?_ ?_ (2 ^ A 0) 0 _ τ2 (by omega) (by omega) ⟨Fr_t (Wm_s f1) (We_s f2), d2, hY2, hL2⟩
    · intro i hi k τ ⟨fr, cv1, hY1, hL1⟩ hk
      have hK := rfm_K A P X m (ro A X m - 1) i
      have h8 := pc_le (i ^^^ X (1 + m)) 12
      have h7 := xr12 (a := i) (b := X (1 + m)) (by omega) (hT m (by omega)).1
      dsimp only at hk ⊢
      unfold f_X10_reform_66 f_X10_reform_113
      rw [zr0_4, Option.bind_some, allBeats_f cv1, Option.bind_some]
      dsimp only
      rw [if_neg (nI_nlt (by omega) (by omega)), x_xor, bitCount_f, Option.bind_some]
      dsimp only
      rw [bc_nI (by omega), nI_1]
      by_cases c : (rfm A P X m (ro A X m - 1) i).2 ≤ pc (i ^^^ X (1 + m)) 12
      · have h := hk τ ⟨fr, cv1, hY1, hL1⟩
        rw [rfm_S, if_pos c] at h
        rw [if_pos (nI_le c (by omega))]
        exact h
      · obtain ⟨τ3, f3, hY3, g3, e3⟩ := isNamedWith_f (w := w) (u := u) cv1 hx hma (r := ro A X m - 1) (t := i) (by omega) hi hY1 hL1
        have h := hk τ3 ⟨Fr_t fr (We_s f3), We_34 cv1 f3, hY3, fun has beat last h3 h4 h5 => by have := hL1 has beat last h3 h4 h5; unfold LT at this ⊢; rw [g3 _ _ rfl]; exact this⟩
        rw [rfm_S, if_neg c] at h
        rw [if_neg (nI_ge (by omega) (by omega)), e3, Option.bind_some]
        dsimp only
        by_cases c2 : nr A P X m (ro A X m - 1) i = m + 1
        · rw [if_pos c2, nJ_S] at h
          rw [if_pos c2, if_neg (by decide)]
          exact h
        · rw [if_neg c2] at h
          rw [if_neg c2, if_pos (by decide)]
          exact h
    · intro k τ ⟨fr, cv1, _, _⟩
      have hK := rfm_K A P X m (ro A X m - 1) (2 ^ A 0)
      dsimp only
      unfold f_X10_reform_66
      rw [zr0_4, Option.bind_some, allBeats_f cv1, Option.bind_some]
      dsimp only
      rw [if_pos (nI_lt (by omega) (by omega))]
      unfold f_X10_reform_119 f_X10_reform_134 f_X10_reform_136
      unfold rfv at hV
      by_cases c : (rfm A P X m (ro A X m - 1) (2 ^ A 0)).1 = 0
      · rw [if_pos c] at hV
        rw [c, if_pos (show nJ 0 = -1 from rfl), hV]
        rw [show (if nI q = 0 then some (nJ 0, mk τ w u) else some (nJ 0, mk τ w u)) = some (nJ 0, mk τ w u) by split <;> rfl]
        exact RQ_i fr
      · rw [if_neg c] at hV
        rw [if_neg (show ¬ nJ (rfm A P X m (ro A X m - 1) (2 ^ A 0)).1 = -1 from fun e => by have e2 : nJ (rfm A P X m (ro A X m - 1) (2 ^ A 0)).1 = nJ 0 := e; rw [q_JJ (by omega) (by omega)] at e2; exact c e2)]
        by_cases c2 : q = 0
        · rw [if_pos c2] at hV
          rw [c2, if_pos (show nI 0 = 0 from rfl), hV]
          exact RQ_i fr
        · rw [if_neg c2] at hV
          rw [if_neg (nI_ne0 (by omega) (by omega)), hV, nJ_pos (by omega)]
          exact RQ_i fr
end OI
