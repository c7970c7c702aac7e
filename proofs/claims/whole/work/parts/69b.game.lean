/-! L3: game -/
def YL (X : Nat → Nat) (m o x y : Nat) : Nat → Nat := if y = 1 then un (if x = 1 then un X (9 + m) 9 else X) (9 + o) 9 else (if x = 1 then un X (9 + m) 9 else X)
theorem un_cm {X : Nat → Nat} {j k a b : Nat} (h : j ≠ k) : un (un X j a) k b = un (un X k b) j a := by
  funext i
  unfold un
  by_cases h1 : i = k
  · rw [if_pos h1, if_neg (by omega), if_pos h1]
  · rw [if_neg h1]
    by_cases h2 : i = j
    · rw [if_pos h2, if_pos h2]
    · rw [if_neg h2, if_neg h2, if_neg h1]
theorem YL_s {X : Nat → Nat} {m o x y : Nat} (h : m ≠ o) : YL X o m y x = YL X m o x y := by
  unfold YL
  by_cases h1 : x = 1
  · by_cases h2 : y = 1
    · simp only [if_pos h1, if_pos h2]
      exact un_cm (by omega)
    · simp only [if_pos h1, if_neg h2]
  · by_cases h2 : y = 1
    · simp only [if_neg h1, if_pos h2]
    · simp only [if_neg h1, if_neg h2]
theorem YL_k {X : Nat → Nat} {m o x y k : Nat} (h1 : k ≠ 9 + m) (h2 : k ≠ 9 + o) : YL X m o x y k = X k := by
  unfold YL
  split
  · rw [un_off h2]
    split
    · rw [un_off h1]
    · rfl
  · split
    · rw [un_off h1]
    · rfl
theorem YL_W {A X : Nat → Nat} {m o x y : Nat} (wx : WX A X) (hm : m < 8) (ho : o < 8) : WX A (YL X m o x y) := by
  unfold YL
  have h : WX A (if x = 1 then un X (9 + m) 9 else X) := by
    split
    · exact WX_l wx hm (by omega)
    · exact wx
  split
  · exact WX_l h ho (by omega)
  · exact h
def lo6 (A : Nat → Nat) (P : List (Nat × Nat)) (Y : Nat → Nat) (o : Nat) : Nat → Nat := it (fun i v => v + bt (nbt A P (rt A i Y) (wfn A Y i) (A 2)) o) 0
theorem lo6_S (A : Nat → Nat) (P : List (Nat × Nat)) (Y : Nat → Nat) (o i : Nat) : lo6 A P Y o (i + 1) = lo6 A P Y o i + bt (nbt A P (rt A i Y) (wfn A Y i) (A 2)) o := rfl
def gv (A : Nat → Nat) (P : List (Nat × Nat)) (Y : Nat → Nat) (m o : Nat) : Int32 := (nI (min 99 (hs A P Y m 6)) - nI (Y (17 + m))) - nI (lo6 A P Y o 6)
theorem i32_a (a b c d : Int32) : ((0 - d) - c) + a - b = a - b - c - d := by
  apply Int32.toBitVec_inj.mp
  simp only [Int32.toBitVec_sub, Int32.toBitVec_add]
  simp only [BitVec.sub_eq_add_neg]
  have e : (0 : Int32).toBitVec = 0#32 := rfl
  rw [e, BitVec.zero_add]
  ac_rfl
theorem i32_b (a b c : Int32) : a - b - c = a - (b + c) := by
  apply Int32.toBitVec_inj.mp
  simp only [Int32.toBitVec_sub, Int32.toBitVec_add]
  rw [BitVec.sub_sub]
section OJ
variable {σ : Nat → Nat → Int32} {w u : Int64} {A X Y Z : Nat → Nat} {P : List (Nat × Nat)} {b om : Nat}
theorem gainOf_f (ct : CV σ 71 A P Y) (hy : Y 0 ≤ 999) {m o : Nat} (hma : m < A 1) (hoa : o < A 1) : RQ (Fr Wc σ) w u (gv A P Y m o) (f_X10_gainOf 0 (nI m) (nI o) (mk σ w u)) := by
  have wa := ct.2.2.2.1
  have hM8 := wa.2.2.1
  have hR8 := wa.2.2.2.1
  have hS12 := wa.2.2.2.2.1
  have hT := CV_b ct m (by omega)
  have e0 := CV_o ct m (by omega)
  have hA2 : ∀ τ, Fr Wc σ τ → τ 5 2 = nI (A 2) := fun τ fr => (CV_fr ct fr).2.1.1.2.2.1
  unfold f_X10_gainOf
  rw [zg0, zr0_9, Option.bind_some, M_o isM_71, Option.bind_some, M_to isM_71 (by omega), Option.bind_some]
  dsimp only
  rw [e0]
  unfold l_X10_gainOf_21
  refine lp_S (RQ (Fr Wc σ) w u (gv A P Y m o)) (fun i τ => (0, nI m, nI o, nI (Y (17 + m)), nI (hs A P Y m i), nI (lo6 A P Y o i), nI i, mk τ w u)) (fun i τ => Fr Wc σ τ) 6 ?_ ?_ 6 0 _ σ (by omega) (by omega) (Fr_r _ _)
  · intro i hi k τ fr hk
    have c1 := CV_fr ct fr
    dsimp only at hk ⊢
    unfold f_X10_gainOf_21
    rw [if_neg (show ¬ (6 : Int32) ≤ nI i from nI_ge (b := 6) hi (by decide)), zr0_9, Option.bind_some, mudIn_f c1 (by omega), Option.bind_some]
    dsimp only
    unfold l_X10_gainOf_45
    have hz : ∀ (v : Nat) (h : v = 0), (if v = 0 then 0 else 1) = 0 := fun v h => if_pos h
    refine lp_S (RQ (Fr Wc σ) w u (gv A P Y m o)) (fun j τ => (0, nI m, nI o, nI (Y (17 + m)), nI (hs A P Y m i + tn A P (rt A i Y) (m + 1) (mq A (Y 0 + i)) j), nI (lo6 A P Y o i), nI i, nI (mq A (Y 0 + i)), nI (if tn A P (rt A i Y) (o + 1) (mq A (Y 0 + i)) j = 0 then 0 else 1), nI j, mk τ w u)) (fun j τ => Fr Wc σ τ) (A 2) ?_ ?_ (A 2) 0 _ τ (by omega) (by omega) fr
    · intro j hj k2 τ2 fr2 hk2
      have c2 := CV_fr ct fr2
      obtain ⟨τ3, f3, e3⟩ := namedAt_f (w := w) (u := u) c2 (p := j) (n := i) (mud := mq A (Y 0 + i)) (by omega) (by omega) (by have := mq_lt wa (Y 0 + i); omega)
      have hn := na_le A P (rt A i Y) j (mq A (Y 0 + i)) hS12
      have h := hk2 τ3 (Fr_t fr2 f3)
      dsimp only at h ⊢
      rw [tn_S, tn_S] at h
      unfold f_X10_gainOf_45
      rw [zr0_4, Option.bind_some, zi5_2, Option.bind_some, hA2 τ2 fr2, if_neg (nI_ge hj (by omega)), zr0_9, Option.bind_some, e3, Option.bind_some]
      dsimp only
      unfold f_X10_gainOf_85 f_X10_gainOf_100
      by_cases c3 : na A P (rt A i Y) j (mq A (Y 0 + i)) = m + 1
      · rw [if_pos c3, ← Nat.add_assoc] at h
        rw [c3, nJ_S, if_pos rfl]
        by_cases c4 : m = o
        · rw [if_pos (show na A P (rt A i Y) j (mq A (Y 0 + i)) = o + 1 by omega), if_neg (by omega)] at h
          rw [c4, if_pos rfl, nI_1, nI_1]
          rw [c4] at h
          exact h
        · rw [if_neg (show ¬ na A P (rt A i Y) j (mq A (Y 0 + i)) = o + 1 by omega), Nat.add_zero] at h
          rw [if_neg (fun e => c4 ((nI_eq (by omega) (by omega)).mp e)), nI_1, nI_1]
          exact h
      · rw [if_neg c3, Nat.add_zero] at h
        rw [if_neg (fun e => by rw [q_Jeq (by omega) (by omega)] at e; omega), show (0 : Int32) = nI 0 from rfl, nI_add, Nat.add_zero, nI_1]
        by_cases c4 : na A P (rt A i Y) j (mq A (Y 0 + i)) = o + 1
        · rw [if_pos c4, if_neg (by omega)] at h
          rw [c4, nJ_S, if_pos rfl]
          exact h
        · rw [if_neg c4, Nat.add_zero] at h
          rw [if_neg (fun e => by rw [q_Jeq (by omega) (by omega)] at e; omega)]
          exact h
    · intro k2 τ2 fr2
      have h := hk τ2 fr2
      have hb := nbt_tn (A := A) (P := P) (Z := rt A i Y) (w := mq A (Y 0 + i)) (A 2) o
      have hbl := bt_lt (nbt A P (rt A i Y) (mq A (Y 0 + i)) (A 2)) o
      have e5 : (if tn A P (rt A i Y) (o + 1) (mq A (Y 0 + i)) (A 2) = 0 then 0 else 1) = bt (nbt A P (rt A i Y) (mq A (Y 0 + i)) (A 2)) o := by
        by_cases c : tn A P (rt A i Y) (o + 1) (mq A (Y 0 + i)) (A 2) = 0
        · rw [if_pos c]
          by_cases c2 : bt (nbt A P (rt A i Y) (mq A (Y 0 + i)) (A 2)) o = 1
          · exact absurd c (hb.mp c2)
          · omega
        · rw [if_neg c, hb.mpr c]
      dsimp only at h ⊢
      rw [hs_S, lo6_S] at h
      unfold f_X10_gainOf_45 f_X10_gainOf_108
      rw [zr0_4, Option.bind_some, zi5_2, Option.bind_some, hA2 τ2 fr2, if_pos (nI_le (Nat.le_refl _) (by omega)), e5, nI_add, nI_1]
      exact h
  · intro k τ fr
    have h1 := hs_le A P Y m 6
    have h3 : A 2 * 6 ≤ 8 * 6 := Nat.mul_le_mul_right 6 hR8
    dsimp only
    unfold f_X10_gainOf_21
    rw [if_pos (by decide)]
    unfold f_X10_gainOf_121
    rw [show hp_min 99 (nI (hs A P Y m 6)) = nI (min 99 (hs A P Y m 6)) from hp_min_nI (a := 99) (by decide) (by omega)]
    exact RQ_i fr
/-- both gains of a couple of choices -/
def G1 (A : Nat → Nat) (P : List (Nat × Nat)) (X : Nat → Nat) (m o c : Nat) : Int32 := gv A P (YL X m o (c / 2) (c % 2)) m o - nI (c / 2)
def G2 (A : Nat → Nat) (P : List (Nat × Nat)) (X : Nat → Nat) (m o c : Nat) : Int32 := gv A P (YL X m o (c / 2) (c % 2)) o m - nI (c % 2)
def Wg (q k : Nat) : Prop := q = 115 ∨ Wm 71 q k
theorem Wg_s {τ : Nat → Nat → Int32} (h : Fr Wg σ τ) : Fr Ws σ τ := Fr_m h (fun q k e => by unfold Ws; unfold Wg Wm at e; omega)
theorem i_half : ∀ c, c < 4 → nI c >>> (1 &&& 31) = nI (c / 2) ∧ nI c &&& 1 = nI (c % 2) := by decide
theorem stamp_f (cv : CV σ 34 A P X) (hx : X 0 ≤ 999) {m o c : Nat} (hma : m < A 1) (hoa : o < A 1) (hc : c < 4) : RN (fun τ => Fr Wg σ τ ∧ CV τ 34 A P X ∧ τ 115 (2 * c) = G1 A P X m o c ∧ τ 115 (2 * c + 1) = G2 A P X m o c ∧ ∀ k, k ≠ 2 * c → k ≠ 2 * c + 1 → τ 115 k = σ 115 k) w u (f_X10_stamp 0 (nI m) (nI o) (nI c) (mk σ w u)) := by
  have wa := cv.2.2.2.1
  have wx := cv.2.2.2.2.1
  have hM8 := wa.2.2.1
  obtain ⟨e1, e2⟩ := i_half c hc
  obtain ⟨τ1, f1, c71, c34, e3⟩ := trial_f (w := w) (u := u) cv
  have key : ∀ τ, Fr (Wm 71) σ τ → CV τ 71 A P (YL X m o (c / 2) (c % 2)) → RN (fun τ => Fr Wg σ τ ∧ CV τ 34 A P X ∧ τ 115 (2 * c) = G1 A P X m o c ∧ τ 115 (2 * c + 1) = G2 A P X m o c ∧ ∀ k, k ≠ 2 * c → k ≠ 2 * c + 1 → τ 115 k = σ 115 k) w u (f_X10_stamp_59 0 (nI m) (nI o) (nI c) (nI (c / 2)) (nI (c % 2)) (mk τ w u)) := fun τ fr ct => by
    have y0 : YL X m o (c / 2) (c % 2) 0 = X 0 := YL_k (by omega) (by omega)
    obtain ⟨τ2, f2, g2⟩ := gainOf_f (w := w) (u := u) ct (by omega) hma hoa
    have ct2 := CV_fr ct f2
    have f3 : Fr (fun q _ => q = 115) τ2 (s2 τ2 115 (2 * c) (G1 A P X m o c)) := Fr_s rfl
    have ct3 := CV_F ct2 f3 (fun q k e => by omega)
    obtain ⟨τ4, f4, g4⟩ := gainOf_f (w := w) (u := u) ct3 (by omega) hoa hma
    refine ⟨s2 τ4 115 (2 * c + 1) (G2 A P X m o c), ⟨?_, ?_, ?_, by rw [s2_at rfl rfl], ?_⟩, ?_⟩
    · exact Fr_t (Fr_m fr (fun q k e => Or.inr e)) (Fr_t (Fr_m (Wc_m f2) (fun q k e => Or.inr e)) (Fr_t (Fr_m f3 (fun q k e => Or.inl e)) (Fr_t (Fr_m (Wc_m f4) (fun q k e => Or.inr e)) (Fr_s (Or.inl rfl)))))
    · exact CV_F (CV_fr (CV_F (CV_fr (CV_o2 cv (Or.inr rfl) (by omega) fr) f2) f3 (fun q k e => by omega)) f4) (Fr_s (W := fun q _ => q = 115) rfl) (fun q k e => by omega)
    · rw [s2_off (by omega), f4 115 _ (by unfold Wc; omega), s2_at rfl rfl]
    · intro k h1 h2
      rw [s2_off (by omega), f4 115 _ (by unfold Wc; omega), s2_off (by omega), f2 115 _ (by unfold Wc; omega), fr 115 _ (by unfold Wm; omega)]
    · unfold f_X10_stamp_59
      rw [zr0_13, Option.bind_some, g2, Option.bind_some]
      dsimp only
      rw [show (2 : Int32) * nI c = nI (2 * c) from pk_mul 2 c, show gv A P (YL X m o (c / 2) (c % 2)) m o - nI (c / 2) = G1 A P X m o c from rfl, zs114 (by omega), Option.bind_some, zr0_13, Option.bind_some, g4, Option.bind_some]
      dsimp only
      rw [nI_1, show gv A P (YL X m o (c / 2) (c % 2)) o m - nI (c % 2) = G2 A P X m o c from rfl, zs114 (by omega), Option.bind_some]
  have key2 : ∀ τ, Fr (Wm 71) σ τ → CV τ 71 A P (if c / 2 = 1 then un X (9 + m) 9 else X) → RN (fun τ => Fr Wg σ τ ∧ CV τ 34 A P X ∧ τ 115 (2 * c) = G1 A P X m o c ∧ τ 115 (2 * c + 1) = G2 A P X m o c ∧ ∀ k, k ≠ 2 * c → k ≠ 2 * c + 1 → τ 115 k = σ 115 k) w u (f_X10_stamp_40 0 (nI m) (nI o) (nI c) (nI (c / 2)) (nI (c % 2)) (mk τ w u)) := fun τ fr ct => by
    unfold f_X10_stamp_40
    by_cases h : c % 2 = 1
    · obtain ⟨τ2, ⟨f2, m2⟩, g2⟩ := setLoud_f (w := w) (u := u) ct (man := o) (a := 9) (by omega)
      have ey : YL X m o (c / 2) (c % 2) = un (if c / 2 = 1 then un X (9 + m) 9 else X) (9 + o) 9 := by unfold YL; rw [if_pos h]
      rw [h, if_pos (show nI 1 = 1 from rfl), zr0_9, Option.bind_some, M_l isM_71, Option.bind_some, show f_X2_set (71 + 3) (nI o) 9 (mk τ w u) = some (mk τ2 w u) from g2, Option.bind_some]
      have hk := key τ2 (Fr_t fr f2) (by rw [ey]; exact CV_mk ct f2 m2 (by rw [← ey]; exact YL_W wx (by omega) (by omega)))
      rw [h] at hk
      exact hk
    · have ey : YL X m o (c / 2) (c % 2) = (if c / 2 = 1 then un X (9 + m) 9 else X) := by unfold YL; rw [if_neg h]
      rw [if_neg (show ¬ nI (c % 2) = 1 from fun e => h ((nI_eq (a := c % 2) (b := 1) (by omega) (by decide)).mp e))]
      exact key τ fr (by rw [ey]; exact ct)
  unfold f_X10_stamp
  rw [zg0, zr0_9, Option.bind_some, zr0_8, Option.bind_some, e3, Option.bind_some, e1, e2]
  by_cases h : c / 2 = 1
  · obtain ⟨τ2, ⟨f2, m2⟩, g2⟩ := setLoud_f (w := w) (u := u) c71 (man := m) (a := 9) (by omega)
    have hk := key2 τ2 (Fr_t f1 f2) (by rw [if_pos h]; exact CV_mk c71 f2 m2 (WX_l wx (by omega) (by omega)))
    rw [h] at hk
    rw [h, if_pos (show nI 1 = 1 from rfl), zr0_9, Option.bind_some, M_l isM_71, Option.bind_some, show f_X2_set (71 + 3) (nI m) 9 (mk τ1 w u) = some (mk τ2 w u) from g2, Option.bind_some]
    exact hk
  · rw [if_neg (show ¬ nI (c / 2) = 1 from fun e => h ((nI_eq (a := c / 2) (b := 1) (by omega) (by decide)).mp e))]
    exact key2 τ1 f1 (by rw [if_neg h]; exact c71)
def cx (c : Nat) : Nat := if c < 2 then c + 2 else c - 2
def cy (c : Nat) : Nat := if c % 2 = 0 then c + 1 else c - 1
def Rst (A : Nat → Nat) (P : List (Nat × Nat)) (X : Nat → Nat) (m o : Nat) : Nat → Bool := fun c => decide (¬ G1 A P X m o c < G1 A P X m o (cx c)) && decide (¬ G2 A P X m o c < G2 A P X m o (cy c))
def rdn (R : Nat → Bool) : Nat → Nat × Nat := it (fun i s => if R (3 - i) = true then (s.1 + 1, 10 * ((3 - i) / 2) + (3 - i) % 2 + 1) else s) (0, 0)
def rup (R : Nat → Bool) : Nat → Nat × Nat := it (fun c s => if R c = true then (s.1 + 1, if s.2 = 0 then 10 * (c / 2) + c % 2 + 1 else s.2) else s) (0, 0)
theorem rdn_up (R : Nat → Bool) : rdn R 4 = rup R 4 := by
  unfold rdn rup it it it it it
  dsimp only
  cases R 0 <;> cases R 1 <;> cases R 2 <;> cases R 3 <;> rfl
theorem c_xor : ∀ c, c < 4 → nI c ^^^ 2 = nI (cx c) ∧ nI c ^^^ 1 = nI (cy c) ∧ cx c < 4 ∧ cy c < 4 := by decide
theorem doesRest_f {m o c : Nat} (hc : c < 4) (hG : ∀ d, d < 4 → σ 115 (2 * d) = G1 A P X m o d ∧ σ 115 (2 * d + 1) = G2 A P X m o d) : f_X10_doesRest 0 (nI c) (mk σ w u) = some (nI (if Rst A P X m o c = true then 1 else 0), mk σ w u) := by
  obtain ⟨e1, e2, h1, h2⟩ := c_xor c hc
  unfold f_X10_doesRest
  rw [zg0, zr0_13, Option.bind_some, show (2 : Int32) * nI c = nI (2 * c) from pk_mul 2 c, zt114 (by omega), Option.bind_some]
  dsimp only
  rw [zr0_13, Option.bind_some, e1, show (2 : Int32) * nI (cx c) = nI (2 * cx c) from pk_mul 2 _, zt114 (by omega), Option.bind_some]
  dsimp only
  rw [(hG c hc).1, (hG _ h1).1]
  unfold Rst
  by_cases g1 : G1 A P X m o c < G1 A P X m o (cx c)
  · rw [if_pos g1]
    unfold f_X10_doesRest_58 f_X10_doesRest_59
    rw [if_pos (by decide), if_neg (by simp [g1])]
    rfl
  · rw [if_neg g1, zr0_13, Option.bind_some, nI_1, zt114 (by omega), Option.bind_some]
    dsimp only
    rw [zr0_13, Option.bind_some, e2, show (2 : Int32) * nI (cy c) = nI (2 * cy c) from pk_mul 2 _, nI_1, zt114 (by omega), Option.bind_some]
    dsimp only
    rw [(hG c hc).2, (hG _ h2).2]
    by_cases g2 : G2 A P X m o c < G2 A P X m o (cy c)
    · rw [if_pos g2]
      unfold f_X10_doesRest_58 f_X10_doesRest_59
      rw [if_pos (by decide), if_neg (by simp [g1, g2])]
      rfl
    · rw [if_neg g2]
      unfold f_X10_doesRest_59
      rw [if_pos (by decide), if_pos (by simp [g1, g2])]
      rfl
def gmv (q : Nat) (s : Nat × Nat) : Int32 := if q = 0 then nI s.1 else nJ s.2
theorem rdn_S (R : Nat → Bool) (i : Nat) : rdn R (i + 1) = if R (3 - i) = true then ((rdn R i).1 + 1, 10 * ((3 - i) / 2) + (3 - i) % 2 + 1) else rdn R i := rfl
theorem rup_S (R : Nat → Bool) (c : Nat) : rup R (c + 1) = if R c = true then ((rup R c).1 + 1, if (rup R c).2 = 0 then 10 * (c / 2) + c % 2 + 1 else (rup R c).2) else rup R c := rfl
theorem rup_le (R : Nat → Bool) : ∀ n, n ≤ 4 → (rup R n).2 ≤ 100 := by
  intro n
  induction n with
  | zero => intro _; exact Nat.zero_le _
  | succ n ih =>
    intro hn
    have h := ih (by omega)
    rw [rup_S]
    split
    · dsimp only
      split
      · omega
      · exact h
    · exact h
theorem cl_game (cv : CV σ 34 A P X) (hx : X 0 ≤ 999) {m o q : Nat} (hma : m < A 1) (hoa : o < A 1) (hq : q ≤ 1) (hmo : m ≠ o) (h1 : ro A X m ≠ 0) (h2 : ro A X o ≠ 0) : RQ (Fr Ws σ) w u (gmv q (rdn (Rst A P X m o) 4)) (f_X10_game 0 (nI m) (nI o) (nI q) (mk σ w u)) := by
  have hr1 := ro_le A X m
  have hr2 := ro_le A X o
  have hM8 := cv.2.2.2.1.2.2.1
  have hR8 := cv.2.2.2.1.2.2.2.1
  unfold f_X10_game
  rw [zg0]
  rw [needMan_f cv hma, Option.bind_some]
  rw [needMan_f cv hoa, Option.bind_some]
  rw [show f_X10_needWhat (nI q) 1 (mk σ w u) = some (mk σ w u) from needWhat_f (b := 1) hq (by decide), Option.bind_some]
  rw [if_neg (fun e => hmo ((nI_eq (by omega) (by omega)).mp e)), zr0_8, Option.bind_some, rowOf_f cv (by omega), Option.bind_some]
  dsimp only
  rw [nJ_pos (k := ro A X m) (by omega), if_neg (show ¬ nI (ro A X m - 1) = -1 from fun e => by have e2 : nI (ro A X m - 1) = nJ 0 := e; rw [q_eqJ (by omega) (by omega)] at e2; omega), zr0_8, Option.bind_some, rowOf_f cv (by omega), Option.bind_some]
  dsimp only
  rw [nJ_pos (k := ro A X o) (by omega), if_neg (show ¬ nI (ro A X o - 1) = -1 from fun e => by have e2 : nI (ro A X o - 1) = nJ 0 := e; rw [q_eqJ (by omega) (by omega)] at e2; omega)]
  unfold l_X10_game_58
  refine lp_S (RQ (Fr Ws σ) w u (gmv q (rdn (Rst A P X m o) 4))) (fun i τ => (0, nI m, nI o, nI q, nI i, mk τ w u)) (fun i τ => Fr Ws σ τ ∧ CV τ 34 A P X ∧ ∀ d, d < i → τ 115 (2 * d) = G1 A P X m o d ∧ τ 115 (2 * d + 1) = G2 A P X m o d) 4 ?_ ?_ 4 0 _ σ (by omega) (by omega) ⟨Fr_r _ _, cv, fun d hd => by omega⟩
  · intro i hi k τ ⟨fr, cv1, hG⟩ hk
    obtain ⟨τ2, ⟨f2, c2, g1, g2, g3⟩, e2⟩ := stamp_f (w := w) (u := u) cv1 hx hma hoa hi
    have h := hk τ2 ⟨Fr_t fr (Wg_s f2), c2, fun d hd => by
      by_cases e : d = i
      · rw [e]; exact ⟨g1, g2⟩
      · rw [g3 _ (by omega) (by omega), g3 _ (by omega) (by omega)]; exact hG d (by omega)⟩
    dsimp only at h ⊢
    unfold f_X10_game_58
    rw [if_neg (show ¬ (4 : Int32) ≤ nI i from nI_ge (b := 4) hi (by decide)), e2, Option.bind_some, nI_1]
    exact h
  · intro k τ ⟨fr, cv1, hG⟩
    dsimp only
    unfold f_X10_game_58
    rw [if_pos (by decide)]
    unfold f_X10_game_78 l_X10_game_87
    obtain ⟨V, hV⟩ : ∃ V, V = gmv q (rdn (Rst A P X m o) 4) := ⟨_, rfl⟩
    rw [← hV, show (3 : Int32) = nJ (4 - 0) from by decide]
    refine lp_S (RQ (Fr Ws σ) w u V) (fun i τ => (0, nI q, nI (rdn (Rst A P X m o) i).1, nJ (rdn (Rst A P X m o) i).2, nJ (4 - i), mk τ w u)) (fun i τ' => τ' = τ) 4 ?_ ?_ 4 0 _ τ (by omega) (by omega) rfl
    · intro i hi k2 τ2 e hk2
      subst e
      obtain ⟨e1, e2⟩ := i_half (3 - i) (by omega)
      have h := hk2 τ2 rfl
      dsimp only at h ⊢
      rw [rdn_S] at h
      have e3 : nJ (4 - i) = nI (3 - i) := by rw [nJ_pos (by omega), show 4 - i - 1 = 3 - i by omega]
      have e4 : nI (3 - i) + (-1) = nJ (4 - (i + 1)) := by rw [show 4 - (i + 1) = 3 - i by omega]; exact x_m1 _
      unfold f_X10_game_87 f_X10_game_118
      rw [e3, if_neg (nI_pos (by omega)), doesRest_f (by omega) hG, Option.bind_some]
      dsimp only
      rw [e4, e1, e2]
      by_cases c : Rst A P X m o (3 - i) = true
      · rw [if_pos c, nJ_S] at h
        rw [if_pos c, if_neg (by decide), nI_1, show (10 : Int32) * nI ((3 - i) / 2) = nI (10 * ((3 - i) / 2)) from pk_mul 10 _, nI_add]
        exact h
      · rw [if_neg c] at h
        rw [if_neg c, if_pos (by decide)]
        exact h
    · intro k2 τ2 e
      subst e
      dsimp only
      unfold f_X10_game_87
      rw [if_pos (by decide)]
      rw [hV]
      unfold f_X10_game_124 f_X10_game_135 gmv
      by_cases c : q = 0
      · rw [c, if_pos (show nI 0 = 0 from rfl), if_pos rfl]
        exact RQ_i fr
      · rw [if_neg (nI_ne0 (by omega) (by omega)), if_neg c]
        exact RQ_i fr
theorem gains_R (rv : RV σ 0 A P X 0) (hx : X 0 ≤ 999) {m o x y : Nat} (hma : m < A 1) (hoa : o < A 1) (hxl : x < 2) (hyl : y < 2) : RQ (fun τ => Fr Wq σ τ ∧ RV τ 0 A P X 0) w u (gv A P (YL X m o x y) m o - nI x) (f_X11_gains 118 (nI m) (nI o) (nI x) (nI y) (mk σ w u)) := by
  have wa := rv.2.2.2.2.1
  have wx := rv.2.2.2.2.2.1
  have hM8 := wa.2.2.1
  have hS12 := wa.2.2.2.2.1
  have hT := RV_b rv m (by omega)
  obtain ⟨Y, hY⟩ : ∃ Y, Y = YL X m o x y := ⟨_, rfl⟩
  have y0 : Y 0 = X 0 := by rw [hY]; exact YL_k (by omega) (by omega)
  have y17 : Y (17 + m) = X (17 + m) := by rw [hY]; exact YL_k (by omega) (by omega)
  have wY : WX A Y := by rw [hY]; exact YL_W wx (by omega) (by omega)
  rw [← hY]
  have key : ∀ τ, Fr Wq σ τ → RV τ 0 A P X 0 → RV τ 33 A P Y 0 → RQ (fun τ => Fr Wq σ τ ∧ RV τ 0 A P X 0) w u (gv A P Y m o - nI x) (f_X11_gains_37 118 (nI m) (nI o) (nI x) (mk τ w u)) := fun τ fr r0 r33 => by
    unfold f_X11_gains_37 l_X11_gains_45
    rw [show (0 : Int32) - nI x = (0 - nI x) - nI (lo6 A P Y o 0) from (Int32.sub_zero _).symm]
    refine lp_S (RQ (fun τ => Fr Wq σ τ ∧ RV τ 0 A P X 0) w u (gv A P Y m o - nI x)) (fun i τ => (118, nI m, nI o, (0 - nI x) - nI (lo6 A P Y o i), nI i, mk τ w u)) (fun i τ => Fr Wq σ τ ∧ RV τ 0 A P X 0 ∧ RV τ 33 A P (ny A P (wfn A Y) Y i) 0) 6 ?_ ?_ 6 0 _ τ (by omega) (by omega) ⟨fr, r0, r33⟩
    · intro i hi k τ2 ⟨fr2, q0, q33⟩ hk
      obtain ⟨τ3, f3, r3, m3, -, -, e3⟩ := nightI (w := w) (u := u) i q33 (by omega) (by omega)
      rw [nbt_c hM8 (ny_q i)] at m3
      have hnl := tw8 (nbt_lt (A := A) (P := P) (Z := rt A i Y) (w := wfn A Y i) (n := A 2) hS12) hM8
      have h := hk τ3 ⟨Fr_t fr2 (Wn_q f3), RV_o2 q0 f3, r3⟩
      dsimp only at h ⊢
      rw [lo6_S, ← nI_add, ← i32_b] at h
      unfold f_X11_gains_45
      rw [if_neg (show ¬ (6 : Int32) ≤ nI i from nI_ge (b := 6) hi (by decide)), e3, Option.bind_some, zi118_42, Option.bind_some, m3, show (1 : Int32) = nI 1 from rfl, x_bit (by omega) (by omega), nI_add]
      exact h
    · intro k τ2 ⟨fr2, q0, q33⟩
      have e4 := RV_3o q33 m (by omega)
      rw [ny_h hM8 (by omega) (by omega)] at e4
      have e5 := RV_0o q0 m (by omega)
      dsimp only
      unfold f_X11_gains_45
      rw [if_pos (by decide)]
      unfold f_X11_gains_77
      rw [zr118_36, Option.bind_some, show (50 : Int32) + nI m = nI (50 + m) from nI_add 50 m, za128 (by omega), Option.bind_some, e4, Option.bind_some, show (17 : Int32) + nI m = nI (17 + m) from nI_add 17 m, za128 (by omega), Option.bind_some, e5, i32_a]
      have e6 : nI (min 99 (hsw A P Y (wfn A Y) m 6)) - nI (X (17 + m)) - nI (lo6 A P Y o 6) - nI x = gv A P Y m o - nI x := by
        unfold gv
        rw [y17]
        rfl
      rw [e6]
      exact RQ_i ⟨fr2, q0⟩
  have key2 : ∀ τ, Fr Wq σ τ → RV τ 0 A P X 0 → RV τ 33 A P (if x = 1 then un X (9 + m) 9 else X) 0 → RQ (fun τ => Fr Wq σ τ ∧ RV τ 0 A P X 0) w u (gv A P Y m o - nI x) (f_X11_gains_20 118 (nI m) (nI o) (nI x) (nI y) (mk τ w u)) := fun τ fr r0 r33 => by
    unfold f_X11_gains_20
    by_cases h : y = 1
    · have ey : Y = un (if x = 1 then un X (9 + m) 9 else X) (9 + o) 9 := by rw [hY]; unfold YL; rw [if_pos h]
      have rr2 : Rr (s2 τ 128 (42 + o) (nI 9)) 33 Y := by rw [ey]; exact Rr_s r33.2.2.1 (k := 9 + o) (by omega)
      have f2 : Fr (Wb 33) τ (s2 τ 128 (42 + o) (nI 9)) := Fr_s (by unfold Wb; omega)
      rw [h, if_pos (show nI 1 = 1 from rfl), zr118_36, Option.bind_some, show (42 : Int32) + nI o = nI (42 + o) from nI_add 42 o, show (9 : Int32) = nI 9 from rfl, zb128 (by omega), Option.bind_some]
      exact key _ (Fr_t fr (Wb_q f2)) (RV_o2 r0 (Wb_n f2)) (RV_mk r33 (Wb_n f2) rr2 wY)
    · have ey : Y = (if x = 1 then un X (9 + m) 9 else X) := by rw [hY]; unfold YL; rw [if_neg h]
      rw [if_neg (show ¬ nI y = 1 from fun e => h ((nI_eq (a := y) (b := 1) (by omega) (by decide)).mp e))]
      exact key τ fr r0 (by rw [ey]; exact r33)
  obtain ⟨τ1, f1, r33, r0, e1⟩ := tries_V (w := w) (u := u) rv
  unfold f_X11_gains
  rw [zg118, e1, Option.bind_some]
  by_cases h : x = 1
  · have rr2 : Rr (s2 τ1 128 (42 + m) (nI 9)) 33 (un X (9 + m) 9) := Rr_s r33.2.2.1 (k := 9 + m) (by omega)
    have f2 : Fr (Wb 33) τ1 (s2 τ1 128 (42 + m) (nI 9)) := Fr_s (by unfold Wb; omega)
    have hk := key2 _ (Fr_t (Wb_q f1) (Wb_q f2)) (RV_o2 r0 (Wb_n f2)) (by rw [if_pos h]; exact RV_mk r33 (Wb_n f2) rr2 (WX_l wx (by omega) (by omega)))
    rw [if_pos (show nI x = 1 by rw [h]; rfl), zr118_36, Option.bind_some, show (42 : Int32) + nI m = nI (42 + m) from nI_add 42 m, show (9 : Int32) = nI 9 from rfl, zb128 (by omega), Option.bind_some]
    exact hk
  · rw [if_neg (show ¬ nI x = 1 from fun e => h ((nI_eq (a := x) (b := 1) (by omega) (by decide)).mp e))]
    exact key2 τ1 (Wb_q f1) r0 (by rw [if_neg h]; exact r33)
theorem re_game (rv : RV σ 0 A P X 0) (hx : X 0 ≤ 999) {m o q : Nat} (hma : m < A 1) (hoa : o < A 1) (hq : q ≤ 1) (hmo : m ≠ o) (h1 : ro A X m ≠ 0) (h2 : ro A X o ≠ 0) : RQ (fun τ => Fr Wq (s2 σ 118 0 0) τ) w u (gmv q (rdn (Rst A P X m o) 4)) (f_X11_game 118 (nI m) (nI o) (nI q) (mk σ w u)) := by
  have hr1 := ro_le A X m
  have hr2 := ro_le A X o
  have t0 : (s2 σ 118 0 0) 118 0 = nI 0 := by rw [s2_at rfl rfl]; rfl
  have rv0 : RV (s2 σ 118 0 0) 0 A P X 0 := RV_F rv (Fr_s (W := fun q k => q = 118 ∧ k = 0) ⟨rfl, rfl⟩) (fun q k e => by omega)
  have tm := rv0.2.1.1.2.1; have tr := rv0.2.1.1.2.2.1; have tb := rv0.2.1.1.1; have hB1 := rv.2.2.2.2.1.1; have hB2 := rv.2.2.2.2.1.2.1; have hM8 := rv.2.2.2.2.1.2.2.1; have hR8 := rv.2.2.2.2.1.2.2.2.1; have hS12 := rv.2.2.2.2.1.2.2.2.2.1; have hT := RV_b rv
  rw [rdn_up]
  unfold f_X11_game
  rw [zg118, zw118_0, Option.bind_some]
  rw [show f_X11_isMan 118 (nI m) (mk (s2 σ 118 0 0) w u) = some (nI 1, mk (s2 σ 118 0 0) w u) from isMan_1 tm (by omega) hma t0, Option.bind_some]
  dsimp only
  rw [if_neg (show ¬ nI 1 = 0 by decide)]
  rw [show f_X11_isMan 118 (nI o) (mk (s2 σ 118 0 0) w u) = some (nI 1, mk (s2 σ 118 0 0) w u) from isMan_1 tm (by omega) hoa t0, Option.bind_some]
  dsimp only
  rw [if_neg (show ¬ nI 1 = 0 by decide)]
  rw [show f_X11_isWhat 118 (nI q) 1 (mk (s2 σ 118 0 0) w u) = some (nI 1, mk (s2 σ 118 0 0) w u) from isWhat_1 (b := 1) hq (by decide) t0, Option.bind_some]
  dsimp only
  rw [if_neg (show ¬ nI 1 = 0 by decide)]
  rw [if_neg (fun e => hmo ((nI_eq (by omega) (by omega)).mp e)), show f_X11_rowOf 118 0 (nI m) (mk (s2 σ 118 0 0) w u) = some (nJ (ro A X m), mk (s2 σ 118 0 0) w u) from rowOf_R rv0 (by omega), Option.bind_some]
  dsimp only
  rw [nJ_pos (k := ro A X m) (by omega), if_neg (show ¬ nI (ro A X m - 1) = -1 from fun e => by have e2 : nI (ro A X m - 1) = nJ 0 := e; rw [q_eqJ (by omega) (by omega)] at e2; omega), show f_X11_rowOf 118 0 (nI o) (mk (s2 σ 118 0 0) w u) = some (nJ (ro A X o), mk (s2 σ 118 0 0) w u) from rowOf_R rv0 (by omega), Option.bind_some]
  dsimp only
  rw [nJ_pos (k := ro A X o) (by omega), if_neg (show ¬ nI (ro A X o - 1) = -1 from fun e => by have e2 : nI (ro A X o - 1) = nJ 0 := e; rw [q_eqJ (by omega) (by omega)] at e2; omega)]
  unfold f_X11_game_61
  rw [show f_X11_right 118 1 2 (mk (s2 σ 118 0 0) w u) = some (nI 1, mk (s2 σ 118 0 0) w u) from right_1 t0, Option.bind_some]
  dsimp only
  rw [if_neg (show ¬ nI 1 = 0 by decide)]
  unfold l_X11_game_79
  obtain ⟨V, hV⟩ : ∃ V, V = gmv q (rup (Rst A P X m o) 4) := ⟨_, rfl⟩
  rw [← hV]
  refine lp_S (RQ (fun τ => Fr Wq (s2 σ 118 0 0) τ) w u V) (fun i τ => (118, nI m, nI o, nI q, nI (rup (Rst A P X m o) i).1, nJ (rup (Rst A P X m o) i).2, nI i, mk τ w u)) (fun i τ => Fr Wq (s2 σ 118 0 0) τ ∧ RV τ 0 A P X 0) 4 ?_ ?_ 4 0 _ _ (by omega) (by omega) ⟨Fr_r _ _, rv0⟩
  · intro i hi k τ ⟨fr, rv1⟩ hk
    have hup := rup_le (Rst A P X m o) i (by omega)
    have hx2 : i / 2 < 2 := by omega
    have hy2 : i % 2 < 2 := by omega
    have ex : cx i / 2 = 1 - i / 2 ∧ cx i % 2 = i % 2 := by unfold cx; split <;> omega
    have ey : cy i / 2 = i / 2 ∧ cy i % 2 = 1 - i % 2 := by unfold cy; split <;> omega
    obtain ⟨τ1, ⟨f1, r1⟩, g1⟩ := gains_R (w := w) (u := u) rv1 hx hma hoa (x := 1 - i / 2) (y := i % 2) (by omega) hy2
    obtain ⟨τ2, ⟨f2, r2⟩, g2⟩ := gains_R (w := w) (u := u) r1 hx hma hoa (x := i / 2) (y := i % 2) hx2 hy2
    obtain ⟨τ3, ⟨f3, r3⟩, g3⟩ := gains_R (w := w) (u := u) r2 hx hoa hma (x := 1 - i % 2) (y := i / 2) (by omega) hx2
    obtain ⟨τ4, ⟨f4, r4⟩, g4⟩ := gains_R (w := w) (u := u) r3 hx hoa hma (x := i % 2) (y := i / 2) hy2 hx2
    rw [show gv A P (YL X m o (1 - i / 2) (i % 2)) m o - nI (1 - i / 2) = G1 A P X m o (cx i) by unfold G1; rw [ex.1, ex.2]] at g1
    rw [show gv A P (YL X m o (i / 2) (i % 2)) m o - nI (i / 2) = G1 A P X m o i from rfl] at g2
    rw [YL_s hmo, show gv A P (YL X m o (i / 2) (1 - i % 2)) o m - nI (1 - i % 2) = G2 A P X m o (cy i) by unfold G2; rw [ey.1, ey.2]] at g3
    rw [YL_s hmo, show gv A P (YL X m o (i / 2) (i % 2)) o m - nI (i % 2) = G2 A P X m o i from rfl] at g4
    have q2 := Fr_t fr (Fr_t f1 f2)
    have q4 := Fr_t q2 (Fr_t f3 f4)
    dsimp only at hk ⊢
    unfold f_X11_game_79 f_X11_game_169
    rw [if_neg (show ¬ (4 : Int32) ≤ nI i from nI_ge (b := 4) hi (by decide)), show hp_div (nI i) 2 = some (nI (i / 2)) from div_f (d := 2) (by omega) (by decide) (by decide), Option.bind_some, show hp_rem (nI i) 2 = some (nI (i % 2)) from rem_f (d := 2) (by omega) (by decide) (by decide), Option.bind_some, show (1 : Int32) - nI (i / 2) = nI (1 - i / 2) from pk_sub (a := 1) (by omega), g1, Option.bind_some]
    dsimp only
    rw [g2, Option.bind_some, nI_1]
    dsimp only
    by_cases c1 : G1 A P X m o i < G1 A P X m o (cx i)
    · have h := hk τ2 ⟨q2, r2⟩
      rw [rup_S, if_neg (show ¬ Rst A P X m o i = true by unfold Rst; simp [c1])] at h
      rw [if_pos c1]
      exact h
    · rw [if_neg c1, show (1 : Int32) - nI (i % 2) = nI (1 - i % 2) from pk_sub (a := 1) (by omega), g3, Option.bind_some]
      dsimp only
      rw [g4, Option.bind_some]
      dsimp only
      have h := hk τ4 ⟨q4, r4⟩
      by_cases c2 : G2 A P X m o i < G2 A P X m o (cy i)
      · rw [rup_S, if_neg (show ¬ Rst A P X m o i = true by unfold Rst; simp [c2])] at h
        rw [if_neg (Int32.not_le.mpr c2)]
        exact h
      · rw [rup_S, if_pos (show Rst A P X m o i = true by unfold Rst; simp [c1, c2])] at h
        rw [if_pos (Int32.not_lt.mp c2), nI_1, show (10 : Int32) * nI (i / 2) = nI (10 * (i / 2)) from pk_mul 10 _, nI_add]
        dsimp only at h
        by_cases c3 : (rup (Rst A P X m o) i).2 = 0
        · rw [if_pos c3, nJ_S] at h
          rw [c3, if_pos (show nJ 0 = -1 from rfl)]
          exact h
        · rw [if_neg c3] at h
          rw [if_neg (show ¬ nJ (rup (Rst A P X m o) i).2 = -1 from fun e => by have e2 : nJ (rup (Rst A P X m o) i).2 = nJ 0 := e; rw [q_JJ (by omega) (by omega)] at e2; exact c3 e2)]
          exact h
  · intro k τ ⟨fr, rv1⟩
    dsimp only
    unfold f_X11_game_79
    rw [if_pos (by decide)]
    rw [hV]
    unfold f_X11_game_175 f_X11_game_186 gmv
    by_cases c : q = 0
    · rw [c, if_pos (show nI 0 = 0 from rfl), if_pos rfl]
      exact RQ_i fr
    · rw [if_neg (nI_ne0 (by omega) (by omega)), if_neg c]
      exact RQ_i fr
end OJ
