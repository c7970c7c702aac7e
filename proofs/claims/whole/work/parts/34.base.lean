/-! L3: normal forms of numbers, loops, frames -/
def nJ (k : Nat) : Int32 := nI k - 1
theorem nJ_S (k : Nat) : nJ (k + 1) = nI k := nI_pred k
theorem nJ_m1 : nJ 0 = -1 := by decide
theorem nJ_toInt {k : Nat} (h : k < 2 ^ 31) : (nJ k).toInt = (k : Int) - 1 := by
  cases k with
  | zero => decide
  | succ k => rw [nJ_S, nI_toInt (by omega)]; omega
theorem nJ_pos {k : Nat} (h : 0 < k) : nJ k = nI (k - 1) := by
  cases k with
  | zero => omega
  | succ k => exact nJ_S k
section NQ
variable {a b : Nat}
theorem q_leJ (ha : a < 2 ^ 31) (hb : b < 2 ^ 31) : nI a ≤ nJ b ↔ a + 1 ≤ b := by
  rw [Int32.le_iff_toInt_le, nI_toInt ha, nJ_toInt hb]; omega
theorem q_Jle (ha : a < 2 ^ 31) (hb : b < 2 ^ 31) : nJ a ≤ nI b ↔ a ≤ b + 1 := by
  rw [Int32.le_iff_toInt_le, nI_toInt hb, nJ_toInt ha]; omega
theorem q_ltJ (ha : a < 2 ^ 31) (hb : b < 2 ^ 31) : nI a < nJ b ↔ a + 1 < b := by
  rw [Int32.lt_iff_toInt_lt, nI_toInt ha, nJ_toInt hb]; omega
theorem q_Jlt (ha : a < 2 ^ 31) (hb : b < 2 ^ 31) : nJ a < nI b ↔ a < b + 1 := by
  rw [Int32.lt_iff_toInt_lt, nI_toInt hb, nJ_toInt ha]; omega
theorem q_eqJ (ha : a < 2 ^ 31) (hb : b < 2 ^ 31) : nI a = nJ b ↔ a + 1 = b := by
  rw [← Int32.toInt_inj, nI_toInt ha, nJ_toInt hb]; omega
theorem q_Jeq (ha : a < 2 ^ 31) (hb : b < 2 ^ 31) : nJ a = nI b ↔ a = b + 1 := by
  rw [← Int32.toInt_inj, nI_toInt hb, nJ_toInt ha]; omega
theorem q_JJ (ha : a < 2 ^ 31) (hb : b < 2 ^ 31) : nJ a = nJ b ↔ a = b := by
  rw [← Int32.toInt_inj, nJ_toInt hb, nJ_toInt ha]; omega
theorem q_JJle (ha : a < 2 ^ 31) (hb : b < 2 ^ 31) : nJ a ≤ nJ b ↔ a ≤ b := by
  rw [Int32.le_iff_toInt_le, nJ_toInt hb, nJ_toInt ha]; omega
theorem q_JJlt (ha : a < 2 ^ 31) (hb : b < 2 ^ 31) : nJ a < nJ b ↔ a < b := by
  rw [Int32.lt_iff_toInt_lt, nJ_toInt hb, nJ_toInt ha]; omega
theorem x_pred (a : Nat) : nI a - nI 1 = nJ a := rfl
theorem x_m1 (a : Nat) : nI a + nJ 0 = nJ a := by
  unfold nJ
  rw [← Int32.toBitVec_inj]
  simp [Int32.toBitVec_add, Int32.toBitVec_sub]
  show (nI a).toBitVec + (-1#32) = (nI a).toBitVec - 1#32
  rw [BitVec.sub_eq_add_neg]
theorem x_J1 (a : Nat) : nJ a + nI 1 = nI a := by
  cases a with
  | zero => decide
  | succ a => rw [nJ_S, nI_add]
theorem x_neg1 : -(nI 1) = nJ 0 := by decide
theorem x_or (a b : Nat) : nI a ||| nI b = nI (a ||| b) := by
  apply Int32.toBitVec_inj.mp
  rw [Int32.toBitVec_or]
  show BitVec.ofNat 32 a ||| BitVec.ofNat 32 b = BitVec.ofNat 32 (a ||| b)
  apply BitVec.eq_of_getLsbD_eq
  intro i hi
  simp [BitVec.getLsbD_or, BitVec.getLsbD_ofNat, hi]
theorem x_and (a b : Nat) : nI a &&& nI b = nI (a &&& b) := by
  apply Int32.toBitVec_inj.mp
  rw [Int32.toBitVec_and]
  show BitVec.ofNat 32 a &&& BitVec.ofNat 32 b = BitVec.ofNat 32 (a &&& b)
  apply BitVec.eq_of_getLsbD_eq
  intro i hi
  simp [BitVec.getLsbD_and, BitVec.getLsbD_ofNat, hi]
theorem x_xor (a b : Nat) : nI a ^^^ nI b = nI (a ^^^ b) := by
  apply Int32.toBitVec_inj.mp
  rw [Int32.toBitVec_xor]
  show BitVec.ofNat 32 a ^^^ BitVec.ofNat 32 b = BitVec.ofNat 32 (a ^^^ b)
  apply BitVec.eq_of_getLsbD_eq
  intro i hi
  simp [BitVec.getLsbD_xor, BitVec.getLsbD_ofNat, hi]
/-- a without b -/
def an (a b : Nat) : Nat := a ^^^ (a &&& b)
theorem x_andn (a b : Nat) : nI a &&& (nI b ^^^ nJ 0) = nI (an a b) := by
  apply Int32.toBitVec_inj.mp
  rw [Int32.toBitVec_and, Int32.toBitVec_xor]
  show BitVec.ofNat 32 a &&& (BitVec.ofNat 32 b ^^^ (nJ 0).toBitVec) = BitVec.ofNat 32 (an a b)
  have e : (nJ 0).toBitVec = BitVec.allOnes 32 := by decide
  rw [e]
  unfold an
  apply BitVec.eq_of_getLsbD_eq
  intro i hi
  rw [BitVec.getLsbD_and, BitVec.getLsbD_xor, BitVec.getLsbD_ofNat, BitVec.getLsbD_ofNat, BitVec.getLsbD_ofNat, BitVec.getLsbD_allOnes, Nat.testBit_xor, Nat.testBit_and]
  simp only [hi, decide_true, Bool.true_and]
  cases a.testBit i <;> cases b.testBit i <;> rfl
theorem x_one {i : Nat} (hi : i < 31) : nI 1 <<< (nI i &&& 31) = nI (2 ^ i) := by
  have h : 2 ^ i < 2 ^ 31 := Nat.pow_lt_pow_right (by decide) hi
  rw [shl_nI (by omega) (by omega), Nat.one_mul]
theorem x_bit {a i : Nat} (ha : a < 2 ^ 31) (hi : i < 32) : (nI a >>> (nI i &&& 31)) &&& nI 1 = nI (bt a i) := bit_nI ha hi
end NQ
theorem bt_eq (a i : Nat) : bt a i = (a.testBit i).toNat := by
  unfold bt
  rw [Nat.testBit_eq_decide_div_mod_eq]
  have : a / 2 ^ i % 2 < 2 := Nat.mod_lt _ (by decide)
  rcases (show a / 2 ^ i % 2 = 0 ∨ a / 2 ^ i % 2 = 1 by omega) with e | e <;> simp [e]
theorem bt_1 {a i : Nat} : bt a i = 1 ↔ a.testBit i = true := by rw [bt_eq]; cases a.testBit i <;> simp
theorem bt_0 {a i : Nat} : bt a i = 0 ↔ a.testBit i = false := by rw [bt_eq]; cases a.testBit i <;> simp
theorem s2_at {σ : Nat → Nat → Int32} {q k q' k' : Nat} {v : Int32} (h : q' = q) (h2 : k' = k) : s2 σ q k v q' k' = v := if_pos ⟨h, h2⟩
theorem s2_off {σ : Nat → Nat → Int32} {q k q' k' : Nat} {v : Int32} (h : ¬ (q' = q ∧ k' = k)) : s2 σ q k v q' k' = σ q' k' := if_neg h
/-- σ' is σ off W -/
def Fr (W : Nat → Nat → Prop) (σ σ' : Nat → Nat → Int32) : Prop := ∀ q k, ¬ W q k → σ' q k = σ q k
theorem Fr_r (W : Nat → Nat → Prop) (σ : Nat → Nat → Int32) : Fr W σ σ := fun _ _ _ => rfl
theorem Fr_t {W : Nat → Nat → Prop} {σ σ' σ'' : Nat → Nat → Int32} (h : Fr W σ σ') (h2 : Fr W σ' σ'') : Fr W σ σ'' := fun q k hw => (h2 q k hw).trans (h q k hw)
theorem Fr_m {W V : Nat → Nat → Prop} {σ σ' : Nat → Nat → Int32} (h : Fr W σ σ') (hw : ∀ q k, W q k → V q k) : Fr V σ σ' := fun q k hv => h q k (fun w => hv (hw q k w))
theorem Fr_s {W : Nat → Nat → Prop} {σ : Nat → Nat → Int32} {q k : Nat} {v : Int32} (h : W q k) : Fr W σ (s2 σ q k v) := fun q' k' hw => s2_off (fun e => hw (by rw [e.1, e.2]; exact h))
theorem Fr_st {W : Nat → Nat → Prop} {σ σ' : Nat → Nat → Int32} {q k : Nat} {v : Int32} (h2 : Fr W σ σ') (h : W q k) : Fr W σ (s2 σ' q k v) := Fr_t h2 (Fr_s h)
/-- a loop with an invariant; it may end early -/
theorem lp_gen {S α : Type} {f : (S → Option α) → S → Option α} (I : Nat → S → Prop) (e : Nat) (Q : α → Prop) (hs : ∀ i, i < e → ∀ s, I i s → (∃ s', I (i + 1) s' ∧ ∀ k : S → Option α, f k s = k s') ∨ (∃ r, Q r ∧ ∀ k : S → Option α, f k s = some r)) (hx : ∀ s, I e s → ∃ r, Q r ∧ ∀ k : S → Option α, f k s = some r) : ∀ (d i n : Nat) (s : S), i + d = e → d < n → I i s → ∃ r, lp f n s = some r ∧ Q r := by
  intro d
  induction d with
  | zero =>
    intro i n s hi hn hI
    cases n with
    | zero => omega
    | succ n =>
      have hie : i = e := by omega
      subst hie
      obtain ⟨r, h1, h2⟩ := hx s hI
      exact ⟨r, h2 (lp f n), h1⟩
  | succ d ih =>
    intro i n s hi hn hI
    cases n with
    | zero => omega
    | succ n =>
      rcases hs i (by omega) s hI with ⟨s', h1, h2⟩ | ⟨r, h1, h2⟩
      · obtain ⟨r, h3, h4⟩ := ih (i + 1) n s' (by omega) (by omega) h1
        exact ⟨r, (h2 (lp f n)).trans h3, h4⟩
      · exact ⟨r, h2 (lp f n), h1⟩
/-- a loop whose i-th state is known but for what lies in W -/
theorem lp_fr {S α : Type} {f : (S → Option α) → S → Option α} (W : Nat → Nat → Prop) (σ : Nat → Nat → Int32) (st : Nat → (Nat → Nat → Int32) → S) (e : Nat) (fin : (Nat → Nat → Int32) → α) (hs : ∀ i, i < e → ∀ σ1, Fr W σ σ1 → ∃ σ2, Fr W σ1 σ2 ∧ ∀ k : S → Option α, f k (st i σ1) = k (st (i + 1) σ2)) (hx : ∀ σ1, Fr W σ σ1 → ∃ σ2, Fr W σ1 σ2 ∧ ∀ k : S → Option α, f k (st e σ1) = some (fin σ2)) : ∀ (d i n : Nat), i + d = e → d < n → ∃ σ2, Fr W σ σ2 ∧ lp f n (st i σ) = some (fin σ2) := by
  intro d i n hi hn
  obtain ⟨r, h1, σ2, h2, h3⟩ := lp_gen (f := f) (fun i s => ∃ σ1, Fr W σ σ1 ∧ s = st i σ1) e (fun r => ∃ σ2, Fr W σ σ2 ∧ r = fin σ2)
    (fun i hi s ⟨σ1, h1, h2⟩ => by
      obtain ⟨σ2, h3, h4⟩ := hs i hi σ1 h1
      exact Or.inl ⟨st (i + 1) σ2, ⟨σ2, Fr_t h1 h3, rfl⟩, fun k => by rw [h2]; exact h4 k⟩)
    (fun s ⟨σ1, h1, h2⟩ => by
      obtain ⟨σ2, h3, h4⟩ := hx σ1 h1
      exact ⟨fin σ2, ⟨σ2, Fr_t h1 h3, rfl⟩, fun k => by rw [h2]; exact h4 k⟩) d i n (st i σ) hi hn ⟨σ, Fr_r W σ, rfl⟩
  exact ⟨σ2, h2, by rw [h1, h3]⟩
/-- .. within another loop, whose next turn is κ -/
theorem lp_frK {S α K : Type} {f : K → (S → Option α) → S → Option α} (W : Nat → Nat → Prop) (σ : Nat → Nat → Int32) (st : Nat → (Nat → Nat → Int32) → S) (e : Nat) (fin : K → (Nat → Nat → Int32) → Option α) (hs : ∀ i, i < e → ∀ σ1, Fr W σ σ1 → ∃ σ2, Fr W σ1 σ2 ∧ ∀ (κ : K) (k : S → Option α), f κ k (st i σ1) = k (st (i + 1) σ2)) (hx : ∀ σ1, Fr W σ σ1 → ∃ σ2, Fr W σ1 σ2 ∧ ∀ (κ : K) (k : S → Option α), f κ k (st e σ1) = fin κ σ2) : ∀ (d i n : Nat), i + d = e → d < n → ∃ σ2, Fr W σ σ2 ∧ ∀ κ : K, lp (f κ) n (st i σ) = fin κ σ2 := by
  intro d i n hi hn
  have key : ∀ (d i n : Nat) (σ1 : Nat → Nat → Int32), i + d = e → d < n → Fr W σ σ1 → ∃ σ2, Fr W σ σ2 ∧ ∀ κ : K, lp (f κ) n (st i σ1) = fin κ σ2 := by
    intro d
    induction d with
    | zero =>
      intro i n σ1 hi hn fr
      cases n with
      | zero => omega
      | succ n =>
        have hie : i = e := by omega
        subst hie
        obtain ⟨σ2, h1, h2⟩ := hx σ1 fr
        exact ⟨σ2, Fr_t fr h1, fun κ => h2 κ (lp (f κ) n)⟩
    | succ d ih =>
      intro i n σ1 hi hn fr
      cases n with
      | zero => omega
      | succ n =>
        obtain ⟨σ2, h1, h2⟩ := hs i (by omega) σ1 fr
        obtain ⟨σ3, h3, h4⟩ := ih (i + 1) n σ2 (by omega) (by omega) (Fr_t fr h1)
        exact ⟨σ3, h3, fun κ => (h2 κ (lp (f κ) n)).trans (h4 κ)⟩
  exact key d i n σ hi hn (Fr_r W σ)
