/-! L3: orders of rows -/
def Us (o : Nat → Nat) : Nat → Nat := it (fun q v => v ||| 2 ^ o q) 0
theorem Us_S (o : Nat → Nat) (q : Nat) : Us o (q + 1) = Us o q ||| 2 ^ o q := rfl
theorem bt_tb (a k : Nat) : bt a k = (a.testBit k).toNat := by
  unfold bt
  rw [Nat.testBit_eq_decide_div_mod_eq]
  rcases Nat.mod_two_eq_zero_or_one (a / 2 ^ k) with e | e <;> rw [e] <;> rfl
theorem bt_i {a k : Nat} : bt a k = 1 ↔ a.testBit k = true := by
  rw [bt_tb]
  cases a.testBit k <;> simp
theorem bt_or2 (a b k : Nat) : bt (a ||| b) k = 1 ↔ bt a k = 1 ∨ bt b k = 1 := by
  rw [bt_i, bt_i, bt_i, Nat.testBit_or, Bool.or_eq_true]
theorem bt_pw (a k : Nat) : bt (2 ^ a) k = 1 ↔ a = k := by
  rw [bt_i, Nat.testBit_two_pow]
  simp
theorem Us_bt (o : Nat → Nat) (n t : Nat) : bt (Us o n) t = 1 ↔ ∃ q, q < n ∧ o q = t := by
  induction n with
  | zero => exact ⟨fun h => by rw [bt_i] at h; exact absurd h (by rw [show Us o 0 = 0 from rfl, Nat.zero_testBit]; simp), fun ⟨q, h, _⟩ => by omega⟩
  | succ n ih =>
    rw [Us_S, bt_or2, ih, bt_pw]
    constructor
    · rintro (⟨q, h1, h2⟩ | h)
      · exact ⟨q, by omega, h2⟩
      · exact ⟨n, by omega, h⟩
    · rintro ⟨q, h1, h2⟩
      by_cases c : q = n
      · subst c; exact Or.inr h2
      · exact Or.inl ⟨q, by omega, h2⟩
theorem Us_lt {o : Nat → Nat} {R : Nat} : ∀ n, (∀ q, q < n → o q < R) → Us o n < 2 ^ R := by
  intro n
  induction n with
  | zero => intro _; exact Nat.two_pow_pos R
  | succ n ih =>
    intro h
    exact Nat.or_lt_two_pow (ih (fun q hq => h q (by omega))) (Nat.pow_lt_pow_right (by decide) (h n (by omega)))
theorem Us_c {o o' : Nat → Nat} {n : Nat} (h : ∀ q, q < n → o q = o' q) : Us o n = Us o' n := it_c (fun i hi v => by rw [h i hi])
theorem pc_or (a n N : Nat) (h : bt a n = 0) (hn : n < N) : pc (a ||| 2 ^ n) N = pc a N + 1 := by
  have ht : ∀ k, k ≠ n → bt (a ||| 2 ^ n) k = bt a k := fun k hk => by
    rw [bt_tb, bt_tb, Nat.testBit_or, Nat.testBit_two_pow, show decide (n = k) = false by simp; omega, Bool.or_false]
  have h1 : bt (a ||| 2 ^ n) n = 1 := (bt_or2 _ _ _).mpr (Or.inr ((bt_pw n n).mpr rfl))
  have key : ∀ N, pc (a ||| 2 ^ n) N = pc a N + (if n < N then 1 else 0) := by
    intro N
    induction N with
    | zero => rfl
    | succ N ih =>
      show pc (a ||| 2 ^ n) N + bt (a ||| 2 ^ n) N = pc a N + bt a N + _
      rw [ih]
      by_cases c : N = n
      · subst c
        rw [h1, h, if_neg (by omega), if_pos (by omega)]
      · rw [ht N c]
        by_cases c2 : n < N
        · rw [if_pos c2, if_pos (by omega)]; omega
        · rw [if_neg c2, if_neg (by omega)]; omega
  rw [key, if_pos hn]
theorem or_same {a n : Nat} (h : bt a n = 1) : a ||| 2 ^ n = a := by
  apply Nat.eq_of_testBit_eq
  intro k
  rw [Nat.testBit_or, Nat.testBit_two_pow]
  by_cases c : n = k
  · subst c
    rw [bt_i.mp h]; simp
  · rw [show decide (n = k) = false by simp [c], Bool.or_false]
theorem Us_p1 (o : Nat → Nat) (R n : Nat) : pc (Us o (n + 1)) R ≤ pc (Us o n) R + 1 := by
  rw [Us_S]
  have := pc_or1 (Us o n) (o n) R
  split at this <;> omega
theorem Us_pj (o : Nat → Nat) (R n : Nat) : ∀ j, pc (Us o (n + j)) R ≤ pc (Us o n) R + j := by
  intro j
  induction j with
  | zero => exact Nat.le_refl _
  | succ j ih => have := Us_p1 o R (n + j); rw [Nat.add_assoc] at this; omega
theorem pc_z (N : Nat) : pc 0 N = 0 := by
  induction N with
  | zero => rfl
  | succ N ih => show pc 0 N + bt 0 N = 0; rw [ih]; unfold bt; rw [Nat.zero_div]
theorem Us_pc (o : Nat → Nat) (R n : Nat) : pc (Us o n) R ≤ n := by
  have h := Us_pj o R 0 n
  rw [show Us o 0 = 0 from rfl, pc_z, Nat.zero_add] at h
  omega
theorem pc_ful {a : Nat} : ∀ R, pc a R = R → ∀ k, k < R → bt a k = 1 := by
  intro R
  induction R with
  | zero => intro _ k h; omega
  | succ R ih =>
    intro h k hk
    have h2 : pc a R + bt a R = R + 1 := h
    have h3 := pc_le a R
    have h4 := bt_lt a R
    by_cases c : k = R
    · subst c; omega
    · exact ih (by omega) k (by omega)
theorem full_e {a R : Nat} (ha : a < 2 ^ R) (h : ∀ k, k < R → bt a k = 1) : a = 2 ^ R - 1 := by
  apply Nat.eq_of_testBit_eq
  intro k
  rw [Nat.testBit_two_pow_sub_one]
  by_cases c : k < R
  · rw [bt_i.mp (h k c), decide_eq_true c]
  · rw [Nat.testBit_lt_two_pow (Nat.lt_of_lt_of_le ha (Nat.pow_le_pow_right (by decide) (by omega))), decide_eq_false c]
theorem pc_all (R : Nat) : ∀ n, n ≤ R → pc (2 ^ R - 1) n = n := by
  intro n
  induction n with
  | zero => intro _; rfl
  | succ n ih =>
    intro h
    show pc (2 ^ R - 1) n + bt (2 ^ R - 1) n = n + 1
    rw [ih (by omega), bt_all (by omega)]
/-- an order's number, and its places -/
def cod (R : Nat) (o : Nat → Nat) : Nat → Nat := it (fun q v => v * R + o q) 0
def dg (R n q : Nat) : Nat := n / R ^ (R - 1 - q) % R
theorem cod_S (R : Nat) (o : Nat → Nat) (q : Nat) : cod R o (q + 1) = cod R o q * R + o q := rfl
theorem cod_c {R : Nat} {o o' : Nat → Nat} {n : Nat} (h : ∀ q, q < n → o q = o' q) : cod R o n = cod R o' n := it_c (fun i hi v => by rw [h i hi])
theorem cod_d {R : Nat} {o : Nat → Nat} (hR : 0 < R) (q : Nat) : ∀ j, (∀ i, i < q + j → o i < R) → cod R o (q + j) / R ^ j = cod R o q := by
  intro j
  induction j with
  | zero => intro _; rw [Nat.pow_zero, Nat.div_one, Nat.add_zero]
  | succ j ih =>
    intro h
    have h1 := h (q + j) (by omega)
    rw [← Nat.add_assoc, cod_S, Nat.pow_succ, Nat.mul_comm (R ^ j) R, ← Nat.div_div_eq_div_mul, Nat.mul_comm (cod R o (q + j)) R, Nat.mul_add_div hR, Nat.div_eq_of_lt h1, Nat.add_zero]
    exact ih (fun i hi => h i (by omega))
theorem cod_lt {R : Nat} {o : Nat → Nat} : ∀ n, (∀ i, i < n → o i < R) → cod R o n < R ^ n := by
  intro n
  induction n with
  | zero => intro _; exact Nat.one_pos
  | succ n ih =>
    intro h
    have h1 := ih (fun i hi => h i (by omega))
    have h2 := h n (by omega)
    rw [cod_S, Nat.pow_succ]
    have h3 : (cod R o n + 1) * R ≤ R ^ n * R := Nat.mul_le_mul_right R h1
    rw [Nat.add_mul, Nat.one_mul] at h3
    omega
/-- a number that begins with these places -/
theorem dg_cod {R p d i q : Nat} {o : Nat → Nat} (hpd : p + d = R) (ho : ∀ j, j < p → o j < R) (hi : i < R ^ d) (hq : q < p) : dg R (cod R o p * R ^ d + i) q = o q := by
  have hR : 0 < R := by omega
  unfold dg
  rw [show R - 1 - q = d + (p - 1 - q) by omega, Nat.pow_add, ← Nat.div_div_eq_div_mul, Nat.mul_comm (cod R o p), Nat.mul_add_div (Nat.pow_pos hR), Nat.div_eq_of_lt hi, Nat.add_zero]
  have h := cod_d (R := R) (o := o) hR (q + 1) (p - 1 - q) (fun i hi => ho i (by omega))
  rw [show q + 1 + (p - 1 - q) = p by omega] at h
  rw [h, cod_S, Nat.mul_comm, Nat.mul_add_mod, Nat.mod_eq_of_lt (ho q hq)]
section PO
variable {A X : Nat → Nat} {P : List (Nat × Nat)}
/-- rows laid in an order -/
def po (A : Nat → Nat) (o : Nat → Nat) (X : Nat → Nat) : Nat → Nat := fun k => if 25 ≤ k ∧ k < 25 + A 2 then X (25 + o (k - 25)) else X k
theorem po_r {o : Nat → Nat} {r : Nat} (h : r < A 2) : po A o X (25 + r) = X (25 + o r) := by
  unfold po
  rw [if_pos (by omega), show 25 + r - 25 = r by omega]
theorem po_k {o : Nat → Nat} {k : Nat} (h : k < 25 ∨ 25 + A 2 ≤ k) : po A o X k = X k := by
  unfold po
  rw [if_neg (by omega)]
theorem po_W {o : Nat → Nat} (wa : WA A) (wx : WX A X) (h1 : ∀ q, q < A 2 → o q < A 2) (h2 : ∀ q q', q < A 2 → q' < A 2 → o q = o q' → q = q') : WX A (po A o X) := by
  obtain ⟨w0, w1, w2, w3⟩ := wx
  have hR8 := wa.2.2.2.1
  refine ⟨by rw [po_k (by omega)]; exact w0, fun i hi => ?_, fun r q i hr hq b1 b2 => ?_, fun r a b => by rw [po_k (by omega)]; exact w3 r a b⟩
  · rw [po_k (by omega), po_k (by omega), po_k (by omega)]
    refine ⟨(w1 i hi).1, (w1 i hi).2.1, (w1 i hi).2.2.1, ?_⟩
    by_cases c : i < A 2
    · rw [po_r c]
      have := h1 i c
      exact (w1 (o i) (by omega)).2.2.2
    · rw [po_k (by omega)]
      exact (w1 i hi).2.2.2
  · by_cases c : r < A 2
    · by_cases c2 : q < A 2
      · rw [po_r c] at b1
        rw [po_r c2] at b2
        have g1 := h1 r c
        have g2 := h1 q c2
        exact h2 r q c c2 (w2 _ _ i (by omega) (by omega) b1 b2)
      · rw [po_k (by omega), w3 q (by omega) hq] at b2
        rw [bt_i, Nat.zero_testBit] at b2
        exact absurd b2 (by simp)
    · rw [po_k (by omega), w3 r (by omega) hr] at b1
      rw [bt_i, Nat.zero_testBit] at b1
      exact absurd b1 (by simp)
/-- the rows of a set together -/
def orr (X : Nat → Nat) (be : Nat) : Nat → Nat := it (fun i v => v ||| (if bt be i = 0 then 0 else X (25 + i))) 0
theorem orr_S (X : Nat → Nat) (be i : Nat) : orr X be (i + 1) = orr X be i ||| (if bt be i = 0 then 0 else X (25 + i)) := rfl
theorem orr_tb (be t : Nat) : ∀ n, (orr X be n).testBit t = true ↔ ∃ i, i < n ∧ bt be i = 1 ∧ (X (25 + i)).testBit t = true := by
  intro n
  induction n with
  | zero => exact ⟨fun h => by (rw [show orr X be 0 = 0 from rfl, Nat.zero_testBit] at h; exact absurd h (by simp)), fun ⟨i, h, _⟩ => by omega⟩
  | succ n ih =>
    have hb := bt_lt be n
    rw [orr_S, Nat.testBit_or, Bool.or_eq_true, ih]
    constructor
    · rintro (⟨i, h1, h2⟩ | h)
      · exact ⟨i, by omega, h2⟩
      · by_cases c : bt be n = 0
        · rw [if_pos c, Nat.zero_testBit] at h; cases h
        · rw [if_neg c] at h
          exact ⟨n, by omega, by omega, h⟩
    · rintro ⟨i, h1, h2, h3⟩
      by_cases c : i = n
      · subst c
        rw [if_neg (by omega)]
        exact Or.inr h3
      · exact Or.inl ⟨i, by omega, h2, h3⟩
/-- 1 where a row is right with these beside it -/
def rg (A : Nat → Nat) (P : List (Nat × Nat)) (X : Nat → Nat) (r be : Nat) : Nat := if (nmb A X (hd A P X (X (25 + r)) (orr X be (A 2)) (mq A (X 0)) (A 0)).1 (A 1)).1 = 0 then 0 else bt (X (25 + r)) ((nmb A X (hd A P X (X (25 + r)) (orr X be (A 2)) (mq A (X 0)) (A 0)).1 (A 1)).1 - 1)
theorem rg_lt (r be : Nat) : rg A P X r be < 2 := by
  unfold rg
  split
  · omega
  · exact bt_lt _ _
def bes (R : Nat) (o : Nat → Nat) (i : Nat) : Nat := (if i + 1 < R then 2 ^ o (i + 1) else 0) ||| (if i = 0 then 0 else 2 ^ o (i - 1))
def sbo (A : Nat → Nat) (P : List (Nat × Nat)) (X : Nat → Nat) (o : Nat → Nat) (i : Nat) : Nat := rg A P X (o i) (bes (A 2) o i)
def sso (A : Nat → Nat) (P : List (Nat × Nat)) (X : Nat → Nat) (o : Nat → Nat) : Nat → Nat := it (fun i v => v + sbo A P X o i) 0
theorem sso_S (o : Nat → Nat) (i : Nat) : sso A P X o (i + 1) = sso A P X o i + sbo A P X o i := rfl
theorem sso_le (o : Nat → Nat) (n : Nat) : sso A P X o n ≤ n := by
  induction n with
  | zero => exact Nat.le_refl _
  | succ n ih => have := rg_lt (A := A) (P := P) (X := X) (o n) (bes (A 2) o n); rw [sso_S]; unfold sbo; omega
theorem sbo_c {o o' : Nat → Nat} {i : Nat} (h : ∀ q, q ≤ i + 1 → q < A 2 → o q = o' q) (hi : i < A 2) : sbo A P X o i = sbo A P X o' i := by
  unfold sbo bes
  rw [h i (by omega) hi]
  by_cases c : i + 1 < A 2
  · rw [if_pos c, if_pos c, h (i + 1) (by omega) c]
    by_cases c2 : i = 0
    · rw [if_pos c2, if_pos c2]
    · rw [if_neg c2, if_neg c2, h (i - 1) (by omega) (by omega)]
  · rw [if_neg c, if_neg c]
    by_cases c2 : i = 0
    · rw [if_pos c2, if_pos c2]
    · rw [if_neg c2, if_neg c2, h (i - 1) (by omega) (by omega)]
theorem sso_c {o o' : Nat → Nat} {n : Nat} (h : ∀ q, q ≤ n → q < A 2 → o q = o' q) (hn : n ≤ A 2) : sso A P X o n = sso A P X o' n := it_c (fun i hi v => by rw [sbo_c (fun q h1 h2 => h q (by omega) h2) (by omega)])
theorem rr_so {o : Nat → Nat} (hM8 : A 1 ≤ 8) (ho : ∀ q, q < A 2 → o q < A 2) : ∀ n, n ≤ A 2 → rr A P (po A o X) (mq A (X 0)) n = sso A P X o n := by
  intro n
  induction n with
  | zero => intro _; rfl
  | succ n ih =>
    intro hn
    have e1 : rw1 A (po A o X) (n + 1) = X (25 + o n) := by rw [rw1_i (by omega), po_r (by omega)]
    have e2 : rw1 A (po A o X) n ||| rw1 A (po A o X) (n + 2) = orr X (bes (A 2) o n) (A 2) := by
      apply Nat.eq_of_testBit_eq
      intro t
      have g : ∀ a b : Bool, (a = true ↔ b = true) → a = b := fun a b h => by cases a <;> cases b <;> simp_all
      apply g
      rw [orr_tb, Nat.testBit_or, Bool.or_eq_true]
      have p1 : (rw1 A (po A o X) n).testBit t = true ↔ n ≠ 0 ∧ (X (25 + o (n - 1))).testBit t = true := by
        cases n with
        | zero => unfold rw1; rw [if_pos rfl, Nat.zero_testBit]; simp
        | succ n => rw [rw1_i (by omega), po_r (by omega), Nat.add_sub_cancel]; simp
      have p2 : (rw1 A (po A o X) (n + 2)).testBit t = true ↔ n + 1 < A 2 ∧ (X (25 + o (n + 1))).testBit t = true := by
        by_cases c : n + 1 < A 2
        · rw [rw1_i c, po_r c]; simp [c]
        · unfold rw1
          rw [if_neg (by omega), if_pos (by omega), Nat.zero_testBit]
          simp [c]
      rw [p1, p2]
      have hz : ∀ i, ¬ bt 0 i = 1 := fun i => by rw [bt_i, Nat.zero_testBit]; simp
      constructor
      · rintro (⟨h1, h2⟩ | ⟨h1, h2⟩)
        · refine ⟨o (n - 1), ho _ (by omega), ?_, h2⟩
          unfold bes
          rw [if_neg h1, bt_or2]
          exact Or.inr ((bt_pw _ _).mpr rfl)
        · refine ⟨o (n + 1), ho _ h1, ?_, h2⟩
          unfold bes
          rw [if_pos h1, bt_or2]
          exact Or.inl ((bt_pw _ _).mpr rfl)
      · rintro ⟨i, h1, h2, h3⟩
        unfold bes at h2
        rw [bt_or2] at h2
        rcases h2 with h2 | h2
        · by_cases c : n + 1 < A 2
          · rw [if_pos c, bt_pw] at h2
            rw [← h2] at h3
            exact Or.inr ⟨c, h3⟩
          · rw [if_neg c] at h2
            exact absurd h2 (hz i)
        · by_cases c : n = 0
          · rw [if_pos c] at h2
            exact absurd h2 (hz i)
          · rw [if_neg c, bt_pw] at h2
            rw [← h2] at h3
            exact Or.inl ⟨c, h3⟩
    have e3 : na A P (po A o X) n (mq A (X 0)) = (nmb A X (hd A P X (X (25 + o n)) (orr X (bes (A 2) o n) (A 2)) (mq A (X 0)) (A 0)).1 (A 1)).1 := by
      unfold na he
      rw [e1, e2, hd_c (X := po A o X) (Y := X) (fun i hi => ⟨po_k (by omega), po_k (by omega)⟩), nmb_c (X := po A o X) (Y := X) (fun i hi => po_k (by omega))]
    rw [rr_S, ih (by omega), sso_S, e3, po_r (by omega)]
    unfold sbo rg
    have hb := bt_lt (X (25 + o n)) ((nmb A X (hd A P X (X (25 + o n)) (orr X (bes (A 2) o n) (A 2)) (mq A (X 0)) (A 0)).1 (A 1)).1 - 1)
    split
    · omega
    · split
      · next h => rw [h, Nat.add_zero]
      · omega
/-- a review's search: the best so far (and 1), its number -/
def stq (A : Nat → Nat) (P : List (Nat × Nat)) (X : Nat → Nat) (n : Nat) (s : Nat × Nat) : Nat × Nat := if Us (dg (A 2) n) (A 2) = 2 ^ A 2 - 1 then (if sso A P X (dg (A 2) n) (A 2) + 1 ≤ s.1 then s else (sso A P X (dg (A 2) n) (A 2) + 1, n)) else s
def sek (A : Nat → Nat) (P : List (Nat × Nat)) (X : Nat → Nat) (lo : Nat) (s : Nat × Nat) : Nat → Nat × Nat := it (fun i s => stq A P X (lo + i) s) s
theorem sek_add (lo : Nat) (s : Nat × Nat) (a b : Nat) : sek A P X lo s (a + b) = sek A P X (lo + a) (sek A P X lo s a) b := by
  unfold sek
  rw [it_spl]
  exact it_c (fun i _ v => by rw [Nat.add_assoc])
theorem sek_mul (lo K : Nat) (s : Nat × Nat) : ∀ n, sek A P X lo s (n * K) = it (fun r s => sek A P X (lo + r * K) s K) s n := by
  intro n
  induction n with
  | zero => rw [Nat.zero_mul]; rfl
  | succ n ih => rw [Nat.add_mul, Nat.one_mul, sek_add, ih, it_S]
theorem sek_no (lo : Nat) (s : Nat × Nat) : ∀ n, (∀ i, i < n → Us (dg (A 2) (lo + i)) (A 2) ≠ 2 ^ A 2 - 1) → sek A P X lo s n = s := by
  intro n
  induction n with
  | zero => intro _; rfl
  | succ n ih =>
    intro h
    show stq A P X (lo + n) (sek A P X lo s n) = s
    rw [ih (fun i hi => h i (by omega))]
    unfold stq
    rw [if_neg (h n (by omega))]
end PO
