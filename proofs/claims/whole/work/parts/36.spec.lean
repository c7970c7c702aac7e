/-! L3: what is meant: A an army's numbers (beats, men, rows, slack, how many muds, the muds), P its rule, X a march (night, 8 treads, 8 louds, 8 honours, 8 rows) -/
/-- how loud the MEN of a set are together on a beat -/
def ls (X : Nat → Nat) (beat set : Nat) : Nat → Nat
  | 0 => 0
  | i + 1 => ls X beat set i + (if bt set i = 0 then 0 else if bt (X (1 + i)) beat = 0 then 0 else X (9 + i))
def jn (k : Nat) (a b : Int32) : Int32 := if k = 4 then (if a = 0 then 0 else if b = 0 then 0 else 1) else if k = 5 then (if a = 0 then (if b = 0 then 0 else 1) else 1) else if k = 6 then (if a < b then 1 else 0) else if k = 7 then (if a = b then 1 else 0) else if k = 8 then a + b else if k = 9 then a - b else if k = 10 then a * b else (if b = 0 then 0 else a / b)
/-- a rule reckoned on a pile of d numbers -/
def ex (vals : Nat → Int32) : List (Nat × Nat) → (Nat → Int32) → Nat → Int32
  | [], s, _ => s 0
  | (k, n) :: P, s, d => if k = 1 then ex vals P (upd s d (nI n)) (d + 1) else if k = 2 then ex vals P (upd s d (vals n)) (d + 1) else if k = 3 then ex vals P (upd s (d - 1) (if s (d - 1) = 0 then 1 else 0)) d else ex vals P (upd s (d - 2) (jn k (s (d - 2)) (s (d - 1)))) (d - 1)
def okP : List (Nat × Nat) → Nat → Prop
  | [], d => d = 1
  | (k, n) :: P, d => (k = 1 ∧ n ≤ 9999 ∧ d < 64 ∧ okP P (d + 1)) ∨ (k = 2 ∧ n < 6 ∧ d < 64 ∧ okP P (d + 1)) ∨ (k = 3 ∧ 1 ≤ d ∧ okP P d) ∨ (4 ≤ k ∧ k ≤ 11 ∧ 2 ≤ d ∧ okP P (d - 1))
theorem ex_c (vals : Nat → Int32) : ∀ (P : List (Nat × Nat)) (d : Nat) (s s' : Nat → Int32), okP P d → (∀ j, j < d → s j = s' j) → ex vals P s d = ex vals P s' d := by
  intro P
  induction P with
  | nil => intro d s s' h e; have hd : d = 1 := h; exact e 0 (by omega)
  | cons p P ih =>
    obtain ⟨k, n⟩ := p
    intro d s s' h e
    unfold ex
    have up : ∀ (x : Int32) (c : Nat), c ≤ d → ∀ j, j < c + 1 → upd s c x j = upd s' c x j := by
      intro x c hc j hj
      unfold upd
      by_cases hjc : j = c
      · rw [if_pos hjc, if_pos hjc]
      · rw [if_neg hjc, if_neg hjc]; exact e j (by omega)
    rcases h with ⟨h1, -, -, h2⟩ | ⟨h1, -, -, h2⟩ | ⟨h1, h3, h2⟩ | ⟨h1, h3, h4, h2⟩
    · simp only [if_pos h1]; exact ih _ _ _ h2 (up _ d (by omega))
    · simp only [if_neg (show ¬ k = 1 by omega), if_pos h1]; exact ih _ _ _ h2 (up _ d (by omega))
    · simp only [if_neg (show ¬ k = 1 by omega), if_neg (show ¬ k = 2 by omega), if_pos h1]
      rw [e (d - 1) (by omega)]
      exact ih _ _ _ h2 (fun j hj => up _ (d - 1) (by omega) j (by omega))
    · simp only [if_neg (show ¬ k = 1 by omega), if_neg (show ¬ k = 2 by omega), if_neg (show ¬ k = 3 by omega)]
      rw [e (d - 1) (by omega), e (d - 2) (by omega)]
      exact ih _ _ _ h2 (fun j hj => up _ (d - 2) (by omega) j (by omega))
def ev (P : List (Nat × Nat)) (vals : Nat → Int32) : Int32 := ex vals P (fun _ => 0) 0
def vals (A X : Nat → Nat) (ab bs mud beat last : Nat) : Nat → Int32 := fun k => if k = 0 then nI (ls X beat ab (A 1)) else if k = 1 then nI (ls X beat bs (A 1)) else if k = 2 then nI mud else if k = 3 then nI beat else if k = 4 then nI (pc ab 12) else nI last
/-- whether a beat is heard -/
def hb (A : Nat → Nat) (P : List (Nat × Nat)) (X : Nat → Nat) (ab bs mud beat last : Nat) : Nat := if P = [] then (if ls X beat ab (A 1) ≤ mud then 0 else 1) else (if ev P (vals A X ab bs mud beat last) ≤ 0 then 0 else 1)
theorem hb_lt (A : Nat → Nat) (P : List (Nat × Nat)) (X : Nat → Nat) (ab bs mud beat last : Nat) : hb A P X ab bs mud beat last < 2 := by
  unfold hb
  split <;> split <;> omega
/-- what is heard: bits, the last beat -/
def hd (A : Nat → Nat) (P : List (Nat × Nat)) (X : Nat → Nat) (ab bs mud : Nat) : Nat → Nat × Nat
  | 0 => (0, 0)
  | i + 1 => ((hd A P X ab bs mud i).1 ||| hb A P X ab bs mud i (hd A P X ab bs mud i).2 * 2 ^ i, hb A P X ab bs mud i (hd A P X ab bs mud i).2)
theorem hd_lt (A : Nat → Nat) (P : List (Nat × Nat)) (X : Nat → Nat) (ab bs mud : Nat) : ∀ i, (hd A P X ab bs mud i).1 < 2 ^ i ∧ (hd A P X ab bs mud i).2 < 2 := by
  intro i
  induction i with
  | zero => exact ⟨Nat.zero_lt_one, Nat.zero_lt_two⟩
  | succ i ih =>
    have h := hb_lt A P X ab bs mud i (hd A P X ab bs mud i).2
    refine ⟨?_, h⟩
    show (hd A P X ab bs mud i).1 ||| hb A P X ab bs mud i (hd A P X ab bs mud i).2 * 2 ^ i < 2 ^ (i + 1)
    apply Nat.or_lt_two_pow
    · have := ih.1
      have e : 2 ^ (i + 1) = 2 * 2 ^ i := by rw [Nat.pow_succ, Nat.mul_comm]
      omega
    · have e : 2 ^ (i + 1) = 2 * 2 ^ i := by rw [Nat.pow_succ, Nat.mul_comm]
      rw [e]
      exact (Nat.mul_lt_mul_right (Nat.two_pow_pos i)).mpr h
/-- who is named (a man's number and 1; 0 nobody), by how many beats -/
def nmb (A X : Nat → Nat) (h : Nat) : Nat → Nat × Nat
  | 0 => (0, A 3 + 1)
  | i + 1 => if (nmb A X h i).2 ≤ pc (X (1 + i) ^^^ h) 12 then nmb A X h i else (i + 1, pc (X (1 + i) ^^^ h) 12)
theorem nmb_le (A X : Nat → Nat) (h : Nat) (hS : A 3 ≤ 12) : ∀ i, (nmb A X h i).1 ≤ i ∧ (nmb A X h i).2 ≤ 13 := by
  intro i
  induction i with
  | zero => exact ⟨Nat.le_refl _, by show A 3 + 1 ≤ 13; omega⟩
  | succ i ih =>
    unfold nmb
    split
    · exact ⟨by omega, ih.2⟩
    · exact ⟨Nat.le_refl _, by have := pc_le (X (1 + i) ^^^ h) 12; show pc (X (1 + i) ^^^ h) 12 ≤ 13; omega⟩
/-- the mud of a night -/
def mq (A : Nat → Nat) (n : Nat) : Nat := if A 4 = 0 then 2 else A (5 + n % A 4)
/-- the MEN of a row (its number and 1; none beyond) -/
def rw1 (A X : Nat → Nat) (p : Nat) : Nat := if p = 0 then 0 else if A 2 < p then 0 else X (24 + p)
/-- in so many nights, honours as they are -/
def rt (A : Nat → Nat) (n : Nat) (X : Nat → Nat) : Nat → Nat := fun k => if k = 0 then X 0 + n else if 25 ≤ k ∧ k < 25 + A 2 then X (25 + (k - 25 + n) % A 2) else X k
/-- what is heard of a row, by so much mud; who is named -/
def he (A : Nat → Nat) (P : List (Nat × Nat)) (X : Nat → Nat) (r w : Nat) : Nat := (hd A P X (rw1 A X (r + 1)) (rw1 A X r ||| rw1 A X (r + 2)) w (A 0)).1
def na (A : Nat → Nat) (P : List (Nat × Nat)) (X : Nat → Nat) (r w : Nat) : Nat := (nmb A X (he A P X r w) (A 1)).1
def WA (A : Nat → Nat) : Prop := 4 ≤ A 0 ∧ A 0 ≤ 12 ∧ A 1 ≤ 8 ∧ A 2 ≤ 8 ∧ A 3 ≤ 12 ∧ A 4 ≤ 8 ∧ ∀ j, j < 8 → A (5 + j) ≤ 9
def WX (A X : Nat → Nat) : Prop := X 0 < 2000 ∧ (∀ i, i < 8 → X (1 + i) < 2 ^ A 0 ∧ X (9 + i) ≤ 9 ∧ X (17 + i) ≤ 99 ∧ X (25 + i) < 2 ^ A 1 ∧ pc (X (25 + i)) 12 ≤ 4) ∧ (∀ r q i, r < 8 → q < 8 → bt (X (25 + r)) i = 1 → bt (X (25 + q)) i = 1 → r = q) ∧ ∀ r, A 2 ≤ r → r < 8 → X (25 + r) = 0
def WP (P : List (Nat × Nat)) : Prop := P = [] ∨ okP P 0
/-- the class's codes -/
def eC (k n : Nat) : Int32 := if k = 1 then nI n else if k = 2 then (-1) - nI n else if k = 3 then -7 else if k = 4 then -14 else if k = 5 then -15 else if k = 6 then -12 else if k = 7 then -13 else if k = 8 then -8 else if k = 9 then -9 else if k = 10 then -10 else -11
def Av (σ : Nat → Nat → Int32) (A : Nat → Nat) (P : List (Nat × Nat)) : Prop := (σ 5 0 = nI (A 0) ∧ σ 5 1 = nI (A 1) ∧ σ 5 2 = nI (A 2) ∧ σ 5 3 = nI (A 3) ∧ σ 5 4 = nI (A 4)) ∧ (∀ j, j < A 4 → σ 7 j = nI (A (5 + j))) ∧ σ 8 3 = nI P.length ∧ P.length ≤ 700 ∧ ∀ j k n, P[j]? = some (k, n) → σ 12 j = eC k n
def Mv (σ : Nat → Nat → Int32) (m : Nat) (X : Nat → Nat) : Prop := σ m 1 = nI (X 0) ∧ ∀ i, i < 8 → σ (m + 2) i = nI (X (1 + i)) ∧ σ (m + 4) i = nI (X (9 + i)) ∧ σ (m + 6) i = nI (X (17 + i)) ∧ σ (m + 8) i = nI (X (25 + i))
/-- a march m of the class is X, its army A, P -/
def CV (σ : Nat → Nat → Int32) (m : Nat) (A : Nat → Nat) (P : List (Nat × Nat)) (X : Nat → Nat) : Prop := (m = 34 ∨ m = 71) ∧ Av σ A P ∧ Mv σ m X ∧ WA A ∧ WX A X ∧ WP P
/-- what the class's rule writes -/
def Wc (q _k : Nat) : Prop := q = 10 ∨ q = 14
theorem CV_fr {σ σ' : Nat → Nat → Int32} {m : Nat} {A X : Nat → Nat} {P : List (Nat × Nat)} (cv : CV σ m A P X) (fr : Fr Wc σ σ') : CV σ' m A P X := by
  obtain ⟨hm, ⟨⟨a0, a1, a2, a3, a4⟩, am, al, ap, ac⟩, ⟨n, x⟩, r⟩ := cv
  have g : ∀ q k, q ≠ 10 → q ≠ 14 → σ' q k = σ q k := fun q k h1 h2 => fr q k (by unfold Wc; omega)
  refine ⟨hm, ⟨⟨?_, ?_, ?_, ?_, ?_⟩, ?_, ?_, ap, ?_⟩, ⟨?_, ?_⟩, r⟩
  · rw [g _ _ (by omega) (by omega)]; exact a0
  · rw [g _ _ (by omega) (by omega)]; exact a1
  · rw [g _ _ (by omega) (by omega)]; exact a2
  · rw [g _ _ (by omega) (by omega)]; exact a3
  · rw [g _ _ (by omega) (by omega)]; exact a4
  · intro j hj; rw [g _ _ (by omega) (by omega)]; exact am j hj
  · rw [g _ _ (by omega) (by omega)]; exact al
  · intro j k n hj; rw [g _ _ (by omega) (by omega)]; exact ac j k n hj
  · rw [g _ _ (by omega) (by omega)]; exact n
  · intro i hi
    rw [g _ _ (by omega) (by omega), g _ _ (by omega) (by omega), g _ _ (by omega) (by omega), g _ _ (by omega) (by omega)]
    exact x i hi
def it {α : Type} (f : Nat → α → α) (a : α) : Nat → α
  | 0 => a
  | n + 1 => f n (it f a n)
/-- the first of i, i + 1 .. (d of them) that p holds for, and 1; else 0 -/
def fi (p : Nat → Nat) : Nat → Nat → Nat
  | 0, _ => 0
  | d + 1, i => if p i = 0 then fi p d (i + 1) else i + 1
theorem fi_le (p : Nat → Nat) : ∀ d i, fi p d i ≤ i + d := by
  intro d
  induction d with
  | zero => intro i; exact Nat.zero_le _
  | succ d ih =>
    intro i
    unfold fi
    split
    · have := ih (i + 1); omega
    · omega
theorem lp_fi {S α : Type} {f : (S → Option α) → S → Option α} (st : Nat → S) (e : Nat) (p : Nat → Nat) (yes : Nat → Option α) (no : Option α) (hs : ∀ i, i < e → p i = 0 → ∀ k : S → Option α, f k (st i) = k (st (i + 1))) (hy : ∀ i, i < e → p i ≠ 0 → ∀ k : S → Option α, f k (st i) = yes i) (hx : ∀ k : S → Option α, f k (st e) = no) : ∀ (d i n : Nat), i + d = e → d < n → lp f n (st i) = if fi p d i = 0 then no else yes (fi p d i - 1) := by
  intro d
  induction d with
  | zero =>
    intro i n hi hn
    cases n with
    | zero => omega
    | succ n =>
      have hie : i = e := by omega
      subst hie
      exact hx (lp f n)
  | succ d ih =>
    intro i n hi hn
    cases n with
    | zero => omega
    | succ n =>
      show f (lp f n) (st i) = _
      unfold fi
      by_cases h : p i = 0
      · rw [hs i (by omega) h, if_pos h]
        exact ih (i + 1) n (by omega) (by omega)
      · rw [hy i (by omega) h, if_neg h, if_neg (by omega)]
        rfl
theorem ls_c {X Y : Nat → Nat} {n : Nat} (h : ∀ i, i < n → X (1 + i) = Y (1 + i) ∧ X (9 + i) = Y (9 + i)) (beat set : Nat) : ls X beat set n = ls Y beat set n := by
  induction n with
  | zero => rfl
  | succ n ih =>
    unfold ls
    rw [ih (fun i hi => h i (by omega)), (h n (by omega)).1, (h n (by omega)).2]
theorem hd_c {A X Y : Nat → Nat} {P : List (Nat × Nat)} (h : ∀ i, i < A 1 → X (1 + i) = Y (1 + i) ∧ X (9 + i) = Y (9 + i)) (ab bs mud n : Nat) : hd A P X ab bs mud n = hd A P Y ab bs mud n := by
  have h1 : ∀ beat last, hb A P X ab bs mud beat last = hb A P Y ab bs mud beat last := by
    intro beat last
    unfold hb vals
    rw [ls_c h, ls_c h]
  induction n with
  | zero => rfl
  | succ n ih => unfold hd; rw [ih, h1]
theorem nmb_c {A X Y : Nat → Nat} {n : Nat} (h : ∀ i, i < n → X (1 + i) = Y (1 + i)) (hh : Nat) : nmb A X hh n = nmb A Y hh n := by
  induction n with
  | zero => rfl
  | succ n ih => unfold nmb; rw [ih (fun i hi => h i (by omega)), h n (by omega)]
theorem tw12 {a b : Nat} (h : a < 2 ^ b) (hb : b ≤ 12) : a < 4096 := Nat.lt_of_lt_of_le h (Nat.pow_le_pow_right (n := 2) (by decide) hb)
theorem tw8 {a b : Nat} (h : a < 2 ^ b) (hb : b ≤ 8) : a < 256 := Nat.lt_of_lt_of_le h (Nat.pow_le_pow_right (n := 2) (by decide) hb)
theorem xr12 {a b : Nat} (ha : a < 4096) (hb : b < 4096) : a ^^^ b < 4096 := Nat.xor_lt_two_pow (n := 12) ha hb
theorem or8 {a b : Nat} (ha : a < 256) (hb : b < 256) : a ||| b < 256 := Nat.or_lt_two_pow (n := 8) ha hb
theorem rw1_lt {A X : Nat → Nat} (wa : WA A) (wx : WX A X) (p : Nat) : rw1 A X p < 256 := by
  unfold rw1
  split
  · omega
  · split
    · omega
    · have h := (wx.2.1 (p - 1) (by have := wa.2.2.2.1; omega)).2.2.2.1
      rw [show 25 + (p - 1) = 24 + p by omega] at h
      exact tw8 h wa.2.2.1
theorem rt_k {A X : Nat → Nat} {n k : Nat} (h0 : 0 < k) (h1 : k < 25) : rt A n X k = X k := by
  unfold rt
  rw [if_neg (by omega), if_neg (by omega)]
theorem rt_s {A X : Nat → Nat} {n r : Nat} (h : r < A 2) : rt A n X (25 + r) = X (25 + (r + n) % A 2) := by
  unfold rt
  rw [if_neg (by omega), if_pos (by omega), show 25 + r - 25 + n = r + n by omega]
theorem rt_o {A X : Nat → Nat} {n r : Nat} (h : A 2 ≤ r) : rt A n X (25 + r) = X (25 + r) := by
  unfold rt
  rw [if_neg (by omega), if_neg (by omega)]
theorem rt_W {A X : Nat → Nat} {n : Nat} (wa : WA A) (wx : WX A X) (hn : X 0 + n < 2000) : WX A (rt A n X) := by
  obtain ⟨h0, h1, h2, h3⟩ := wx
  have hR := wa.2.2.2.1
  have key : ∀ r, r < 8 → ∃ q, q < 8 ∧ rt A n X (25 + r) = X (25 + q) ∧ (r < A 2 → q = (r + n) % A 2) ∧ (A 2 ≤ r → q = r) := by
    intro r hr
    by_cases h : r < A 2
    · exact ⟨(r + n) % A 2, by have := Nat.mod_lt (r + n) (show A 2 > 0 by omega); omega, rt_s h, fun _ => rfl, fun h3 => by omega⟩
    · exact ⟨r, hr, rt_o (by omega), fun h3 => by omega, fun _ => rfl⟩
  refine ⟨hn, ?_, ?_, fun r h4 h5 => by rw [rt_o h4]; exact h3 r h4 h5⟩
  · intro i hi
    obtain ⟨a, b, c, -⟩ := h1 i hi
    obtain ⟨q, hq, e, -⟩ := key i hi
    rw [rt_k (by omega) (by omega), rt_k (by omega) (by omega), rt_k (by omega) (by omega), e]
    exact ⟨a, b, c, (h1 q hq).2.2.2⟩
  · intro r q i hr hq b1 b2
    obtain ⟨r', hr', e1, f1, g1⟩ := key r hr
    obtain ⟨q', hq', e2, f2, g2⟩ := key q hq
    rw [e1] at b1
    rw [e2] at b2
    have e := h2 r' q' i hr' hq' b1 b2
    by_cases c1 : r < A 2
    · have m1 := Nat.mod_lt (r + n) (show A 2 > 0 by omega)
      by_cases c2 : q < A 2
      · have e3 : (r + n) % A 2 = (q + n) % A 2 := by rw [← f1 c1, ← f2 c2, e]
        have m2 := Nat.div_add_mod (r + n) (A 2)
        have m3 := Nat.div_add_mod (q + n) (A 2)
        have m4 : A 2 * ((r + n) / A 2) + q = A 2 * ((q + n) / A 2) + r := by omega
        have m5 : (A 2 * ((r + n) / A 2) + q) % A 2 = (A 2 * ((q + n) / A 2) + r) % A 2 := by rw [m4]
        rw [Nat.mul_add_mod, Nat.mul_add_mod, Nat.mod_eq_of_lt c2, Nat.mod_eq_of_lt c1] at m5
        exact m5.symm
      · have := f1 c1; have := g2 (by omega); omega
    · by_cases c2 : q < A 2
      · have m1 := Nat.mod_lt (q + n) (show A 2 > 0 by omega)
        have := f2 c2; have := g1 (by omega); omega
      · have := g1 (by omega); have := g2 (by omega); omega
/-- how often one is named; who are; how many rows are right, mistaken -/
def tn (A : Nat → Nat) (P : List (Nat × Nat)) (X : Nat → Nat) (c w : Nat) : Nat → Nat := it (fun r v => v + (if na A P X r w = c then 1 else 0)) 0
def nbt (A : Nat → Nat) (P : List (Nat × Nat)) (X : Nat → Nat) (w : Nat) : Nat → Nat := it (fun r v => if na A P X r w = 0 then v else v ||| 2 ^ (na A P X r w - 1)) 0
def rr (A : Nat → Nat) (P : List (Nat × Nat)) (X : Nat → Nat) (w : Nat) : Nat → Nat := it (fun r v => if na A P X r w = 0 then v else if bt (X (25 + r)) (na A P X r w - 1) = 0 then v else v + 1) 0
def mc (A : Nat → Nat) (P : List (Nat × Nat)) (X : Nat → Nat) (w : Nat) : Nat → Nat := it (fun r v => if na A P X r w = 0 then v else if bt (X (25 + r)) (na A P X r w - 1) = 0 then v + 1 else v) 0
theorem it_le {f : Nat → Nat → Nat} {a c : Nat} (h : ∀ i v, f i v ≤ v + c) : ∀ n, it f a n ≤ a + c * n := by
  intro n
  induction n with
  | zero => exact Nat.le_add_right _ _
  | succ n ih =>
    have := h n (it f a n)
    have e : c * (n + 1) = c * n + c := Nat.mul_succ c n
    show f n (it f a n) ≤ a + c * (n + 1)
    omega
theorem ls_le {X : Nat → Nat} {beat set M : Nat} (h : ∀ i, i < M → X (9 + i) ≤ 9) : ls X beat set M ≤ 9 * M := by
  induction M with
  | zero => exact Nat.le_refl _
  | succ M ih =>
    have h1 := ih (fun i hi => h i (by omega))
    have h2 := h M (by omega)
    unfold ls
    split
    · omega
    · split <;> omega
