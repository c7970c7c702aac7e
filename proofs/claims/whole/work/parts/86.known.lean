/-! L3: the reference's words -/
def wrd (k : Nat) : List Nat := ([[115, 117, 109], [111, 116, 104, 101, 114, 115], [109, 117, 100], [98, 101, 97, 116], [109, 97, 110, 121], [108, 97, 115, 116], [98, 101, 97, 116, 115], [109, 97, 110], [114, 111, 119], [115, 108, 97, 99, 107], [104, 101, 97, 114, 115], [97, 110, 100], [111, 114], [110, 111, 116]] : List (List Nat)).getD k []
def pf (f : Nat → Nat) : Nat → Nat := it (fun j v => v * 32 + f j) 0
theorem pf_S (f : Nat → Nat) (j : Nat) : pf f (j + 1) = pf f j * 32 + f j := rfl
theorem pf_inj {f g : Nat → Nat} : ∀ m m', (∀ j, j < m → 1 ≤ f j ∧ f j ≤ 26) → (∀ j, j < m' → 1 ≤ g j ∧ g j ≤ 26) → pf f m = pf g m' → m = m' ∧ ∀ j, j < m → f j = g j := by
  intro m
  induction m with
  | zero =>
    intro m' _ h2 e
    cases m' with
    | zero => exact ⟨rfl, fun j h => by omega⟩
    | succ m' =>
      have := h2 m' (by omega)
      rw [pf_S] at e
      have e0 : pf f 0 = 0 := rfl
      omega
  | succ m ih =>
    intro m' h1 h2 e
    cases m' with
    | zero =>
      have := h1 m (by omega)
      rw [pf_S] at e
      have e0 : pf g 0 = 0 := rfl
      omega
    | succ m' =>
      have a1 := h1 m (by omega)
      have a2 := h2 m' (by omega)
      rw [pf_S, pf_S] at e
      obtain ⟨b1, b2⟩ := ih m' (fun j h => h1 j (by omega)) (fun j h => h2 j (by omega)) (by omega)
      refine ⟨by omega, fun j hj => ?_⟩
      by_cases c : j = m
      · subst c
        have : m' = j := by omega
        subst this
        omega
      · exact b2 j (by omega)
theorem pf_lt {f : Nat → Nat} : ∀ m, (∀ j, j < m → f j ≤ 26) → pf f m < 32 ^ m := by
  intro m
  induction m with
  | zero => intro _; exact Nat.one_pos
  | succ m ih =>
    intro h
    have h1 := ih (fun j hj => h j (by omega))
    have h2 := h m (by omega)
    rw [pf_S, Nat.pow_succ]
    omega
theorem sh5 {a b : Nat} (ha : a < 2 ^ 40) (hb : b < 32) : ((Int64.ofNat a) <<< (Int32.toInt64 5 &&& 63)) ||| Int64.ofNat b = Int64.ofNat (a * 32 + b) := by
  apply Int64.toBitVec_inj.mp
  rw [Int64.toBitVec_or, Int64.toBitVec_shiftLeft]
  have e : (Int32.toInt64 5 &&& 63).toBitVec.smod 64 = 5#64 := by decide
  rw [e]
  show (BitVec.ofNat 64 a <<< (5#64)) ||| BitVec.ofNat 64 b = BitVec.ofNat 64 (a * 32 + b)
  apply BitVec.eq_of_toNat_eq
  rw [BitVec.toNat_or, BitVec.toNat_ofNat, BitVec.toNat_ofNat]
  have e2 : (BitVec.ofNat 64 a <<< (5#64)).toNat = a <<< 5 := by
    show (BitVec.ofNat 64 a <<< (5#64).toNat).toNat = _
    rw [BitVec.toNat_shiftLeft, BitVec.toNat_ofNat, Nat.mod_eq_of_lt (show a < 2 ^ 64 by omega), show (5#64).toNat = 5 from rfl, Nat.mod_eq_of_lt (show a <<< 5 < 2 ^ 64 by rw [Nat.shiftLeft_eq]; omega)]
  rw [e2, Nat.mod_eq_of_lt (show b < 2 ^ 64 by omega), ← Nat.shiftLeft_add_eq_or_of_lt hb a, Nat.shiftLeft_eq, Nat.mod_eq_of_lt (by omega)]
theorem b96 {b : Nat} (h1 : 97 ≤ b) (h2 : b ≤ 122) : Int32.toInt64 (nI b - 96) = Int64.ofNat (b - 96) := by
  have h : ∀ c, c < 123 → 97 ≤ c → Int32.toInt64 (nI c - 96) = Int64.ofNat (c - 96) := by decide
  exact h b (by omega) h1
/-- the packed word, as a number -/
theorem wd_pf {T : Nat → Nat} {s : Nat} : ∀ m, m ≤ 6 → (∀ j, j < m → 97 ≤ T (s + j) ∧ T (s + j) ≤ 122) → wd T s m = Int64.ofNat (pf (fun j => T (s + j) - 96) m) := by
  intro m
  induction m with
  | zero => intro _ _; rfl
  | succ m ih =>
    intro hm h
    have h1 := h m (by omega)
    have hl := pf_lt (f := fun j => T (s + j) - 96) m (fun j hj => by have := h j (by omega); omega)
    have h6 : 32 ^ m ≤ 32 ^ 6 := Nat.pow_le_pow_right (by decide) (by omega)
    show (if m < 6 then ((wd T s m) <<< (Int32.toInt64 5 &&& 63)) ||| Int32.toInt64 (nI (T (s + m)) - 96) else wd T s m) = _
    rw [if_pos (by omega), ih (by omega) (fun j hj => h j (by omega)), b96 h1.1 h1.2, sh5 (by omega) (by omega)]
    rfl
