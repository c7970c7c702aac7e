/-! L3: numbers: bits and counts of them -/
theorem nI_31 : ∀ i, i < 32 → ((nI i &&& 31).toBitVec.smod 32).toNat = i := by decide +kernel
theorem shr_nI {a i : Nat} (ha : a < 2 ^ 31) (hi : i < 32) : nI a >>> (nI i &&& 31) = nI (a / 2 ^ i) := pk_shrN ha (nI i &&& 31) i (nI_31 i hi)
theorem shl_nI {a i : Nat} (hi : i < 32) (h : a * 2 ^ i < 2 ^ 32) : nI a <<< (nI i &&& 31) = nI (a * 2 ^ i) := pk_shlN (nI i &&& 31) i (nI_31 i hi) h
theorem and1_nI {a : Nat} (ha : a < 2 ^ 32) : nI a &&& 1 = nI (a % 2) := by
  have h := pk_andN ha (m := 1) 1 (by decide)
  exact h
theorem nI_inj {a b : Nat} (ha : a < 2 ^ 31) (hb : b < 2 ^ 31) (h : nI a = nI b) : a = b := (nI_eq ha hb).mp h
/-- bit i of a -/
def bt (a i : Nat) : Nat := a / 2 ^ i % 2
theorem bt_lt (a i : Nat) : bt a i < 2 := Nat.mod_lt _ (by decide)
theorem bit_nI {a i : Nat} (ha : a < 2 ^ 31) (hi : i < 32) : (nI a >>> (nI i &&& 31)) &&& 1 = nI (bt a i) := by
  rw [shr_nI ha hi, and1_nI]
  · rfl
  · have := Nat.div_le_self a (2 ^ i); omega
/-- how many of the lowest n bits of a are set -/
def pc (a : Nat) : Nat → Nat
  | 0 => 0
  | n + 1 => pc a n + bt a n
def bc (x : Int32) : Int32 := match f_J6_bitCount_0f7a4 x [] with
  | some r => r.1
  | none => 0
theorem bitCount_f (x : Int32) (h : hp_H) : f_J6_bitCount_0f7a4 x h = some (bc x, h) := rfl
theorem bc_64 : ∀ p, p < 64 → ∀ q, q < 64 → bc (nI (64 * p + q)) = nI (pc (64 * p + q) 12) := by decide +kernel
theorem bc_nI {a : Nat} (ha : a < 4096) : bc (nI a) = nI (pc a 12) := by
  have h := bc_64 (a / 64) (by omega) (a % 64) (by omega)
  rw [Nat.div_add_mod] at h
  exact h
theorem pc_le (a n : Nat) : pc a n ≤ n := by
  induction n with
  | zero => exact Nat.le_refl _
  | succ n ih => have := bt_lt a n; show pc a n + bt a n ≤ n + 1; omega
/-- the reference's own count -/
theorem bits_f {a : Nat} (ha : a < 2 ^ 31) (h : hp_H) : f_X11_bits (nI a) h = some (nI (pc a 12), h) := by
  unfold f_X11_bits l_X11_bits_4
  refine lp_for (f := fun k0 (s : Int32 × Int32 × Int32 × hp_H) => f_X11_bits_4 (fun a0 a1 a2 a3 => k0 (a0, a1, a2, a3)) s.1 s.2.1 s.2.2.1 s.2.2.2)
    (st := fun i => (nI a, nI (pc a i), nI i, h)) (e := 12) (fin := some (nI (pc a 12), h)) ?_ ?_ 12 0 100000 (by omega) (by omega)
  · intro i hi k0
    dsimp only
    unfold f_X11_bits_4
    rw [if_neg (show ¬ (12 : Int32) ≤ nI i from nI_ge hi (by decide)), bit_nI ha (by omega), nI_add, nI_1]
    rfl
  · intro k0
    dsimp only
    unfold f_X11_bits_4
    rw [if_pos (show (12 : Int32) ≤ nI 12 from nI_le (Nat.le_refl 12) (by decide))]
    rfl
theorem holds_f {a i : Nat} (ha : a < 2 ^ 31) (hi : i < 32) (h : hp_H) : f_X10_holds (nI a) (nI i) h = some (nI (bt a i), h) := by
  unfold f_X10_holds
  rw [bit_nI ha hi]
  have h2 := bt_lt a i
  rcases (show bt a i = 0 ∨ bt a i = 1 by omega) with e | e <;> rw [e] <;> rfl
