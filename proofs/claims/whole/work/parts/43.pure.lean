/-! L3: nights one by one, and what both ways of counting have in common -/
def ny (A : Nat → Nat) (P : List (Nat × Nat)) (wf : Nat → Nat) (X : Nat → Nat) : Nat → (Nat → Nat) := it (fun k Y => ng A P (wf k) Y) X
def hsw (A : Nat → Nat) (P : List (Nat × Nat)) (X : Nat → Nat) (wf : Nat → Nat) (man : Nat) : Nat → Nat := it (fun i v => v + tn A P (rt A i X) (man + 1) (wf i) (A 2)) (X (17 + man))
theorem ny_S (A : Nat → Nat) (P : List (Nat × Nat)) (wf : Nat → Nat) (X : Nat → Nat) (k : Nat) : ny A P wf X (k + 1) = ng A P (wf k) (ny A P wf X k) := rfl
theorem hsw_S (A : Nat → Nat) (P : List (Nat × Nat)) (X : Nat → Nat) (wf : Nat → Nat) (man k : Nat) : hsw A P X wf man (k + 1) = hsw A P X wf man k + tn A P (rt A k X) (man + 1) (wf k) (A 2) := rfl
theorem hsw_hs (A : Nat → Nat) (P : List (Nat × Nat)) (X : Nat → Nat) (man k : Nat) : hsw A P X (fun i => mq A (X 0 + i)) man k = hs A P X man k := rfl
section NY
variable {A X Z : Nat → Nat} {P : List (Nat × Nat)} {w m : Nat} {wf : Nat → Nat}
theorem ng_0 : ng A P w Z 0 = Z 0 + 1 := by
  unfold ng rt
  rw [if_pos rfl, hu_k (by omega)]
theorem ng_q : hq (ng A P w Z) (rt A 1 Z) := rt_h 1 (hu_q A P Z w (A 2) Z)
theorem ng_h (hm : m < 8) : ng A P w Z (17 + m) = min 99 (Z (17 + m) + tn A P Z (m + 1) w (A 2)) := by
  unfold ng
  rw [rt_k (by omega) (by omega), hu_h hm]
theorem ny_0 (k : Nat) : ny A P wf X k 0 = X 0 + k := by
  induction k with
  | zero => rfl
  | succ k ih => rw [ny_S, ng_0, ih]; rfl
theorem ny_q (k : Nat) : hq (ny A P wf X k) (rt A k X) := by
  induction k with
  | zero => rw [rt_0]; exact hq_r _
  | succ k ih =>
    have h := hq_t (ng_q (A := A) (P := P) (w := wf k) (Z := ny A P wf X k)) (rt_h (A := A) 1 ih)
    rw [rt_rt, Nat.add_comm 1 k] at h
    exact h
theorem ny_h (hM : A 1 ≤ 8) (hm : m < 8) (h9 : X (17 + m) ≤ 99) (k : Nat) : ny A P wf X k (17 + m) = min 99 (hsw A P X wf m k) := by
  induction k with
  | zero =>
    show X (17 + m) = min 99 (X (17 + m))
    omega
  | succ k ih =>
    rw [ny_S, ng_h hm, ih, tn_c hM (ny_q k), hsw_S]
    omega
theorem ny_W (wa : WA A) (wx : WX A X) (k : Nat) (hk : X 0 + k < 2000) : WX A (ny A P wf X k) := by
  induction k with
  | zero => exact wx
  | succ k ih => exact ng_W wa (ih (by omega)) (by have h := ny_0 (A := A) (P := P) (wf := wf) (X := X) k; unfold ny at h; rw [h]; omega)
theorem nbt_tn (n m : Nat) : bt (nbt A P Z w n) m = 1 ↔ tn A P Z (m + 1) w n ≠ 0 := by
  induction n with
  | zero => constructor
            · intro h
              rw [bt_1] at h
              have e : nbt A P Z w 0 = 0 := rfl
              rw [e] at h
              simp at h
            · intro h
              exact absurd rfl h
  | succ n ih =>
    rw [nbt_S, tn_S]
    by_cases h0 : na A P Z n w = 0
    · rw [if_pos h0, if_neg (by omega), Nat.add_zero]
      exact ih
    · rw [if_neg h0, bt_1, Nat.testBit_or, Nat.testBit_two_pow]
      rw [bt_1] at ih
      by_cases h1 : na A P Z n w = m + 1
      · rw [if_pos h1]
        simp [show na A P Z n w - 1 = m by omega]
      · rw [if_neg h1, Nat.add_zero, ← ih]
        simp [show ¬ na A P Z n w - 1 = m by omega]
theorem nbt_lt {n : Nat} (hS : A 3 ≤ 12) : nbt A P Z w n < 2 ^ A 1 := by
  induction n with
  | zero => exact Nat.two_pow_pos _
  | succ n ih =>
    rw [nbt_S]
    have h := na_le A P Z n w hS
    split
    · exact ih
    · exact Nat.or_lt_two_pow ih (Nat.pow_lt_pow_right (by decide) (by omega))
theorem it_add {g : Nat → Nat} (a n : Nat) : it (fun i v => v + g i) a n = a + it (fun i v => v + g i) 0 n := by
  induction n with
  | zero => rfl
  | succ n ih => rw [it_S, it_S, ih]; omega
theorem it_add2 {g h : Nat → Nat} (n : Nat) : it (fun i v => v + (g i + h i)) 0 n = it (fun i v => v + g i) 0 n + it (fun i v => v + h i) 0 n := by
  induction n with
  | zero => rfl
  | succ n ih => rw [it_S, it_S, it_S, ih]; omega
theorem it_tri (F : Nat → Nat → Nat) (R : Nat) : it (fun p v => v + it (fun j v => v + F (p + 1 + j) p) 0 (R - (p + 1))) 0 R = it (fun r v => v + it (fun q v => v + F r q) 0 r) 0 R := by
  induction R with
  | zero => rfl
  | succ R ih =>
    rw [it_S, it_S, ← ih, show R + 1 - (R + 1) = 0 by omega]
    show it _ 0 R + 0 = _
    rw [Nat.add_zero, ← it_add2]
    apply it_c
    intro p hp v
    rw [show R + 1 - (p + 1) = R - (p + 1) + 1 by omega, it_S, show p + 1 + (R - (p + 1)) = R by omega]
end NY
theorem fi_0 (p : Nat → Nat) : ∀ d i, fi p d i = 0 ↔ ∀ j, i ≤ j → j < i + d → p j = 0 := by
  intro d
  induction d with
  | zero => intro i; exact ⟨fun _ j h1 h2 => by omega, fun _ => rfl⟩
  | succ d ih =>
    intro i
    unfold fi
    by_cases h : p i = 0
    · rw [if_pos h, ih]
      constructor
      · intro h2 j h3 h4
        by_cases hj : j = i
        · rw [hj]; exact h
        · exact h2 j (by omega) (by omega)
      · intro h2 j h3 h4
        exact h2 j (by omega) (by omega)
    · rw [if_neg h]
      constructor
      · intro h2; omega
      · intro h2; exact absurd (h2 i (by omega) (by omega)) h
theorem fi_S (p : Nat → Nat) : ∀ d i j, fi p d i = j + 1 → i ≤ j ∧ j < i + d ∧ p j ≠ 0 ∧ ∀ k, i ≤ k → k < j → p k = 0 := by
  intro d
  induction d with
  | zero => intro i j h; exact absurd h (by unfold fi; omega)
  | succ d ih =>
    intro i j h
    unfold fi at h
    by_cases h0 : p i = 0
    · rw [if_pos h0] at h
      obtain ⟨h1, h2, h3, h4⟩ := ih (i + 1) j h
      refine ⟨by omega, by omega, h3, fun k h5 h6 => ?_⟩
      by_cases hk : k = i
      · rw [hk]; exact h0
      · exact h4 k (by omega) h6
    · rw [if_neg h0] at h
      have e : i = j := by omega
      subst e
      exact ⟨by omega, by omega, h0, fun k h5 h6 => by omega⟩
theorem fi_c {p q : Nat → Nat} (h : ∀ i, p i = 0 ↔ q i = 0) : ∀ d i, fi p d i = fi q d i := by
  intro d
  induction d with
  | zero => intro i; rfl
  | succ d ih =>
    intro i
    unfold fi
    by_cases h0 : p i = 0
    · rw [if_pos h0, if_pos ((h i).mp h0), ih]
    · rw [if_neg h0, if_neg (fun e => h0 ((h i).mpr e))]
theorem ro_0 {A X : Nat → Nat} {m : Nat} : ro A X m = 0 ↔ ∀ r, r < A 2 → bt (X (25 + r)) m = 0 := by
  unfold ro
  rw [fi_0]
  exact ⟨fun h r hr => h r (by omega) (by omega), fun h r _ hr => h r (by omega)⟩
theorem ro_le (A X : Nat → Nat) (m : Nat) : ro A X m ≤ A 2 := by
  have := fi_le (fun r => bt (X (25 + r)) m) (A 2) 0
  unfold ro
  omega
