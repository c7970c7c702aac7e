/-! L3: loops, numbers, Cells -/
/-- a loop whose i-th state is known: from st i to st e, then fin -/
theorem lp_for {S α : Type} {f : (S → Option α) → S → Option α} (st : Nat → S) (e : Nat) (fin : Option α) (hs : ∀ i, i < e → ∀ k : S → Option α, f k (st i) = k (st (i + 1))) (hx : ∀ k : S → Option α, f k (st e) = fin) : ∀ (d i n : Nat), i + d = e → d < n → lp f n (st i) = fin := by
  intro d
  induction d with
  | zero =>
    intro i n hi hn
    cases n with
    | zero => omega
    | succ n =>
      have hie : i = e := by omega
      subst hie
      exact hx (lp f n)
  | succ d ih =>
    intro i n hi hn
    cases n with
    | zero => omega
    | succ n =>
      have h1 : lp f (n + 1) (st i) = lp f n (st (i + 1)) := hs i (by omega) (lp f n)
      rw [h1]
      exact ih (i + 1) n (by omega) (by omega)
/-- the first of x i .. x (i + d - 1) that is there, else fin -/
def fst_of {α : Type} (x : Nat → Option α) (fin : Option α) : Nat → Nat → Option α
  | 0, _ => fin
  | d + 1, i => match x i with
    | some r => some r
    | none => fst_of x fin d (i + 1)
/-- .. that may end early: x i is what it ends with in its i-th turn -/
theorem lp_find {S α : Type} {f : (S → Option α) → S → Option α} (st : Nat → S) (e : Nat) (x : Nat → Option α) (fin : Option α) (hs : ∀ i, i < e → ∀ k : S → Option α, f k (st i) = match x i with | some r => some r | none => k (st (i + 1))) (hx : ∀ k : S → Option α, f k (st e) = fin) : ∀ (d i n : Nat), i + d = e → d < n → lp f n (st i) = fst_of x fin d i := by
  intro d
  induction d with
  | zero =>
    intro i n hi hn
    cases n with
    | zero => omega
    | succ n =>
      have hie : i = e := by omega
      subst hie
      exact hx (lp f n)
  | succ d ih =>
    intro i n hi hn
    cases n with
    | zero => omega
    | succ n =>
      have h1 := hs i (by omega) (lp f n)
      show f (lp f n) (st i) = _
      rw [h1]
      unfold fst_of
      cases hxi : x i with
      | some r => rfl
      | none => exact ih (i + 1) n (by omega) (by omega)
/-- a row of numbers set -/
def sr (σ : Nat → Nat → Int32) (q : Nat) (f : Nat → Int32) : Nat → Nat → Int32 := fun q' => if q' = q then f else σ q'
theorem sr_s (σ : Nat → Nat → Int32) (q : Nat) (f : Nat → Int32) : sr σ q f q = f := if_pos rfl
theorem sr_n {σ : Nat → Nat → Int32} {q q' : Nat} {f : Nat → Int32} (h : q' ≠ q) : sr σ q f q' = σ q' := if_neg h
theorem s2_sr (σ : Nat → Nat → Int32) (q k : Nat) (v : Int32) : s2 σ q k v = sr σ q (upd (σ q) k v) := by
  funext q' k'
  unfold s2 sr upd
  by_cases h1 : q' = q
  · subst h1
    by_cases h2 : k' = k <;> simp [h2]
  · simp [h1]
theorem sr_sr (σ : Nat → Nat → Int32) (q : Nat) (f g : Nat → Int32) : sr (sr σ q f) q g = sr σ q g := by
  funext q'
  unfold sr
  by_cases h : q' = q <;> simp [h]
theorem sr_id (σ : Nat → Nat → Int32) (q : Nat) : sr σ q (σ q) = σ := by
  funext q'
  unfold sr
  by_cases h : q' = q <;> simp [h]
/-- a Cells at k, its n numbers at k + 1 -/
def isC (k n : Nat) : Prop := sh[k]? = some (.inr (2, [k + 3])) ∧ sh[k + 1]? = some (.inl (0, n)) ∧ n < 2 ^ 31
section CE
variable {σ : Nat → Nat → Int32} {w u : Int64} {k n : Nat}
theorem C_R (h : isC k n) : rd_R (mk σ w u) k 2 0 = some (k + 1) := rR (r := k + 1) h.1 rfl
theorem C_L (h : isC k n) : rd_L (mk σ w u) (k + 1) = some (nI n) := rL h.2.1
theorem C_g {β : Type} {x : Option β} (h : isC k n) : gd (mk σ w u) k 2 x = x := gdm h.1
theorem nI_in' {i n : Nat} (h : i < n) (hn : n < 2 ^ 31) : ¬ (nI i < 0 ∨ n ≤ (nI i).toNatClampNeg) := nI_in h hn
theorem C_rA {i : Nat} (h : isC k n) (hi : i < n) : rd_A (mk σ w u) 0 (k + 1) (nI i) = some (σ (k + 1) i) := by
  rw [rA h.2.1 (by decide) (nI_in' hi h.2.2), nI_clamp (by have := h.2.2; omega)]
theorem C_wA {i : Nat} {v : Int32} (h : isC k n) (hi : i < n) : wr_A (mk σ w u) (k + 1) (nI i) v = some (mk (s2 σ (k + 1) i v) w u) := by
  rw [wA h.2.1 (nI_in' hi h.2.2), nI_clamp (by have := h.2.2; omega)]
theorem C_at {i : Nat} (h : isC k n) (hi : i < n) : f_X2_at k (nI i) (mk σ w u) = some (σ (k + 1) i, mk σ w u) := by
  have hn := h.2.2
  unfold f_X2_at
  rw [C_g h, if_neg (nI_pos (by omega)), C_R h, Option.bind_some, C_L h, Option.bind_some, if_neg (nI_ge hi hn), Option.bind_some, C_rA h hi, Option.bind_some]
  rfl
theorem C_atN {x : Int32} (h : isC k n) (hx : x < 0) : f_X2_at k x (mk σ w u) = some (0, mk σ w u) := by
  unfold f_X2_at
  rw [C_g h, if_pos hx]
  rfl
theorem C_atB {i : Nat} (h : isC k n) (hi : n ≤ i) (hi2 : i < 2 ^ 31) : f_X2_at k (nI i) (mk σ w u) = some (0, mk σ w u) := by
  unfold f_X2_at
  rw [C_g h, if_neg (nI_pos hi2), C_R h, Option.bind_some, C_L h, Option.bind_some, if_pos (nI_le hi hi2)]
  rfl
theorem C_set {i : Nat} {v : Int32} (h : isC k n) (hi : i < n) : f_X2_set k (nI i) v (mk σ w u) = some (mk (s2 σ (k + 1) i v) w u) := by
  have hn := h.2.2
  unfold f_X2_set
  rw [C_g h, if_neg (nI_pos (by omega)), C_R h, Option.bind_some, C_L h, Option.bind_some, if_neg (nI_ge hi hn), Option.bind_some, C_wA h hi, Option.bind_some]
  rfl
theorem C_setN {x v : Int32} (h : isC k n) (hx : x < 0) : f_X2_set k x v (mk σ w u) = some (mk σ w u) := by
  unfold f_X2_set
  rw [C_g h, if_pos hx]
  rfl
theorem C_fill {v : Int32} (h : isC k n) (hn : n < 100000) : f_X2_fill k v (mk σ w u) = some (mk (sr σ (k + 1) (fun j => if j < n then v else σ (k + 1) j)) w u) := by
  unfold f_X2_fill
  rw [C_g h]
  unfold l_X2_fill_2
  have key := lp_for (f := fun k0 (s : Nat × Int32 × Int32 × hp_H) => f_X2_fill_2 (fun a0 a1 a2 a3 => k0 (a0, a1, a2, a3)) s.1 s.2.1 s.2.2.1 s.2.2.2)
    (st := fun i => (k, v, nI i, mk (sr σ (k + 1) (fun j => if j < i then v else σ (k + 1) j)) w u)) (e := n) (fin := some (mk (sr σ (k + 1) (fun j => if j < n then v else σ (k + 1) j)) w u)) ?_ ?_ n 0 100000 (by omega) hn
  · have e0 : (fun j => if j < 0 then v else σ (k + 1) j) = σ (k + 1) := by funext j; rw [if_neg (by omega)]
    rw [e0, sr_id] at key
    exact key
  · intro i hi k0
    dsimp only
    unfold f_X2_fill_2
    rw [C_R h, Option.bind_some, C_L h, Option.bind_some, if_neg (nI_ge hi h.2.2), Option.bind_some, C_wA h hi, Option.bind_some, nI_1]
    congr 5
    rw [s2_sr, sr_sr, sr_s]
    congr 1
    funext j
    unfold upd
    by_cases hj : j = i
    · subst hj; simp
    · by_cases hj2 : j < i
      · simp [hj, hj2, show j < i + 1 by omega]
      · simp [hj, hj2, show ¬ j < i + 1 by omega]
  · intro k0
    dsimp only
    unfold f_X2_fill_2
    rw [C_R h, Option.bind_some, C_L h, Option.bind_some, if_pos (nI_le (Nat.le_refl n) h.2.2)]
theorem C_copy {k' : Nat} (h : isC k n) (h' : isC k' n) (hne : k + 1 ≠ k' + 1) (hn : n < 100000) : f_X2_copyFrom k k' (mk σ w u) = some (mk (sr σ (k + 1) (fun j => if j < n then σ (k' + 1) j else σ (k + 1) j)) w u) := by
  unfold f_X2_copyFrom
  rw [C_g h]
  unfold l_X2_copyFrom_2
  have key := lp_for (f := fun k0 (s : Nat × Nat × Int32 × hp_H) => f_X2_copyFrom_2 (fun a0 a1 a2 a3 => k0 (a0, a1, a2, a3)) s.1 s.2.1 s.2.2.1 s.2.2.2)
    (st := fun i => (k, k', nI i, mk (sr σ (k + 1) (fun j => if j < i then σ (k' + 1) j else σ (k + 1) j)) w u)) (e := n) (fin := some (mk (sr σ (k + 1) (fun j => if j < n then σ (k' + 1) j else σ (k + 1) j)) w u)) ?_ ?_ n 0 100000 (by omega) hn
  · have e0 : (fun j => if j < 0 then σ (k' + 1) j else σ (k + 1) j) = σ (k + 1) := by funext j; rw [if_neg (by omega)]
    rw [e0, sr_id] at key
    exact key
  · intro i hi k0
    dsimp only
    unfold f_X2_copyFrom_2
    rw [C_R h, Option.bind_some, C_L h, Option.bind_some, if_neg (nI_ge hi h.2.2), C_R h', Option.bind_some, C_L h', Option.bind_some, if_neg (nI_ge hi h.2.2), Option.bind_some, Option.bind_some, C_rA h' hi, Option.bind_some, C_wA h hi, Option.bind_some, nI_1]
    congr 5
    rw [s2_sr, sr_sr, sr_s, sr_n (fun e => hne e.symm)]
    congr 1
    funext j
    unfold upd
    by_cases hj : j = i
    · subst hj; simp
    · by_cases hj2 : j < i
      · simp [hj, hj2, show j < i + 1 by omega]
      · simp [hj, hj2, show ¬ j < i + 1 by omega]
  · intro k0
    dsimp only
    unfold f_X2_copyFrom_2
    rw [C_R h, Option.bind_some, C_L h, Option.bind_some, if_pos (nI_le (Nat.le_refl n) h.2.2)]
    rfl
end CE
