/-! L3: armies and marches as numbers -/
theorem lp_inv {S α : Type} {f : (S → Option α) → S → Option α} (I : Nat → S → Prop) (e : Nat) (Q : α → Prop) (hs : ∀ i, i < e → ∀ s, I i s → ∃ s', I (i + 1) s' ∧ ∀ k : S → Option α, f k s = k s') (hx : ∀ s, I e s → ∃ r, Q r ∧ ∀ k : S → Option α, f k s = some r) : ∀ (d i n : Nat) (s : S), i + d = e → d < n → I i s → ∃ r, lp f n s = some r ∧ Q r := by
  intro d
  induction d with
  | zero =>
    intro i n s hi hn hI
    cases n with
    | zero => omega
    | succ n =>
      have hie : i = e := by omega
      subst hie
      obtain ⟨r, h1, h2⟩ := hx s hI
      exact ⟨r, h2 (lp f n), h1⟩
  | succ d ih =>
    intro i n s hi hn hI
    cases n with
    | zero => omega
    | succ n =>
      obtain ⟨s', h1, h2⟩ := hs i (by omega) s hI
      obtain ⟨r, h3, h4⟩ := ih (i + 1) n s' (by omega) (by omega) h1
      exact ⟨r, (h2 (lp f n)).trans h3, h4⟩
/-- an Army at a: its rule at a + 3 -/
def isA (a : Nat) : Prop := sh[a]? = some (.inr (1, [0, 0, 0, 0, 0, a + 3, a + 5])) ∧ isC (a + 1) 8 ∧ sh[a + 3]? = some (.inr (6, [a + 6, a + 8, a + 10, 0])) ∧ isC (a + 4) 64 ∧ isC (a + 6) 700 ∧ isC (a + 8) 6
/-- a March at m of the Army at a -/
def isM (m a : Nat) : Prop := sh[m]? = some (.inr (3, [a + 2, 0, m + 3, m + 5, m + 7, m + 9])) ∧ isC (m + 1) 8 ∧ isC (m + 3) 8 ∧ isC (m + 5) 8 ∧ isC (m + 7) 8 ∧ isA a
theorem isM_34 : isM 34 5 := by decide +kernel
theorem isM_62 : isM 62 5 := by decide +kernel
theorem isM_71 : isM 71 5 := by decide +kernel
theorem isM_91 : isM 91 81 := by decide +kernel
/-- what an army's cells say: beats, men, rows, slack, numbers of mud -/
def Av (σ : Nat → Nat → Int32) (a B M R S nm : Nat) (mud : Nat → Nat) : Prop := (σ a 0 = nI B ∧ σ a 1 = nI M ∧ σ a 2 = nI R ∧ σ a 3 = nI S ∧ σ a 4 = nI nm) ∧ (∀ j, j < nm → σ (a + 2) j = nI (mud j) ∧ mud j ≤ 9) ∧ (4 ≤ B ∧ B ≤ 12) ∧ M ≤ 8 ∧ R ≤ 8 ∧ S ≤ 12 ∧ nm ≤ 8
/-- what a march's cells say: the night, treads, louds, honours, rows (bits) -/
def Mv (σ : Nat → Nat → Int32) (m B M R N : Nat) (t l o s : Nat → Nat) : Prop := (σ m 1 = nI N ∧ N ≤ 1100) ∧ (∀ i, i < M → (σ (m + 2) i = nI (t i) ∧ t i < 2 ^ B) ∧ (σ (m + 4) i = nI (l i) ∧ l i ≤ 9) ∧ σ (m + 6) i = nI (o i) ∧ o i ≤ 99) ∧ (∀ r, r < R → σ (m + 8) r = nI (s r) ∧ s r < 2 ^ M) ∧ ∀ r r' i, r < R → r' < R → bt (s r) i = 1 → bt (s r') i = 1 → r = r'
/-- how loud the MEN of a set are together on a beat -/
def lsum (t l : Nat → Nat) (beat set : Nat) : Nat → Nat
  | 0 => 0
  | i + 1 => lsum t l beat set i + (if bt set i = 0 then 0 else if bt (t i) beat = 0 then 0 else l i)
section MA
variable {σ : Nat → Nat → Int32} {w u : Int64} {m a B M R S nm N : Nat} {mud t l o s : Nat → Nat}
theorem M_a (hm : isM m a) : rd_R (mk σ w u) m 3 0 = some a := rR hm.1 rfl
theorem M_n (hm : isM m a) : rd_I (mk σ w u) m 3 1 = some (σ m 1) := rI hm.1 rfl
theorem M_t (hm : isM m a) : rd_R (mk σ w u) m 3 2 = some (m + 1) := rR hm.1 rfl
theorem M_l (hm : isM m a) : rd_R (mk σ w u) m 3 3 = some (m + 3) := rR hm.1 rfl
theorem M_o (hm : isM m a) : rd_R (mk σ w u) m 3 4 = some (m + 5) := rR hm.1 rfl
theorem M_s (hm : isM m a) : rd_R (mk σ w u) m 3 5 = some (m + 7) := rR hm.1 rfl
theorem M_g {β : Type} {x : Option β} (hm : isM m a) : gd (mk σ w u) m 3 x = x := gdm hm.1
theorem A_I {k : Nat} (ha : isA a) (hk : k < 5) : rd_I (mk σ w u) a 1 k = some (σ a k) := by
  refine rI ha.1 ?_
  match k, hk with
  | 0, _ => rfl
  | 1, _ => rfl
  | 2, _ => rfl
  | 3, _ => rfl
  | 4, _ => rfl
theorem A_g {β : Type} {x : Option β} (ha : isA a) : gd (mk σ w u) a 1 x = x := gdm ha.1
theorem lsum_le {beat set : Nat} (h : ∀ i, i < M → l i ≤ 9) : lsum t l beat set M ≤ 9 * M := by
  induction M with
  | zero => exact Nat.le_refl _
  | succ M ih =>
    have h1 := ih (fun i hi => h i (by omega))
    have h2 := h M (by omega)
    unfold lsum
    split
    · omega
    · split <;> omega
theorem loudAt_f (hm : isM m a) (hA : Av σ a B M R S nm mud) (hM : Mv σ m B M R N t l o s) {beat set : Nat} (hb : beat < 32) (hs : set < 2 ^ 31) : f_X3_loudAt m (nI beat) (nI set) (mk σ w u) = some (nI (lsum t l beat set M), mk σ w u) := by
  have hM8 : M ≤ 8 := hA.2.2.2.1
  unfold f_X3_loudAt
  rw [M_g hm]
  unfold l_X3_loudAt_5
  refine lp_for (f := fun k0 (s : Nat × Int32 × Int32 × Int32 × Int32 × hp_H) => f_X3_loudAt_5 (fun a0 a1 a2 a3 a4 a5 => k0 (a0, a1, a2, a3, a4, a5)) s.1 s.2.1 s.2.2.1 s.2.2.2.1 s.2.2.2.2.1 s.2.2.2.2.2)
    (st := fun i => (m, nI beat, nI set, nI (lsum t l beat set i), nI i, mk σ w u)) (e := M) (fin := some (nI (lsum t l beat set M), mk σ w u)) ?_ ?_ M 0 100000 (by omega) (by omega)
  · intro i hi k0
    dsimp only
    obtain ⟨⟨ht, ht2⟩, ⟨hl, hl2⟩, -⟩ := hM.2.1 i hi
    have ht3 : t i < 2 ^ 31 := Nat.lt_of_lt_of_le ht2 (Nat.pow_le_pow_right (by decide) (by have := hA.2.2.1.2; omega))
    unfold f_X3_loudAt_5
    rw [M_a hm, Option.bind_some, A_I hm.2.2.2.2.2 (by decide), Option.bind_some, hA.1.2.1, if_neg (nI_ge hi (by omega)), holds_f hs (by omega), Option.bind_some]
    dsimp only
    unfold f_X3_loudAt_54
    have e1 : lsum t l beat set (i + 1) = lsum t l beat set i + (if bt set i = 0 then 0 else if bt (t i) beat = 0 then 0 else l i) := rfl
    rw [e1]
    by_cases h1 : bt set i = 0
    · rw [if_pos (show nI (bt set i) = 0 by rw [h1]; rfl), if_pos h1, nI_1]
      rfl
    · rw [if_neg (nI_ne0 (by omega) (by have := bt_lt set i; omega)), if_neg h1, M_t hm, Option.bind_some, C_at hm.2.1 (by omega), Option.bind_some, ht, holds_f ht3 hb, Option.bind_some]
      dsimp only
      by_cases h2 : bt (t i) beat = 0
      · rw [if_pos (show nI (bt (t i) beat) = 0 by rw [h2]; rfl), if_pos h2, nI_1]
        rfl
      · rw [if_neg (nI_ne0 (by omega) (by have := bt_lt (t i) beat; omega)), if_neg h2, M_l hm, Option.bind_some, C_at hm.2.2.1 (by omega), Option.bind_some, hl, nI_add, nI_1]
  · intro k0
    dsimp only
    unfold f_X3_loudAt_5
    rw [M_a hm, Option.bind_some, A_I hm.2.2.2.2.2 (by decide), Option.bind_some, hA.1.2.1, if_pos (nI_le (Nat.le_refl M) (by omega))]
    rfl
/-- the mud of a night -/
def mudS (nm : Nat) (mud : Nat → Nat) (n : Nat) : Nat := if nm = 0 then 2 else mud (n % nm)
theorem mudIn_f (hm : isM m a) (hA : Av σ a B M R S nm mud) (hM : Mv σ m B M R N t l o s) {n : Nat} (hn : n ≤ 1000) : f_X3_mudIn m (nI n) (mk σ w u) = some (nI (mudS nm mud (N + n)), mk σ w u) := by
  have hN := hM.1.2
  unfold f_X3_mudIn
  rw [M_g hm, M_a hm, Option.bind_some, M_n hm, Option.bind_some, hM.1.1, nI_add]
  unfold f_X1_mudOf
  rw [A_g hm.2.2.2.2.2, A_I hm.2.2.2.2.2 (by decide), Option.bind_some, hA.1.2.2.2.2]
  unfold mudS
  by_cases h0 : nm = 0
  · rw [if_neg (by rw [h0]; decide), if_pos h0]
    rfl
  · have hpos : (0 : Int32) < nI nm := nI_lt (a := 0) (by omega) (by have := hA.2.2.2.2.2.2; omega)
    have hnm : nm ≤ 8 := hA.2.2.2.2.2.2
    have hlt : (N + n) % nm < nm := Nat.mod_lt _ (by omega)
    rw [if_pos hpos, if_neg h0, rR (r := a + 1) hm.2.2.2.2.2.1 rfl, Option.bind_some, Option.bind_some]
    unfold hp_rem
    rw [if_neg (nI_ne0 (by omega) (by omega)), Option.bind_some, pk_rem (by omega) (by omega) (by omega), C_at hm.2.2.2.2.2.2.1 (by omega), Option.bind_some, (hA.2.1 _ hlt).1]
    rfl
/-- the MEN at a place in so many nights -/
def menS (R : Nat) (s : Nat → Nat) (n p : Nat) : Nat := s ((p + n) % R)
theorem menAt_f (hm : isM m a) (hA : Av σ a B M R S nm mud) (hM : Mv σ m B M R N t l o s) {n p : Nat} (hn : n ≤ 1000) (hp : p < R) : f_X3_menAt m (nI p) (nI n) (mk σ w u) = some (nI (menS R s n p), mk σ w u) := by
  have hR : R ≤ 8 := hA.2.2.2.2.1
  have hlt : (p + n) % R < R := Nat.mod_lt _ (by omega)
  unfold f_X3_menAt
  rw [M_g hm, if_neg (nI_pos (by omega)), M_a hm, Option.bind_some, A_I hm.2.2.2.2.2 (by decide), Option.bind_some, hA.1.2.2.1, if_pos (nI_lt hp (by omega)), M_s hm, Option.bind_some, Option.bind_some, Option.bind_some, nI_add]
  unfold hp_rem
  rw [if_neg (nI_ne0 (by omega) (by omega)), Option.bind_some, pk_rem (by omega) (by omega) (by omega), C_at hm.2.2.2.2.1 (by omega), Option.bind_some, (hM.2.2.1 _ hlt).1]
  rfl
theorem menAt_out (hm : isM m a) (hA : Av σ a B M R S nm mud) {x n : Int32} (hx : x < 0 ∨ nI R ≤ x) : f_X3_menAt m x n (mk σ w u) = some (0, mk σ w u) := by
  unfold f_X3_menAt
  rw [M_g hm]
  by_cases h : x < 0
  · rw [if_pos h]
    rfl
  · have hx2 : nI R ≤ x := by
      rcases hx with q | q
      · exact absurd q h
      · exact q
    rw [if_neg h, M_a hm, Option.bind_some, A_I hm.2.2.2.2.2 (by decide), Option.bind_some, hA.1.2.2.1, if_neg (Int32.not_lt.mpr hx2)]
    rfl
end MA
