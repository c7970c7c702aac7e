/-! L3: observers of treads and sets -/
def ne2 (X : Nat → Nat) (i : Nat) (s : Nat × Nat) : Nat → Nat × Nat := it (fun j s => if s.1 ≤ fa X i (i + 1 + j) then s else (fa X i (i + 1 + j), 10 * i + (i + 1 + j) + 1)) s
def ne1 (X : Nat → Nat) (M : Nat) : Nat → Nat × Nat := it (fun i s => ne2 X i s (M - (i + 1))) (13, 0)
def neK (s : Nat × Nat) : Prop := (s.2 = 0 → s.1 = 13) ∧ s.1 ≤ 13 ∧ s.2 ≤ 1000
theorem fa_le (X : Nat → Nat) (a b : Nat) : fa X a b ≤ 12 := pc_le _ 12
theorem ne2_S (X : Nat → Nat) (i : Nat) (s : Nat × Nat) (j : Nat) : ne2 X i s (j + 1) = if (ne2 X i s j).1 ≤ fa X i (i + 1 + j) then ne2 X i s j else (fa X i (i + 1 + j), 10 * i + (i + 1 + j) + 1) := rfl
theorem ne2_K {X : Nat → Nat} {i n : Nat} {s : Nat × Nat} (h : neK s) (hi : i < 8) (hn : n ≤ 8) : neK (ne2 X i s n) := by
  induction n with
  | zero => exact h
  | succ n ih =>
    have h2 := ih (by omega)
    have h3 := fa_le X i (i + 1 + n)
    rw [ne2_S]
    split
    · exact h2
    · exact ⟨fun e => by dsimp only at e; omega, by dsimp only; omega, by dsimp only; omega⟩
theorem ne1_K {X : Nat → Nat} {M n : Nat} (hM : M ≤ 8) (hn : n ≤ M) : neK (ne1 X M n) := by
  induction n with
  | zero => exact ⟨fun _ => rfl, Nat.le_refl _, Nat.zero_le _⟩
  | succ n ih => exact ne2_K (ih (by omega)) (by omega) (by omega)
def ne3 (s : Nat × Nat) : Nat := if s.2 = 0 then 99999 else s.1
noncomputable def tz (X : Nat → Nat) (M set beats : Nat) : Nat := @ite Nat (ta X M set beats) (Classical.propDecidable _) 1 0
theorem tz_1 {X : Nat → Nat} {M set beats : Nat} (h : ta X M set beats) : tz X M set beats = 1 := by unfold tz; rw [if_pos h]
theorem tz_0 {X : Nat → Nat} {M set beats : Nat} (h : ¬ ta X M set beats) : tz X M set beats = 0 := by unfold tz; rw [if_neg h]
noncomputable def ap (X : Nat → Nat) (M beats : Nat) : Nat → Nat := it (fun set best => if pc set 12 ≤ pc best 12 then best else if tz X M set beats = 0 then best else set) 0
theorem ap_S (X : Nat → Nat) (M beats n : Nat) : ap X M beats (n + 1) = if pc n 12 ≤ pc (ap X M beats n) 12 then ap X M beats n else if tz X M n beats = 0 then ap X M beats n else n := rfl
theorem ap_le (X : Nat → Nat) (M beats : Nat) : ∀ n, ap X M beats n ≤ n := by
  intro n
  induction n with
  | zero => exact Nat.le_refl _
  | succ n ih =>
    rw [ap_S]
    split
    · omega
    · split <;> omega
theorem ap_1 (X : Nat → Nat) (M beats : Nat) : ap X M beats 1 = 0 := by rw [ap_S]; exact if_pos (Nat.le_refl _)
theorem fa_s (X : Nat → Nat) (a b : Nat) : fa X a b = fa X b a := by unfold fa; rw [Nat.xor_comm]
def trd (X : Nat → Nat) (M : Nat) : Nat → Nat × Nat := it (fun t s => if lf X t M + 1 ≤ s.2 then s else (t, lf X t M + 1)) (0, 0)
theorem trd_S (X : Nat → Nat) (M t : Nat) : trd X M (t + 1) = if lf X t M + 1 ≤ (trd X M t).2 then trd X M t else (t, lf X t M + 1) := rfl
theorem trd_le (X : Nat → Nat) (M : Nat) : ∀ n, (trd X M n).1 ≤ n ∧ (trd X M n).2 ≤ 14 := by
  intro n
  induction n with
  | zero => exact ⟨Nat.le_refl _, Nat.zero_le _⟩
  | succ n ih =>
    have h := lf_le X n M
    rw [trd_S]
    split
    · omega
    · exact ⟨by dsimp only; omega, by dsimp only; omega⟩
def alk (X : Nat → Nat) (v l : Nat) : Nat → Nat := it (fun i b => if pc (X (1 + i) ^^^ v) 12 = l then b ||| 2 ^ i else b) 0
theorem alk_S (X : Nat → Nat) (v l i : Nat) : alk X v l (i + 1) = if pc (X (1 + i) ^^^ v) 12 = l then alk X v l i ||| 2 ^ i else alk X v l i := rfl
theorem lf_S (X : Nat → Nat) (v i : Nat) : lf X v (i + 1) = min (lf X v i) (pc (X (1 + i) ^^^ v) 12) := rfl
theorem lf_min (X : Nat → Nat) (v : Nat) : ∀ n k, k < n → lf X v n ≤ pc (X (1 + k) ^^^ v) 12 := by
  intro n
  induction n with
  | zero => intro k hk; omega
  | succ n ih =>
    intro k hk
    rw [lf_S]
    by_cases h : k = n
    · rw [h]; exact Nat.min_le_right _ _
    · exact Nat.le_trans (Nat.min_le_left _ _) (ih k (by omega))
theorem alk_0 {X : Nat → Nat} {v l n : Nat} (h : ∀ k, k < n → pc (X (1 + k) ^^^ v) 12 ≠ l) : alk X v l n = 0 := by
  induction n with
  | zero => rfl
  | succ n ih => rw [alk_S, if_neg (h n (by omega)), ih (fun k hk => h k (by omega))]
def lf9 (X : Nat → Nat) (v i : Nat) : Nat := if i = 0 then 99999 else lf X v i
theorem lf9_S (X : Nat → Nat) (v i : Nat) : lf9 X v (i + 1) = min (lf9 X v i) (pc (X (1 + i) ^^^ v) 12) := by
  have h := pc_le (X (1 + i) ^^^ v) 12
  unfold lf9
  rw [if_neg (by omega), lf_S]
  by_cases h0 : i = 0
  · rw [if_pos h0, h0]
    show min 13 _ = _
    rw [h0] at h
    omega
  · rw [if_neg h0]
def stp (X : Nat → Nat) (M : Nat) : Nat → Nat := it (fun set best => if pc best 12 ≤ pc set 12 then best else if tt X set M = tt X (2 ^ M - 1) M then set else best) (2 ^ M - 1)
theorem stp_S (X : Nat → Nat) (M n : Nat) : stp X M (n + 1) = if pc (stp X M n) 12 ≤ pc n 12 then stp X M n else if tt X n M = tt X (2 ^ M - 1) M then n else stp X M n := rfl
def spb (X : Nat → Nat) (M : Nat) : Nat → Nat := it (fun k best => if tt X (2 ^ M - 1 - k) M = tt X (2 ^ M - 1) M then (if pc best 12 < pc (2 ^ M - 1 - k) 12 then best else 2 ^ M - 1 - k) else best) (2 ^ M - 1)
theorem spb_S (X : Nat → Nat) (M k : Nat) : spb X M (k + 1) = if tt X (2 ^ M - 1 - k) M = tt X (2 ^ M - 1) M then (if pc (spb X M k) 12 < pc (2 ^ M - 1 - k) 12 then spb X M k else 2 ^ M - 1 - k) else spb X M k := rfl
def spP (X : Nat → Nat) (M b : Nat) (R : Nat → Prop) : Prop := tt X b M = tt X (2 ^ M - 1) M ∧ b ≤ 2 ^ M - 1 ∧ ∀ s, R s → s ≤ 2 ^ M - 1 → tt X s M = tt X (2 ^ M - 1) M → pc b 12 < pc s 12 ∨ (pc b 12 = pc s 12 ∧ b ≤ s)
theorem pc_full : ∀ M, M < 9 → ∀ s, s < 256 → s < 2 ^ M - 1 → pc s 12 < pc (2 ^ M - 1) 12 := by decide +kernel
theorem stp_P {X : Nat → Nat} {M : Nat} (hM : M ≤ 8) : ∀ n, n ≤ 2 ^ M - 1 → spP X M (stp X M n) (fun s => s < n) ∧ (stp X M n = 2 ^ M - 1 ∨ stp X M n < n) ∧ pc (stp X M n) 12 ≤ pc (2 ^ M - 1) 12 := by
  have h2 : 2 ^ M ≤ 2 ^ 8 := Nat.pow_le_pow_right (by decide) hM
  intro n
  induction n with
  | zero => intro _; exact ⟨⟨rfl, Nat.le_refl _, fun s h => by omega⟩, Or.inl rfl, Nat.le_refl _⟩
  | succ n ih =>
    intro hn
    obtain ⟨⟨p1, p2, p3⟩, p4, p5⟩ := ih (by omega)
    have h3 := pc_full M (by omega) n (by omega) (by omega)
    rw [stp_S]
    split
    · next h =>
      refine ⟨⟨p1, p2, fun s hs hs2 ht => ?_⟩, by omega, p5⟩
      by_cases e : s = n
      · subst e
        rcases p4 with p | p
        · rw [p] at h; omega
        · omega
      · exact p3 s (by omega) hs2 ht
    · next h =>
      split
      · next h4 =>
        refine ⟨⟨h4, by omega, fun s hs hs2 ht => ?_⟩, by omega, by omega⟩
        by_cases e : s = n
        · subst e; omega
        · have := p3 s (by omega) hs2 ht
          omega
      · next h4 =>
        refine ⟨⟨p1, p2, fun s hs hs2 ht => ?_⟩, by omega, p5⟩
        by_cases e : s = n
        · subst e; exact absurd ht h4
        · exact p3 s (by omega) hs2 ht
theorem spb_P {X : Nat → Nat} {M : Nat} : ∀ n, n ≤ 2 ^ M → spP X M (spb X M n) (fun s => 2 ^ M - 1 < s + n) := by
  intro n
  have hp := Nat.two_pow_pos M
  induction n with
  | zero => intro _; exact ⟨rfl, Nat.le_refl _, fun s h h2 => by omega⟩
  | succ n ih =>
    intro hn
    obtain ⟨p1, p2, p3⟩ := ih (by omega)
    rw [spb_S]
    split
    · next h =>
      split
      · next h2 =>
        refine ⟨p1, p2, fun s hs hs2 ht => ?_⟩
        by_cases e : s = 2 ^ M - 1 - n
        · rw [e]; exact Or.inl h2
        · exact p3 s (by omega) hs2 ht
      · next h2 =>
        refine ⟨h, by omega, fun s hs hs2 ht => ?_⟩
        by_cases e : s = 2 ^ M - 1 - n
        · rw [e]; omega
        · have := p3 s (by omega) hs2 ht
          omega
    · next h =>
      refine ⟨p1, p2, fun s hs hs2 ht => ?_⟩
      by_cases e : s = 2 ^ M - 1 - n
      · rw [e] at ht; exact absurd ht h
      · exact p3 s (by omega) hs2 ht
theorem stp_spb {X : Nat → Nat} {M : Nat} (hM : M ≤ 8) : spb X M (2 ^ M) = stp X M (2 ^ M - 1) := by
  have hp := Nat.two_pow_pos M
  obtain ⟨⟨a1, a2, a3⟩, a4, a5⟩ := stp_P (X := X) hM (2 ^ M - 1) (Nat.le_refl _)
  obtain ⟨b1, b2, b3⟩ := spb_P (X := X) (M := M) (2 ^ M) (Nat.le_refl _)
  have h1 := b3 (stp X M (2 ^ M - 1)) (by omega) a2 a1
  by_cases e : spb X M (2 ^ M) = 2 ^ M - 1
  · rcases a4 with h | h
    · rw [e, h]
    · rw [e] at h1
      have h2 := pc_full M (by omega) (stp X M (2 ^ M - 1)) (by have : 2 ^ M ≤ 2 ^ 8 := Nat.pow_le_pow_right (by decide) hM; omega) h
      omega
  · have h2 := a3 (spb X M (2 ^ M)) (by omega) b2 b1
    omega
def rc (X : Nat → Nat) (m beats M : Nat) : Nat → Nat := it (fun _ v => re X v beats M M) (2 ^ m)
theorem re1_S (X : Nat → Nat) (set beats a v n : Nat) : re1 X set beats a v (n + 1) = if bt set a = 0 then re1 X set beats a v n else if beats < fa X a n then re1 X set beats a v n else re1 X set beats a v n ||| 2 ^ n := rfl
theorem re1_lt {X : Nat → Nat} {set beats a v M n : Nat} (hv : v < 2 ^ M) (hn : n ≤ M) : re1 X set beats a v n < 2 ^ M := by
  induction n with
  | zero => exact hv
  | succ n ih =>
    rw [re1_S]
    split
    · exact ih (by omega)
    · split
      · exact ih (by omega)
      · exact Nat.or_lt_two_pow (ih (by omega)) (Nat.pow_lt_pow_right (by decide) (by omega))
theorem re_lt {X : Nat → Nat} {set beats M n : Nat} (hv : set < 2 ^ M) (hn : n ≤ M) : re X set beats M n < 2 ^ M := by
  induction n with
  | zero => exact hv
  | succ n ih => exact re1_lt (ih (by omega)) (Nat.le_refl _)
theorem rc_lt {X : Nat → Nat} {m beats M : Nat} (hm : m < M) : ∀ n, rc X m beats M n < 2 ^ M := by
  intro n
  induction n with
  | zero => exact Nat.pow_lt_pow_right (by decide) hm
  | succ n ih => exact re_lt ih (Nat.le_refl _)
def rnn (X : Nat → Nat) (m : Nat) : Nat → Nat × Nat := it (fun b s => (max s.1 (if bt (X (1 + m)) b = 0 then 0 else s.2 + 1), if bt (X (1 + m)) b = 0 then 0 else s.2 + 1)) (0, 0)
theorem rnn_S (X : Nat → Nat) (m b : Nat) : rnn X m (b + 1) = (max (rnn X m b).1 (if bt (X (1 + m)) b = 0 then 0 else (rnn X m b).2 + 1), if bt (X (1 + m)) b = 0 then 0 else (rnn X m b).2 + 1) := rfl
theorem rnn_le (X : Nat → Nat) (m : Nat) : ∀ n, (rnn X m n).1 ≤ n ∧ (rnn X m n).2 ≤ n := by
  intro n
  induction n with
  | zero => exact ⟨Nat.le_refl _, Nat.le_refl _⟩
  | succ n ih =>
    rw [rnn_S]
    split
    · exact ⟨by dsimp only; omega, by dsimp only; omega⟩
    · exact ⟨by dsimp only; omega, by dsimp only; omega⟩
def rar (X : Nat → Nat) (M : Nat) : Nat → Nat × Nat := it (fun b s => if s.2 ≤ mb X b M then s else (b, mb X b M)) (0, 99999)
theorem rar_S (X : Nat → Nat) (M b : Nat) : rar X M (b + 1) = if (rar X M b).2 ≤ mb X b M then rar X M b else (b, mb X b M) := rfl
theorem mb_le (X : Nat → Nat) (b n : Nat) : mb X b n ≤ n := by
  have h := it_le (f := fun i v => v + bt (X (1 + i)) b) (a := 0) (c := 1) (fun i v => by have := bt_lt (X (1 + i)) b; omega) n
  unfold mb
  omega
theorem rar_le {X : Nat → Nat} {M : Nat} : ∀ n, (rar X M n).1 ≤ n ∧ (rar X M n).2 ≤ 99999 := by
  intro n
  induction n with
  | zero => exact ⟨Nat.le_refl _, Nat.le_refl _⟩
  | succ n ih =>
    rw [rar_S]
    split
    · omega
    · exact ⟨by dsimp only; omega, by dsimp only; omega⟩
theorem rar_1 {X : Nat → Nat} {M : Nat} (hM : M ≤ 8) : rar X M 1 = (0, mb X 0 M) := by
  have h := mb_le X 0 M
  rw [rar_S]
  exact if_neg (by show ¬ 99999 ≤ mb X 0 M; omega)
def ldd (X : Nat → Nat) (M : Nat) : Nat → Nat × Nat := it (fun r s => if lt1 X r M + 1 ≤ s.1 then s else (lt1 X r M + 1, r + 1)) (0, 0)
theorem ldd_S (X : Nat → Nat) (M r : Nat) : ldd X M (r + 1) = if lt1 X r M + 1 ≤ (ldd X M r).1 then ldd X M r else (lt1 X r M + 1, r + 1) := rfl
theorem lt1_le {X : Nat → Nat} {r n : Nat} (h : ∀ i, i < n → X (9 + i) ≤ 9) : lt1 X r n ≤ 9 * n := by
  induction n with
  | zero => exact Nat.le_refl _
  | succ n ih =>
    have h1 := ih (fun i hi => h i (by omega))
    have h2 := h n (by omega)
    show lt1 X r n + (if bt (X (25 + r)) n = 0 then 0 else X (9 + n)) ≤ 9 * (n + 1)
    split <;> omega
theorem ldd_le {X : Nat → Nat} {M : Nat} (hM : M ≤ 8) (h : ∀ i, i < M → X (9 + i) ≤ 9) : ∀ n, (ldd X M n).1 ≤ 73 ∧ (ldd X M n).2 ≤ n := by
  intro n
  induction n with
  | zero => exact ⟨Nat.zero_le _, Nat.le_refl _⟩
  | succ n ih =>
    have h1 := lt1_le (X := X) (r := n) (n := M) h
    rw [ldd_S]
    split
    · omega
    · exact ⟨by dsimp only; omega, by dsimp only; omega⟩
theorem bit2 {s i j : Nat} (hs : s < 2 ^ 31) (hi : i < 32) (hj : j < 32) : ((nI s >>> (nI i &&& 31)) &&& (nI s >>> (nI j &&& 31))) &&& nI 1 = nI (bt s i * bt s j) := by
  have h1 := Nat.div_le_self s (2 ^ i)
  rw [shr_nI hs hi, shr_nI hs hj, x_and]
  have h2 : s / 2 ^ i &&& s / 2 ^ j < 2 ^ 32 := Nat.lt_of_le_of_lt Nat.and_le_left (by omega)
  rw [show nI (s / 2 ^ i &&& s / 2 ^ j) &&& nI 1 = nI ((s / 2 ^ i &&& s / 2 ^ j) % 2) from and1_nI h2]
  congr 1
  have h3 := Nat.and_mod_two_pow (a := s / 2 ^ i) (b := s / 2 ^ j) (n := 1)
  rw [Nat.pow_one] at h3
  rw [h3]
  unfold bt
  have h4 : s / 2 ^ i % 2 < 2 := Nat.mod_lt _ (by decide)
  have h5 : s / 2 ^ j % 2 < 2 := Nat.mod_lt _ (by decide)
  rcases (show s / 2 ^ i % 2 = 0 ∨ s / 2 ^ i % 2 = 1 by omega) with e | e <;> rcases (show s / 2 ^ j % 2 = 0 ∨ s / 2 ^ j % 2 = 1 by omega) with e2 | e2 <;> rw [e, e2] <;> rfl
