/-! L3: what an army's text means. Q: 0 beats (0: not told), 1 men, 2 rows, 3 slack and 1 (0: not told), 4 how many muds, 5.. muds, 13.. treads, 21.. louds, 29.. rows, 37 who marches; P the rule ([]: not told) -/
def bq (Q : Nat → Nat) : Nat := if Q 0 = 0 then 8 else Q 0
def sq3 (Q : Nat → Nat) : Nat := if Q 3 = 0 then 2 else Q 3 - 1
def FU : Nat := 8000
abbrev LnR := (Nat × Nat) ⊕ ((Nat → Nat) × List (Nat × Nat) × Nat × Nat × Nat)
def rw9 (T : Nat → Nat) (n men : Nat) : Nat → Nat → Nat → Nat → Nat × Nat × Nat → (Nat × Nat) ⊕ (Nat × Nat × Nat × Nat × Nat)
  | 0, _, _, _, _ => .inl (1, 0)
  | d + 1, a, S, G, K => if K.2.2 = 1 then (if a = 4 ∨ 4 < K.2.1 - K.1 then .inl (2, K.1) else if men ≤ vl T K.1 (K.2.1 - K.1) then .inl (3, K.1) else if bt G (vl T K.1 (K.2.1 - K.1)) = 1 then .inl (4, K.1) else rw9 T n men d (a + 1) (S ||| 2 ^ vl T K.1 (K.2.1 - K.1)) (G ||| 2 ^ vl T K.1 (K.2.1 - K.1)) (nxt T n K)) else (if a = 0 then .inl (1, K.1) else .inr (S, G, K))
def md9 (T : Nat → Nat) (n : Nat) : Nat → Nat → (Nat → Nat) → Nat × Nat × Nat → (Nat × Nat) ⊕ ((Nat → Nat) × Nat × Nat × Nat)
  | 0, _, _, _ => .inl (1, 0)
  | d + 1, j, Q, K => if K.2.2 = 1 then (if j = 8 ∨ 4 < K.2.1 - K.1 ∨ 9 < vl T K.1 (K.2.1 - K.1) then .inl (2, K.1) else md9 T n d (j + 1) (un (un Q (5 + j) (vl T K.1 (K.2.1 - K.1))) 4 (j + 1)) (nxt T n K)) else (if j = 0 then .inl (1, K.1) else .inr (Q, K))
def num9 (T : Nat → Nat) (n lo hi : Nat) (K : Nat × Nat × Nat) : (Nat × Nat) ⊕ (Nat × Nat × Nat × Nat) := if K.2.2 = 1 then (if K.2.1 - K.1 ≤ 4 ∧ lo ≤ vl T K.1 (K.2.1 - K.1) ∧ vl T K.1 (K.2.1 - K.1) ≤ hi then .inr (vl T K.1 (K.2.1 - K.1), nxt T n K) else .inl (2, K.1)) else .inl (1, K.1)
def man9 (T : Nat → Nat) (n : Nat) (Q : Nat → Nat) (P : List (Nat × Nat)) (K : Nat × Nat × Nat) : LnR := match num9 T n 0 4095 K with
  | .inl q => .inl q
  | .inr (a, K1) => match num9 T n 1 9 K1 with
    | .inl q => .inl q
    | .inr (b, K2) => .inr (un (un (un Q (13 + Q 1) a) (21 + Q 1) b) 1 (Q 1 + 1), P, K2)
def cor9 (T : Nat → Nat) (n : Nat) (Q : Nat → Nat) (P : List (Nat × Nat)) (K : Nat × Nat × Nat) : LnR :=
  if kw T K = 8 then (if Q 1 = 8 then .inl (2, K.1) else man9 T n Q P (nxt T n K))
  else if kw T K = 9 then (if Q 2 = 8 then .inl (2, K.1) else match rw9 T n (Q 1) 5 0 0 (Q 37) (nxt T n K) with
    | .inl q => .inl q
    | .inr (S, G, K1) => .inr (un (un (un Q (29 + Q 2) S) 37 G) 2 (Q 2 + 1), P, K1))
  else if kw T K = 7 then (if Q 0 ≠ 0 then .inl (5, K.1) else match num9 T n 4 12 (nxt T n K) with
    | .inl q => .inl q
    | .inr (a, K1) => .inr (un Q 0 a, P, K1))
  else if kw T K = 10 then (if Q 3 ≠ 0 then .inl (5, K.1) else match num9 T n 0 12 (nxt T n K) with
    | .inl q => .inl q
    | .inr (a, K1) => .inr (un Q 3 (a + 1), P, K1))
  else if kw T K = 3 then (if Q 4 ≠ 0 then .inl (5, K.1) else match md9 T n 9 0 Q (nxt T n K) with
    | .inl q => .inl q
    | .inr (Q1, K1) => .inr (Q1, P, K1))
  else if kw T K = 11 then (if P ≠ [] then .inl (5, K.1) else match ps T n FU 6 0 (nxt T n K) with
    | some (.inr (c, K1)) => .inr (Q, c, K1)
    | some (.inl q) => .inl q
    | none => .inl (1, 0))
  else .inl (1, K.1)
def sem9 (T : Nat → Nat) (n : Nat) : LnR → LnR
  | .inl q => .inl q
  | .inr (Q, P, K) => if K.2.2 = 3 ∧ T K.1 = 59 then .inr (Q, P, nxt T n K) else .inl (1, K.1)
def ln9 (T : Nat → Nat) (n : Nat) : Nat → (Nat → Nat) → List (Nat × Nat) → Nat × Nat × Nat → LnR
  | 0, _, _, _ => .inl (1, 0)
  | d + 1, Q, P, K => if K.2.2 = 0 then .inr (Q, P, K) else match sem9 T n (cor9 T n Q P K) with
    | .inl q => .inl q
    | .inr (Q1, P1, K1) => ln9 T n d Q1 P1 K1
def WQ (Q : Nat → Nat) (P : List (Nat × Nat)) : Prop := (Q 0 = 0 ∨ (4 ≤ Q 0 ∧ Q 0 ≤ 12)) ∧ Q 1 ≤ 8 ∧ Q 2 ≤ 8 ∧ Q 3 ≤ 13 ∧ Q 4 ≤ 8 ∧ (∀ j, j < 8 → Q (5 + j) ≤ 9 ∧ Q (13 + j) ≤ 4095 ∧ Q (21 + j) ≤ 9 ∧ Q (29 + j) < 2 ^ Q 1 ∧ pc (Q (29 + j)) 12 ≤ 4 ∧ (Q 1 ≤ j → Q (13 + j) = 0)) ∧ (∀ r q i, r < 8 → q < 8 → bt (Q (29 + r)) i = 1 → bt (Q (29 + q)) i = 1 → r = q) ∧ (∀ r, Q 2 ≤ r → r < 8 → Q (29 + r) = 0) ∧ (∀ i, bt (Q 37) i = 1 ↔ ∃ r, r < 8 ∧ bt (Q (29 + r)) i = 1) ∧ Q 37 < 256 ∧ (P = [] ∨ okP P 0) ∧ P.length ≤ 700
section LN
variable {T : Nat → Nat} {n : Nat}
theorem num9_g {lo hi : Nat} {K : Nat × Nat × Nat} (hn : n ≤ 700) (hk : tkO T n K) : match num9 T n lo hi K with
  | .inl (f, p) => 1 ≤ f ∧ f ≤ 5 ∧ p ≤ n
  | .inr (a, K1) => lo ≤ a ∧ a ≤ hi ∧ tkO T n K1 ∧ K.1 < K1.1 := by
  have hKn : K.1 ≤ n := Nat.le_trans hk.1.1 hk.1.2.1
  unfold num9
  by_cases c : K.2.2 = 1
  · rw [if_pos c]
    by_cases c2 : K.2.1 - K.1 ≤ 4 ∧ lo ≤ vl T K.1 (K.2.1 - K.1) ∧ vl T K.1 (K.2.1 - K.1) ≤ hi
    · rw [if_pos c2]
      exact ⟨c2.2.1, c2.2.2, nxt_ok hn hk, nxt_gt hn hk (by omega)⟩
    · rw [if_neg c2]
      exact ⟨by omega, by omega, hKn⟩
  · rw [if_neg c]
    exact ⟨by omega, by omega, hKn⟩
theorem rw9_g {men : Nat} (hn : n ≤ 700) (hm : men ≤ 8) : ∀ d a S G K, a + d = 5 → tkO T n K → S < 2 ^ men → G < 256 → (∀ i, bt S i = 1 → bt G i = 1) → pc S 12 ≤ a → match rw9 T n men d a S G K with
  | .inl (f, p) => d ≠ 0 → 1 ≤ f ∧ f ≤ 5 ∧ p ≤ n
  | .inr (S1, G1, K1) => S1 < 2 ^ men ∧ G1 < 256 ∧ pc S1 12 ≤ 4 ∧ tkO T n K1 ∧ K.1 ≤ K1.1 ∧ (∀ i, bt G1 i = 1 ↔ bt G i = 1 ∨ bt S1 i = 1) ∧ (∀ i, bt S i = 1 → bt S1 i = 1) ∧ (∀ i, bt G i = 1 → bt S1 i = 1 → bt S i = 1) := by
  intro d
  induction d with
  | zero => intro a S G K ha hk hS hG hSG hp; exact fun h => absurd rfl h
  | succ d ih =>
    intro a S G K ha hk hS hG hSG hp
    have hKn : K.1 ≤ n := Nat.le_trans hk.1.1 hk.1.2.1
    unfold rw9
    by_cases c : K.2.2 = 1
    · rw [if_pos c]
      by_cases c2 : a = 4 ∨ 4 < K.2.1 - K.1
      · rw [if_pos c2]
        exact fun _ => ⟨by omega, by omega, hKn⟩
      · rw [if_neg c2]
        by_cases c3 : men ≤ vl T K.1 (K.2.1 - K.1)
        · rw [if_pos c3]
          exact fun _ => ⟨by omega, by omega, hKn⟩
        · rw [if_neg c3]
          by_cases c4 : bt G (vl T K.1 (K.2.1 - K.1)) = 1
          · rw [if_pos c4]
            exact fun _ => ⟨by omega, by omega, hKn⟩
          · rw [if_neg c4]
            obtain ⟨v, hv⟩ : ∃ v, v = vl T K.1 (K.2.1 - K.1) := ⟨_, rfl⟩
            rw [← hv] at c3 c4 ⊢
            have h2 : 2 ^ v < 2 ^ men := Nat.pow_lt_pow_right (by decide) (by omega)
            have h3 : 2 ^ men ≤ 2 ^ 8 := Nat.pow_le_pow_right (by decide) hm
            have hg := nxt_gt hn hk (by omega)
            have h9 := ih (a + 1) (S ||| 2 ^ v) (G ||| 2 ^ v) (nxt T n K) (by omega) (nxt_ok hn hk) (Nat.or_lt_two_pow hS h2) (Nat.or_lt_two_pow (n := 8) hG (by omega)) (fun i h => by
              rw [bt_or2] at h ⊢
              rcases h with h | h
              · exact Or.inl (hSG i h)
              · exact Or.inr h) (by have := pc_or1 S v 12; rw [if_pos (by omega)] at this; omega)
            match hr : rw9 T n men d (a + 1) (S ||| 2 ^ v) (G ||| 2 ^ v) (nxt T n K), h9 with
            | .inl (f, p), h9 => exact fun _ => h9 (by omega)
            | .inr (S1, G1, K1), h9 =>
              obtain ⟨q1, q2, q3, q4, q5, q6, q7, q8⟩ := h9
              refine ⟨q1, q2, q3, q4, by omega, fun i => ?_, fun i h => q7 i ((bt_or2 _ _ _).mpr (Or.inl h)), fun i h h2 => ?_⟩
              · rw [q6, bt_or2]
                constructor
                · rintro ((h | h) | h)
                  · exact Or.inl h
                  · exact Or.inr (q7 i ((bt_or2 _ _ _).mpr (Or.inr h)))
                  · exact Or.inr h
                · rintro (h | h)
                  · exact Or.inl (Or.inl h)
                  · exact Or.inr h
              · have := q8 i ((bt_or2 _ _ _).mpr (Or.inl h)) h2
                rw [bt_or2, bt_pw] at this
                rcases this with h3 | h3
                · exact h3
                · subst h3
                  exact absurd h c4
    · rw [if_neg c]
      by_cases c2 : a = 0
      · rw [if_pos c2]
        exact fun _ => ⟨by omega, by omega, hKn⟩
      · rw [if_neg c2]
        exact ⟨hS, hG, by omega, hk, Nat.le_refl _, fun i => ⟨fun h => Or.inl h, fun h => h.elim id (hSG i)⟩, fun i h => h, fun i _ h => h⟩
theorem WQ_u {Q : Nat → Nat} {P : List (Nat × Nat)} (wq : WQ Q P) {k v : Nat} (h : (k = 0 ∧ 4 ≤ v ∧ v ≤ 12) ∨ (k = 3 ∧ v ≤ 13) ∨ (k = 4 ∧ v ≤ 8) ∨ (5 ≤ k ∧ k < 13 ∧ v ≤ 9)) : WQ (un Q k v) P := by
  obtain ⟨w0, w1, w2, w3, w4, w5, w6, w7, w8, w9, w10, w11⟩ := wq
  have o1 : un Q k v 1 = Q 1 := un_off (by omega)
  have o2 : un Q k v 2 = Q 2 := un_off (by omega)
  have o13 : ∀ j, 13 ≤ j → un Q k v j = Q j := fun j hj => un_off (by omega)
  refine ⟨?_, by rw [o1]; exact w1, by rw [o2]; exact w2, ?_, ?_, fun j hj => ?_, fun r q i hr hq => by rw [o13 _ (by omega), o13 _ (by omega)]; exact w6 r q i hr hq, fun r h1 h2 => by rw [o2] at h1; rw [o13 _ (by omega)]; exact w7 r h1 h2, fun i => ?_, by rw [o13 _ (by omega)]; exact w9, w10, w11⟩
  · by_cases c : k = 0
    · rw [un_at c.symm]; omega
    · rw [un_off (by omega)]; exact w0
  · by_cases c : k = 3
    · rw [un_at c.symm]; omega
    · rw [un_off (by omega)]; exact w3
  · by_cases c : k = 4
    · rw [un_at c.symm]; omega
    · rw [un_off (by omega)]; exact w4
  · obtain ⟨a1, a2, a3, a4, a5, a6⟩ := w5 j hj
    rw [o1, o13 (13 + j) (by omega), o13 (21 + j) (by omega), o13 (29 + j) (by omega)]
    refine ⟨?_, a2, a3, a4, a5, a6⟩
    by_cases c : k = 5 + j
    · rw [un_at c.symm]; omega
    · rw [un_off (by omega)]; exact a1
  · rw [o13 _ (by omega), w8 i]
    constructor
    · rintro ⟨r, hr, h⟩
      exact ⟨r, hr, by rw [o13 _ (by omega)]; exact h⟩
    · rintro ⟨r, hr, h⟩
      rw [o13 _ (by omega)] at h
      exact ⟨r, hr, h⟩
theorem md9_g {P : List (Nat × Nat)} (hn : n ≤ 700) : ∀ d j Q K, j + d = 9 → tkO T n K → WQ Q P → (j = 0 ∨ Q 4 = j) → match md9 T n d j Q K with
  | .inl (f, p) => d ≠ 0 → 1 ≤ f ∧ f ≤ 5 ∧ p ≤ n
  | .inr (Q1, K1) => WQ Q1 P ∧ tkO T n K1 ∧ K.1 ≤ K1.1 ∧ Q1 4 ≠ 0 ∧ (∀ k, k ≠ 4 → ¬ (5 ≤ k ∧ k < 13) → Q1 k = Q k) := by
  intro d
  induction d with
  | zero => intro j Q K ha hk wq hj; exact fun h => absurd rfl h
  | succ d ih =>
    intro j Q K ha hk wq hj
    have hKn : K.1 ≤ n := Nat.le_trans hk.1.1 hk.1.2.1
    unfold md9
    by_cases c : K.2.2 = 1
    · rw [if_pos c]
      by_cases c2 : j = 8 ∨ 4 < K.2.1 - K.1 ∨ 9 < vl T K.1 (K.2.1 - K.1)
      · rw [if_pos c2]
        exact fun _ => ⟨by omega, by omega, hKn⟩
      · rw [if_neg c2]
        have hg := nxt_gt hn hk (by omega)
        have h9 := ih (j + 1) (un (un Q (5 + j) (vl T K.1 (K.2.1 - K.1))) 4 (j + 1)) (nxt T n K) (by omega) (nxt_ok hn hk) (WQ_u (WQ_u wq (by omega)) (by omega)) (Or.inr (un_at rfl))
        match hr : md9 T n d (j + 1) (un (un Q (5 + j) (vl T K.1 (K.2.1 - K.1))) 4 (j + 1)) (nxt T n K), h9 with
        | .inl (f, p), h9 => exact fun _ => h9 (by omega)
        | .inr (Q1, K1), h9 =>
          obtain ⟨q1, q2, q3, q4, q5⟩ := h9
          exact ⟨q1, q2, by omega, q4, fun k h1 h2 => by rw [q5 k h1 h2, un_off h1, un_off (by omega)]⟩
    · rw [if_neg c]
      by_cases c2 : j = 0
      · rw [if_pos c2]
        exact fun _ => ⟨by omega, by omega, hKn⟩
      · rw [if_neg c2]
        exact ⟨wq, hk, Nat.le_refl _, by omega, fun k _ _ => rfl⟩
theorem man9_g {Q : Nat → Nat} {P : List (Nat × Nat)} {K : Nat × Nat × Nat} (hn : n ≤ 700) (hk : tkO T n K) (wq : WQ Q P) (h8 : Q 1 ≠ 8) : match man9 T n Q P K with
  | .inl (f, p) => 1 ≤ f ∧ f ≤ 5 ∧ p ≤ n
  | .inr (Q1, P1, K1) => WQ Q1 P1 ∧ tkO T n K1 ∧ K.1 ≤ K1.1 := by
  unfold man9
  have h1 := num9_g (lo := 0) (hi := 4095) hn hk
  match hr : num9 T n 0 4095 K, h1 with
  | .inl (f, p), h1 => exact h1
  | .inr (a, K1), h1 =>
    obtain ⟨a1, a2, a3, a4⟩ := h1
    have h2 := num9_g (lo := 1) (hi := 9) hn a3
    dsimp only
    match hr2 : num9 T n 1 9 K1, h2 with
    | .inl (f, p), h2 => exact h2
    | .inr (b, K2), h2 =>
      obtain ⟨b1, b2, b3, b4⟩ := h2
      obtain ⟨w0, w1, w2, w3, w4, w5, w6, w7, w8, w9, w10, w11⟩ := wq
      refine ⟨?_, b3, by omega⟩
      obtain ⟨R, hR⟩ : ∃ R, R = un (un (un Q (13 + Q 1) a) (21 + Q 1) b) 1 (Q 1 + 1) := ⟨_, rfl⟩
      rw [← hR]
      have g : ∀ k, k ≠ 1 → k ≠ 13 + Q 1 → k ≠ 21 + Q 1 → R k = Q k := fun k x1 x2 x3 => by rw [hR, un_off x1, un_off x3, un_off x2]
      have g1 : R 1 = Q 1 + 1 := by rw [hR, un_at rfl]
      have hp : 2 ^ Q 1 ≤ 2 ^ (Q 1 + 1) := Nat.pow_le_pow_right (by decide) (by omega)
      refine ⟨by rw [g 0 (by omega) (by omega) (by omega)]; exact w0, by omega, by rw [g 2 (by omega) (by omega) (by omega)]; exact w2, by rw [g 3 (by omega) (by omega) (by omega)]; exact w3, by rw [g 4 (by omega) (by omega) (by omega)]; exact w4, fun j hj => ?_, fun r q i x1 x2 => by rw [g _ (by omega) (by omega) (by omega), g _ (by omega) (by omega) (by omega)]; exact w6 r q i x1 x2, fun r x1 x2 => by rw [g 2 (by omega) (by omega) (by omega)] at x1; rw [g _ (by omega) (by omega) (by omega)]; exact w7 r x1 x2, fun i => ?_, by rw [g 37 (by omega) (by omega) (by omega)]; exact w9, w10, w11⟩
      · obtain ⟨x1, x2, x3, x4, x5, x6⟩ := w5 j hj
        refine ⟨by rw [g _ (by omega) (by omega) (by omega)]; exact x1, ?_, ?_, by rw [g1, g _ (by omega) (by omega) (by omega)]; omega, by rw [g _ (by omega) (by omega) (by omega)]; exact x5, fun hj2 => ?_⟩
        · by_cases c : j = Q 1
          · rw [hR, un_off (by omega), un_off (by omega), un_at (by omega)]; omega
          · rw [g _ (by omega) (by omega) (by omega)]; exact x2
        · by_cases c : j = Q 1
          · rw [hR, un_off (by omega), un_at (by omega)]; omega
          · rw [g _ (by omega) (by omega) (by omega)]; exact x3
        · rw [g1] at hj2
          rw [g _ (by omega) (by omega) (by omega)]
          exact x6 (by omega)
      · rw [g 37 (by omega) (by omega) (by omega), w8 i]
        constructor
        · rintro ⟨r, hr, h⟩
          exact ⟨r, hr, by rw [g _ (by omega) (by omega) (by omega)]; exact h⟩
        · rintro ⟨r, hr, h⟩
          rw [g _ (by omega) (by omega) (by omega)] at h
          exact ⟨r, hr, h⟩
theorem row9_g {Q : Nat → Nat} {P : List (Nat × Nat)} {S G : Nat} (wq : WQ Q P) (h8 : Q 2 ≠ 8) (h1 : S < 2 ^ Q 1) (h2 : G < 256) (h3 : pc S 12 ≤ 4) (h4 : ∀ i, bt G i = 1 ↔ bt (Q 37) i = 1 ∨ bt S i = 1) (h5 : ∀ i, bt (Q 37) i = 1 → bt S i = 1 → False) : WQ (un (un (un Q (29 + Q 2) S) 37 G) 2 (Q 2 + 1)) P := by
  obtain ⟨w0, w1, w2, w3, w4, w5, w6, w7, w8, w9, w10, w11⟩ := wq
  obtain ⟨R, hR⟩ : ∃ R, R = un (un (un Q (29 + Q 2) S) 37 G) 2 (Q 2 + 1) := ⟨_, rfl⟩
  rw [← hR]
  have g : ∀ k, k ≠ 2 → k ≠ 37 → k ≠ 29 + Q 2 → R k = Q k := fun k x1 x2 x3 => by rw [hR, un_off x1, un_off x2, un_off x3]
  have g2 : R 2 = Q 2 + 1 := by rw [hR, un_at rfl]
  have g37 : R 37 = G := by rw [hR, un_off (by omega), un_at rfl]
  have gS : R (29 + Q 2) = S := by rw [hR, un_off (by omega), un_off (by omega), un_at rfl]
  have gr : ∀ r, r < 8 → r ≠ Q 2 → R (29 + r) = Q (29 + r) := fun r hr hne => g _ (by omega) (by omega) (by omega)
  refine ⟨by rw [g 0 (by omega) (by omega) (by omega)]; exact w0, by rw [g 1 (by omega) (by omega) (by omega)]; exact w1, by omega, by rw [g 3 (by omega) (by omega) (by omega)]; exact w3, by rw [g 4 (by omega) (by omega) (by omega)]; exact w4, fun j hj => ?_, fun r q i x1 x2 y1 y2 => ?_, fun r x1 x2 => by rw [g2] at x1; rw [gr r x2 (by omega)]; exact w7 r (by omega) x2, fun i => ?_, by rw [g37]; exact h2, w10, w11⟩
  · obtain ⟨x1, x2, x3, x4, x5, x6⟩ := w5 j hj
    rw [g 1 (by omega) (by omega) (by omega), g (5 + j) (by omega) (by omega) (by omega), g (13 + j) (by omega) (by omega) (by omega), g (21 + j) (by omega) (by omega) (by omega)]
    by_cases c : j = Q 2
    · rw [c, gS]
      rw [c] at x1 x2 x3 x6
      exact ⟨x1, x2, x3, h1, h3, x6⟩
    · rw [gr j hj c]
      exact ⟨x1, x2, x3, x4, x5, x6⟩
  · by_cases c1 : r = Q 2
    · by_cases c2 : q = Q 2
      · omega
      · rw [gr q x2 c2] at y2
        rw [c1, gS] at y1
        exact absurd y1 (fun h => h5 i ((w8 i).mpr ⟨q, x2, y2⟩) h)
    · rw [gr r x1 c1] at y1
      by_cases c2 : q = Q 2
      · rw [c2, gS] at y2
        exact absurd y2 (fun h => h5 i ((w8 i).mpr ⟨r, x1, y1⟩) h)
      · rw [gr q x2 c2] at y2
        exact w6 r q i x1 x2 y1 y2
  · rw [g37, h4, w8 i]
    constructor
    · rintro (⟨r, hr, h⟩ | h)
      · refine ⟨r, hr, ?_⟩
        by_cases c : r = Q 2
        · rw [c, w7 (Q 2) (Nat.le_refl _) (by omega)] at h
          unfold bt at h
          rw [Nat.zero_div] at h
          omega
        · rw [gr r hr c]; exact h
      · exact ⟨Q 2, by omega, by rw [gS]; exact h⟩
    · rintro ⟨r, hr, h⟩
      by_cases c : r = Q 2
      · rw [c, gS] at h; exact Or.inr h
      · rw [gr r hr c] at h; exact Or.inl ⟨r, hr, h⟩
theorem cor9_g {Q : Nat → Nat} {P : List (Nat × Nat)} {K : Nat × Nat × Nat} (hn : n ≤ 700) (hk : tkO T n K) (wq : WQ Q P) (h0 : K.2.2 ≠ 0) : match cor9 T n Q P K with
  | .inl (f, p) => 1 ≤ f ∧ f ≤ 5 ∧ p ≤ n
  | .inr (Q1, P1, K1) => WQ Q1 P1 ∧ tkO T n K1 ∧ K.1 < K1.1 := by
  have hKn : K.1 ≤ n := Nat.le_trans hk.1.1 hk.1.2.1
  have hg := nxt_gt hn hk h0
  have hk1 := nxt_ok hn hk
  unfold cor9
  by_cases c8 : kw T K = 8
  · rw [if_pos c8]
    by_cases c : Q 1 = 8
    · rw [if_pos c]; exact ⟨by omega, by omega, hKn⟩
    · rw [if_neg c]
      have h := man9_g hn hk1 wq c
      match hr : man9 T n Q P (nxt T n K), h with
      | .inl (f, p), h => exact h
      | .inr (Q1, P1, K1), h => exact ⟨h.1, h.2.1, by have := h.2.2; omega⟩
  · rw [if_neg c8]
    by_cases c9 : kw T K = 9
    · rw [if_pos c9]
      by_cases c : Q 2 = 8
      · rw [if_pos c]; exact ⟨by omega, by omega, hKn⟩
      · rw [if_neg c]
        have h := rw9_g (men := Q 1) hn wq.2.1 5 0 0 (Q 37) (nxt T n K) (by omega) hk1 (Nat.two_pow_pos _) wq.2.2.2.2.2.2.2.2.2.1 (fun i h => by unfold bt at h; rw [Nat.zero_div] at h; omega) (by rw [pc_z]; omega)
        match hr : rw9 T n (Q 1) 5 0 0 (Q 37) (nxt T n K), h with
        | .inl (f, p), h => exact h (by omega)
        | .inr (S, G, K1), h =>
          obtain ⟨q1, q2, q3, q4, q5, q6, q7, q8⟩ := h
          exact ⟨row9_g wq c q1 q2 q3 q6 (fun i x1 x2 => by have := q8 i x1 x2; unfold bt at this; rw [Nat.zero_div] at this; omega), q4, by omega⟩
    · rw [if_neg c9]
      by_cases c7 : kw T K = 7
      · rw [if_pos c7]
        by_cases c : Q 0 ≠ 0
        · rw [if_pos c]; exact ⟨by omega, by omega, hKn⟩
        · rw [if_neg c]
          have h := num9_g (lo := 4) (hi := 12) hn hk1
          match hr : num9 T n 4 12 (nxt T n K), h with
          | .inl (f, p), h => exact h
          | .inr (a, K1), h => exact ⟨WQ_u wq (by omega), h.2.2.1, by omega⟩
      · rw [if_neg c7]
        by_cases c10 : kw T K = 10
        · rw [if_pos c10]
          by_cases c : Q 3 ≠ 0
          · rw [if_pos c]; exact ⟨by omega, by omega, hKn⟩
          · rw [if_neg c]
            have h := num9_g (lo := 0) (hi := 12) hn hk1
            match hr : num9 T n 0 12 (nxt T n K), h with
            | .inl (f, p), h => exact h
            | .inr (a, K1), h => exact ⟨WQ_u wq (by omega), h.2.2.1, by omega⟩
        · rw [if_neg c10]
          by_cases c3 : kw T K = 3
          · rw [if_pos c3]
            by_cases c : Q 4 ≠ 0
            · rw [if_pos c]; exact ⟨by omega, by omega, hKn⟩
            · rw [if_neg c]
              have h := md9_g (P := P) hn 9 0 Q (nxt T n K) (by omega) hk1 wq (Or.inl rfl)
              match hr : md9 T n 9 0 Q (nxt T n K), h with
              | .inl (f, p), h => exact h (by omega)
              | .inr (Q1, K1), h => exact ⟨h.1, h.2.1, by have := h.2.2.1; omega⟩
          · rw [if_neg c3]
            by_cases c11 : kw T K = 11
            · rw [if_pos c11]
              by_cases c : P ≠ []
              · rw [if_pos c]; exact ⟨by omega, by omega, hKn⟩
              · rw [if_neg c]
                obtain ⟨x, hx, gx⟩ := ps_all hn FU 6 0 (nxt T n K) hk1 (by omega) (by omega) (by have : rk 6 = 7 := rfl; have : FU = 8000 := rfl; omega)
                rw [hx]
                match x, gx with
                | .inl (f, p), gx => exact gx
                | .inr (c, K1), gx =>
                  obtain ⟨q1, q2, q3, q4⟩ := gx
                  have hK1 : K1.1 ≤ n := Nat.le_trans q1.1.1 q1.1.2.1
                  obtain ⟨w0, w1, w2, w3, w4, w5, w6, w7, w8, w9, w10, w11⟩ := wq
                  refine ⟨⟨w0, w1, w2, w3, w4, w5, w6, w7, w8, w9, Or.inr ?_, by omega⟩, q1, by omega⟩
                  have := q4 0 [] (by decide) rfl
                  rw [List.append_nil] at this
                  exact this
            · rw [if_neg c11]
              exact ⟨by omega, by omega, hKn⟩
theorem ln9_g (hn : n ≤ 700) : ∀ d Q P K, tkO T n K → WQ Q P → n - K.1 < d → match ln9 T n d Q P K with
  | .inl (f, p) => 1 ≤ f ∧ f ≤ 5 ∧ p ≤ n
  | .inr (Q1, P1, _) => WQ Q1 P1 := by
  intro d
  induction d with
  | zero => intro Q P K _ _ h; omega
  | succ d ih =>
    intro Q P K hk wq hd
    unfold ln9
    by_cases c : K.2.2 = 0
    · rw [if_pos c]; exact wq
    · rw [if_neg c]
      have h := cor9_g hn hk wq c
      match hr : cor9 T n Q P K, h with
      | .inl (f, p), h => exact h
      | .inr (Q1, P1, K1), h =>
        obtain ⟨h1, h2, h3⟩ := h
        have hK1 : K1.1 ≤ n := Nat.le_trans h2.1.1 h2.1.2.1
        unfold sem9
        by_cases c2 : K1.2.2 = 3 ∧ T K1.1 = 59
        · simp only [if_pos c2]
          have := nxt_gt hn h2 (by omega)
          exact ih Q1 P1 (nxt T n K1) (nxt_ok hn h2) h1 (by omega)
        · simp only [if_neg c2]
          exact ⟨by omega, by omega, hK1⟩
end LN
