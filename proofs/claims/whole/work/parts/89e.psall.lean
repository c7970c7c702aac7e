/-! L3: every rule's text has an answer -/
section PA
variable {T : Nat → Nat} {n : Nat}
theorem ps_0 {d v : Nat} {K : Nat × Nat × Nat} : ps T n (d + 1) 0 v K = (if K.2.2 = 3 ∧ T K.1 = 40 then
        (if v + 1 < 6 then clo T n (ps T n d 6 (v + 1) (nxt T n K))
        else some (.inl ((if (nxt T n K).2.2 = 1 ∨ (nxt T n K).2.2 = 2 ∨ ((nxt T n K).2.2 = 3 ∧ T (nxt T n K).1 = 40) then 2 else 1), (nxt T n K).1)))
      else if K.2.2 = 2 then (if 1 ≤ kw T K ∧ kw T K ≤ 6 then some (.inr ([(2, kw T K - 1)], nxt T n K)) else some (.inl (3, K.1)))
      else if K.2.2 = 1 then (if 4 < K.2.1 - K.1 then some (.inl (2, K.1)) else some (.inr ([(1, vl T K.1 (K.2.1 - K.1))], nxt T n K)))
      else some (.inl (1, K.1))) := rfl
theorem ps_1 {d v : Nat} {K : Nat × Nat × Nat} : ps T n (d + 1) 1 v K = bnd (ps T n d 0 v K) (ps T n d 7 v) := rfl
theorem ps_2 {d v : Nat} {K : Nat × Nat × Nat} : ps T n (d + 1) 2 v K = bnd (ps T n d 1 v K) (ps T n d 8 v) := rfl
theorem ps_3 {d v : Nat} {K : Nat × Nat × Nat} : ps T n (d + 1) 3 v K = bnd (ps T n d 2 v K) (fun K' => if K'.2.2 = 3 ∧ T K'.1 = 60 then suf (6, 0) (ps T n d 2 v (nxt T n K')) else if K'.2.2 = 3 ∧ T K'.1 = 61 then suf (7, 0) (ps T n d 2 v (nxt T n K')) else some (.inr ([], K'))) := rfl
theorem ps_4 {d v : Nat} {K : Nat × Nat × Nat} : ps T n (d + 1) 4 v K = ps T n d 11 v K := rfl
theorem ps_5 {d v : Nat} {K : Nat × Nat × Nat} : ps T n (d + 1) 5 v K = bnd (ps T n d 4 v K) (ps T n d 9 v) := rfl
theorem ps_6 {d v : Nat} {K : Nat × Nat × Nat} : ps T n (d + 1) 6 v K = bnd (ps T n d 5 v K) (ps T n d 10 v) := rfl
theorem ps_7 {d v : Nat} {K : Nat × Nat × Nat} : ps T n (d + 1) 7 v K = (if K.2.2 = 3 ∧ T K.1 = 42 then bnd (suf (10, 0) (ps T n d 0 v (nxt T n K))) (ps T n d 7 v) else if K.2.2 = 3 ∧ T K.1 = 47 then bnd (suf (11, 0) (ps T n d 0 v (nxt T n K))) (ps T n d 7 v) else some (.inr ([], K))) := rfl
theorem ps_8 {d v : Nat} {K : Nat × Nat × Nat} : ps T n (d + 1) 8 v K = (if K.2.2 = 3 ∧ T K.1 = 43 then bnd (suf (8, 0) (ps T n d 1 v (nxt T n K))) (ps T n d 8 v) else if K.2.2 = 3 ∧ T K.1 = 45 then bnd (suf (9, 0) (ps T n d 1 v (nxt T n K))) (ps T n d 8 v) else some (.inr ([], K))) := rfl
theorem ps_9 {d v : Nat} {K : Nat × Nat × Nat} : ps T n (d + 1) 9 v K = (if kw T K = 12 then bnd (suf (4, 0) (ps T n d 4 v (nxt T n K))) (ps T n d 9 v) else some (.inr ([], K))) := rfl
theorem ps_10 {d v : Nat} {K : Nat × Nat × Nat} : ps T n (d + 1) 10 v K = (if kw T K = 13 then bnd (suf (5, 0) (ps T n d 5 v (nxt T n K))) (ps T n d 10 v) else some (.inr ([], K))) := rfl
theorem ps_11 {d v j : Nat} {K : Nat × Nat × Nat} : ps T n (d + 1) (11 + j) v K = (if kw T K = 14 then (if 11 + j = 17 then some (.inl (2, K.1)) else suf (3, 0) (ps T n d (11 + (j + 1)) v (nxt T n K))) else ps T n d 3 v K) := by
  have h : ∀ k, k < 11 → ¬ 11 + j = k := fun k hk => by omega
  conv => lhs; unfold ps
  rw [if_neg (h 0 (by omega)), if_neg (h 1 (by omega)), if_neg (h 2 (by omega)), if_neg (h 3 (by omega)), if_neg (h 4 (by omega)), if_neg (h 5 (by omega)), if_neg (h 6 (by omega)), if_neg (h 7 (by omega)), if_neg (h 8 (by omega)), if_neg (h 9 (by omega)), if_neg (h 10 (by omega)), Nat.add_assoc]
def tkO (T : Nat → Nat) (n : Nat) (K : Nat × Nat × Nat) : Prop := okT n K ∧ okL T K ∧ okD T K
theorem nxt_ok {K : Nat × Nat × Nat} (hn : n ≤ 700) (h : tkO T n K) : tkO T n (nxt T n K) := ⟨(tok_ok hn h.1.2.1).1, tok_L, tok_D⟩
theorem nxt_ge {K : Nat × Nat × Nat} (hn : n ≤ 700) (h : tkO T n K) : K.2.1 ≤ (nxt T n K).1 := (tok_ok hn h.1.2.1).2
theorem nxt_gt {K : Nat × Nat × Nat} (hn : n ≤ 700) (h : tkO T n K) (h0 : K.2.2 ≠ 0) : K.1 < (nxt T n K).1 := Nat.lt_of_lt_of_le (h.1.2.2.2.1 h0) (nxt_ge hn h)
theorem kw_2 {K : Nat × Nat × Nat} (h : kw T K ≠ 0) : K.2.2 = 2 := by
  unfold kw at h
  by_cases c : K.2.2 = 2
  · exact c
  · rw [if_neg c] at h; exact absurd rfl h
theorem kw_le (K : Nat × Nat × Nat) : kw T K ≤ 14 := by
  unfold kw
  split
  · cases hj : fi (fun k => if isW T K.1 K.2.1 (wrd k) = true then 1 else 0) 14 0 with
    | zero => omega
    | succ j =>
      have := (fi_S _ 14 0 j hj).2.1
      omega
  · omega
/-- what is needed of the pile -/
def ad (l : Nat) : Nat := if l = 0 then 0 else if l = 1 ∨ l = 7 then 1 else if l = 2 ∨ l = 8 then 2 else if l = 5 ∨ l = 9 then 4 else if l = 6 ∨ l = 10 then 5 else 3
def rk (l : Nat) : Nat := if l < 4 then l else if l = 4 then 5 else if l = 5 then 6 else if l = 6 then 7 else if l < 11 then 0 else 4
def tl (l : Nat) : Nat := if 7 ≤ l ∧ l ≤ 10 then 1 else 0
def gd9 (T : Nat → Nat) (n l v : Nat) (K : Nat × Nat × Nat) : (Nat × Nat) ⊕ (List (Nat × Nat) × Nat × Nat × Nat) → Prop
  | .inl (f, p) => 1 ≤ f ∧ f ≤ 5 ∧ p ≤ n
  | .inr (c, K') => tkO T n K' ∧ K.1 + c.length ≤ K'.1 ∧ (tl l = 0 → K.1 < K'.1 ∧ c ≠ []) ∧ ∀ s P, s + 1 + 5 * (5 - v) + ad l ≤ 64 → okP P (s + 1) → okP (c ++ P) (s + tl l)
theorem g_bnd {a t v : Nat} {l : Nat} {K : Nat × Nat × Nat} {r : Option ((Nat × Nat) ⊕ (List (Nat × Nat) × Nat × Nat × Nat))} {f : Nat × Nat × Nat → Option ((Nat × Nat) ⊕ (List (Nat × Nat) × Nat × Nat × Nat))} (h1 : ∃ x, r = some x ∧ gd9 T n a v K x) (ht : tl a = 0) (hl : tl l = 0) (ha : ad a ≤ ad l) (hs : ad t ≤ ad l) (h2 : ∀ K', tkO T n K' → K.1 < K'.1 → ∃ y, f K' = some y ∧ (∀ c2 K2, y = .inr (c2, K2) → tkO T n K2 ∧ K'.1 + c2.length ≤ K2.1 ∧ ∀ s P, s + 1 + 5 * (5 - v) + ad t ≤ 64 → okP P (s + 1) → okP (c2 ++ P) (s + 1)) ∧ (∀ f p, y = .inl (f, p) → 1 ≤ f ∧ f ≤ 5 ∧ p ≤ n)) : ∃ x, bnd r f = some x ∧ gd9 T n l v K x := by
  obtain ⟨x, rfl, hx⟩ := h1
  match x, hx with
  | .inl (f1, p1), hx => exact ⟨_, rfl, hx⟩
  | .inr (c, K1), hx =>
    obtain ⟨o1, o2, o3, o4⟩ := hx
    obtain ⟨y, hy, g1, g2⟩ := h2 K1 o1 (o3 ht).1
    match y, hy, g1, g2 with
    | .inl (f1, p1), hy, g1, g2 => exact ⟨.inl (f1, p1), by simp only [bnd, hy], g2 _ _ rfl⟩
    | .inr (c2, K2), hy, g1, g2 =>
      obtain ⟨q1, q2, q3⟩ := g1 _ _ rfl
      refine ⟨.inr (c ++ c2, K2), by simp only [bnd, hy], q1, by rw [List.length_append]; omega, fun _ => ⟨by have := (o3 ht).1; omega, fun e => (o3 ht).2 (List.append_eq_nil_iff.mp e).1⟩, fun s P hsP hP => ?_⟩
      rw [List.append_assoc, hl]
      have := o4 s (c2 ++ P) (by omega) (q3 s P (by omega) hP)
      rw [ht] at this
      exact this
/-- behind a first part: an operator, its second part, and so on -/
theorem g_op {o a l v : Nat} {K K1 : Nat × Nat × Nat} {r : Option ((Nat × Nat) ⊕ (List (Nat × Nat) × Nat × Nat × Nat))} {f : Nat × Nat × Nat → Option ((Nat × Nat) ⊕ (List (Nat × Nat) × Nat × Nat × Nat))} (hk : K.1 < K1.1) (ho : 4 ≤ o ∧ o ≤ 11) (h1 : ∃ x, r = some x ∧ gd9 T n a v K1 x) (ht : tl a = 0) (ha : ad a + 1 ≤ ad l) (h2 : ∀ K', tkO T n K' → K.1 < K'.1 → ∃ y, f K' = some y ∧ (∀ c2 K2, y = .inr (c2, K2) → tkO T n K2 ∧ K'.1 + c2.length ≤ K2.1 ∧ ∀ s P, s + 1 + 5 * (5 - v) + ad l ≤ 64 → okP P (s + 1) → okP (c2 ++ P) (s + 1)) ∧ (∀ f p, y = .inl (f, p) → 1 ≤ f ∧ f ≤ 5 ∧ p ≤ n)) : ∃ y, bnd (suf (o, 0) r) f = some y ∧ (∀ c2 K2, y = .inr (c2, K2) → tkO T n K2 ∧ K.1 + c2.length ≤ K2.1 ∧ ∀ s P, s + 1 + 5 * (5 - v) + ad l ≤ 64 → okP P (s + 1) → okP (c2 ++ P) (s + 1)) ∧ (∀ f p, y = .inl (f, p) → 1 ≤ f ∧ f ≤ 5 ∧ p ≤ n) := by
  obtain ⟨x, rfl, hx⟩ := h1
  match x, hx with
  | .inl (f1, p1), hx => exact ⟨.inl (f1, p1), rfl, fun c2 K2 e => (by cases e), fun f p e => by cases e; exact hx⟩
  | .inr (c, K2), hx =>
    obtain ⟨o1, o2, o3, o4⟩ := hx
    obtain ⟨y, hy, g1, g2⟩ := h2 K2 o1 (by have := (o3 ht).1; omega)
    match y, hy, g1, g2 with
    | .inl (f1, p1), hy, g1, g2 => exact ⟨.inl (f1, p1), by simp only [bnd, suf, hy], fun c2 K2 e => by (cases e), fun f p e => by cases e; exact g2 _ _ rfl⟩
    | .inr (c2, K3), hy, g1, g2 =>
      obtain ⟨q1, q2, q3⟩ := g1 _ _ rfl
      refine ⟨.inr ((c ++ [(o, 0)]) ++ c2, K3), by simp only [bnd, suf, hy], fun c9 K9 e => ?_, fun f p e => by cases e⟩
      cases e
      refine ⟨q1, by rw [List.length_append, List.length_append]; show _ + (_ + 1 + _) ≤ _; omega, fun s P hsP hP => ?_⟩
      rw [List.append_assoc, List.append_assoc]
      have h3 : okP ([(o, 0)] ++ (c2 ++ P)) (s + 1 + 1) := Or.inr (Or.inr (Or.inr ⟨ho.1, ho.2, by omega, q3 s P hsP hP⟩))
      have := o4 (s + 1) _ (by omega) h3
      rw [ht] at this
      exact this
theorem g_nil {v l : Nat} {K : Nat × Nat × Nat} (h : tkO T n K) : ∃ y, (some (.inr ([], K)) : Option ((Nat × Nat) ⊕ (List (Nat × Nat) × Nat × Nat × Nat))) = some y ∧ (∀ c2 K2, y = .inr (c2, K2) → tkO T n K2 ∧ K.1 + c2.length ≤ K2.1 ∧ ∀ s P, s + 1 + 5 * (5 - v) + ad l ≤ 64 → okP P (s + 1) → okP (c2 ++ P) (s + 1)) ∧ (∀ f p, y = .inl (f, p) → 1 ≤ f ∧ f ≤ 5 ∧ p ≤ n) := ⟨_, rfl, fun c2 K2 e => by cases e; exact ⟨h, Nat.le_refl _, fun s P _ hP => hP⟩, fun f p e => by cases e⟩
theorem g_t {l v : Nat} {K : Nat × Nat × Nat} {r : Option ((Nat × Nat) ⊕ (List (Nat × Nat) × Nat × Nat × Nat))} (hl : tl l = 1) (h : ∃ y, r = some y ∧ (∀ c2 K2, y = .inr (c2, K2) → tkO T n K2 ∧ K.1 + c2.length ≤ K2.1 ∧ ∀ s P, s + 1 + 5 * (5 - v) + ad l ≤ 64 → okP P (s + 1) → okP (c2 ++ P) (s + 1)) ∧ (∀ f p, y = .inl (f, p) → 1 ≤ f ∧ f ≤ 5 ∧ p ≤ n)) : ∃ x, r = some x ∧ gd9 T n l v K x := by
  obtain ⟨y, e, h1, h2⟩ := h
  refine ⟨y, e, ?_⟩
  match y, h1, h2 with
  | .inl (f, p), h1, h2 => exact h2 _ _ rfl
  | .inr (c, K'), h1, h2 =>
    obtain ⟨q1, q2, q3⟩ := h1 _ _ rfl
    exact ⟨q1, q2, fun e => by omega, fun s P hs hP => by rw [hl]; exact q3 s P hs hP⟩
theorem g_u {l v : Nat} {K : Nat × Nat × Nat} {r : Option ((Nat × Nat) ⊕ (List (Nat × Nat) × Nat × Nat × Nat))} (hl : tl l = 1) (h : ∃ x, r = some x ∧ gd9 T n l v K x) : ∃ y, r = some y ∧ (∀ c2 K2, y = .inr (c2, K2) → tkO T n K2 ∧ K.1 + c2.length ≤ K2.1 ∧ ∀ s P, s + 1 + 5 * (5 - v) + ad l ≤ 64 → okP P (s + 1) → okP (c2 ++ P) (s + 1)) ∧ (∀ f p, y = .inl (f, p) → 1 ≤ f ∧ f ≤ 5 ∧ p ≤ n) := by
  obtain ⟨y, e, h1⟩ := h
  refine ⟨y, e, fun c2 K2 e2 => ?_, fun f p e2 => ?_⟩
  · subst e2
    obtain ⟨q1, q2, q3, q4⟩ := h1
    exact ⟨q1, q2, fun s P hs hP => by have := q4 s P hs hP; rw [hl] at this; exact this⟩
  · subst e2
    exact h1
theorem ps_all (hn : n ≤ 700) : ∀ d l v K, tkO T n K → v ≤ 5 → l ≤ 17 → 10 * (n - K.1) + rk l < d → ∃ x, ps T n d l v K = some x ∧ gd9 T n l v K x := by
  intro d
  induction d with
  | zero => intro l v K _ _ _ h; omega
  | succ d ih =>
    intro l v K hK hv hl hd
    have hKn : K.1 ≤ n := Nat.le_trans hK.1.1 hK.1.2.1
    have nx1 : K.2.2 ≠ 0 → tkO T n (nxt T n K) ∧ K.1 < (nxt T n K).1 ∧ (nxt T n K).1 ≤ n := fun h => ⟨nxt_ok hn hK, nxt_gt hn hK h, Nat.le_trans (nxt_ok hn hK).1.1 (nxt_ok hn hK).1.2.1⟩
    have rk_b : ∀ m, rk m ≤ 7 := fun m => by unfold rk; (repeat' split) <;> omega
    have sub : ∀ (m : Nat) (K' : Nat × Nat × Nat), m ≤ 17 → tkO T n K' → K.1 < K'.1 → ∃ x, ps T n d m v K' = some x ∧ gd9 T n m v K' x := fun m K' hm hk hlt => ih m v K' hk hv hm (by have := rk_b m; have : K'.1 ≤ n := Nat.le_trans hk.1.1 hk.1.2.1; omega)
    have hc : l = 0 ∨ l = 1 ∨ l = 2 ∨ l = 3 ∨ l = 4 ∨ l = 5 ∨ l = 6 ∨ l = 7 ∨ l = 8 ∨ l = 9 ∨ l = 10 ∨ 11 ≤ l := by omega
    rcases hc with e | e | e | e | e | e | e | e | e | e | e | e
    · subst e
      rw [ps_0]
      by_cases c1 : K.2.2 = 3 ∧ T K.1 = 40
      · obtain ⟨k1, k2, k3⟩ := nx1 (by omega)
        rw [if_pos c1]
        by_cases c2 : v + 1 < 6
        · rw [if_pos c2]
          obtain ⟨x, hx, gx⟩ := ih 6 (v + 1) (nxt T n K) k1 (by omega) (by omega) (by have := rk_b 6; omega)
          rw [hx]
          match x, gx with
          | .inl (f1, p1), gx => exact ⟨_, rfl, gx⟩
          | .inr (c, K2), gx =>
            obtain ⟨q1, q2, q3, q4⟩ := gx
            have q3 := q3 rfl
            have hK2 : K2.1 ≤ n := Nat.le_trans q1.1.1 q1.1.2.1
            show ∃ x, (if K2.2.2 = 3 ∧ T K2.1 = 41 then _ else _) = some x ∧ _
            by_cases c3 : K2.2.2 = 3 ∧ T K2.1 = 41
            · rw [if_pos c3]
              refine ⟨_, rfl, nxt_ok hn q1, ?_, fun _ => ⟨?_, q3.2⟩, fun s P hs hP => ?_⟩
              · have := nxt_gt hn q1 (by omega); omega
              · have := nxt_gt hn q1 (by omega); omega
              · have : ad 6 = 5 := rfl
                have : ad 0 = 0 := rfl
                exact q4 s P (by omega) hP
            · rw [if_neg c3]
              exact ⟨_, rfl, by omega, by omega, hK2⟩
        · rw [if_neg c2]
          refine ⟨_, rfl, ?_, ?_, k3⟩
          · split <;> omega
          · split <;> omega
      · rw [if_neg c1]
        by_cases c2 : K.2.2 = 2
        · obtain ⟨k1, k2, k3⟩ := nx1 (by omega)
          rw [if_pos c2]
          by_cases c3 : 1 ≤ kw T K ∧ kw T K ≤ 6
          · rw [if_pos c3]
            exact ⟨_, rfl, k1, k2, fun _ => ⟨k2, fun e => by cases e⟩, fun s P hs hP => Or.inr (Or.inl ⟨rfl, by omega, show s < 64 by omega, hP⟩)⟩
          · rw [if_neg c3]
            exact ⟨_, rfl, by omega, by omega, hKn⟩
        · rw [if_neg c2]
          by_cases c3 : K.2.2 = 1
          · obtain ⟨k1, k2, k3⟩ := nx1 (by omega)
            rw [if_pos c3]
            by_cases c4 : 4 < K.2.1 - K.1
            · rw [if_pos c4]
              exact ⟨_, rfl, by omega, by omega, hKn⟩
            · rw [if_neg c4]
              have hv9 := nm_vl (T := T) (s := K.1) (K.2.1 - K.1) (by omega) (fun j hj => hK.2.2 c3 (K.1 + j) (by omega) (by omega))
              have h4 : 10 ^ (K.2.1 - K.1) ≤ 10 ^ 4 := Nat.pow_le_pow_right (by decide) (by omega)
              exact ⟨_, rfl, k1, k2, fun _ => ⟨k2, fun e => by cases e⟩, fun s P hs hP => Or.inl ⟨rfl, by omega, show s < 64 by omega, hP⟩⟩
          · rw [if_neg c3]
            exact ⟨_, rfl, by omega, by omega, hKn⟩
    · subst e
      rw [ps_1]
      exact g_bnd (t := 7) (ih 0 v K hK hv (by omega) (by have : rk 1 = 1 := rfl; have : rk 0 = 0 := rfl; omega)) rfl rfl (by decide) (by decide) (fun K' hk hlt => g_u rfl (sub 7 K' (by omega) hk hlt))
    · subst e
      rw [ps_2]
      exact g_bnd (t := 8) (ih 1 v K hK hv (by omega) (by have : rk 2 = 2 := rfl; have : rk 1 = 1 := rfl; omega)) rfl rfl (by decide) (by decide) (fun K' hk hlt => g_u rfl (sub 8 K' (by omega) hk hlt))
    · subst e
      rw [ps_3]
      refine g_bnd (t := 3) (ih 2 v K hK hv (by omega) (by have : rk 3 = 3 := rfl; have : rk 2 = 2 := rfl; omega)) rfl rfl (by decide) (by decide) (fun K' hk hlt => ?_)
      have key : ∀ o, 4 ≤ o ∧ o ≤ 11 → K'.2.2 = 3 → ∃ y, suf (o, 0) (ps T n d 2 v (nxt T n K')) = some y ∧ (∀ c2 K2, y = .inr (c2, K2) → tkO T n K2 ∧ K'.1 + c2.length ≤ K2.1 ∧ ∀ s P, s + 1 + 5 * (5 - v) + ad 3 ≤ 64 → okP P (s + 1) → okP (c2 ++ P) (s + 1)) ∧ (∀ f p, y = .inl (f, p) → 1 ≤ f ∧ f ≤ 5 ∧ p ≤ n) := by
        intro o ho h3
        have hgt := nxt_gt hn hk (by omega)
        have h9 := g_op (o := o) (K := K') (l := 3) (f := fun K => some (.inr ([], K))) hgt ho (sub 2 (nxt T n K') (by omega) (nxt_ok hn hk) (by omega)) rfl (by decide) (fun K9 hk9 _ => g_nil hk9)
        have e9 : ∀ r : Option ((Nat × Nat) ⊕ (List (Nat × Nat) × Nat × Nat × Nat)), bnd r (fun K => some (.inr ([], K))) = r := by
          intro r
          match r with
          | none => rfl
          | some (.inl _) => rfl
          | some (.inr (c, K)) => show some (Sum.inr (c ++ [], K)) = _; rw [List.append_nil]
        rw [e9] at h9
        exact h9
      by_cases c1 : K'.2.2 = 3 ∧ T K'.1 = 60
      · rw [if_pos c1]
        exact key 6 (by omega) c1.1
      · rw [if_neg c1]
        by_cases c2 : K'.2.2 = 3 ∧ T K'.1 = 61
        · rw [if_pos c2]
          exact key 7 (by omega) c2.1
        · rw [if_neg c2]
          exact g_nil hk
    · subst e
      rw [ps_4]
      obtain ⟨x, hx, gx⟩ := ih 11 v K hK hv (by omega) (by have : rk 4 = 5 := rfl; have : rk 11 = 4 := rfl; omega)
      refine ⟨x, hx, ?_⟩
      match x, gx with
      | .inl _, gx => exact gx
      | .inr _, gx => exact gx
    · subst e
      rw [ps_5]
      exact g_bnd (t := 9) (ih 4 v K hK hv (by omega) (by have : rk 5 = 6 := rfl; have : rk 4 = 5 := rfl; omega)) rfl rfl (by decide) (by decide) (fun K' hk hlt => g_u rfl (sub 9 K' (by omega) hk hlt))
    · subst e
      rw [ps_6]
      exact g_bnd (t := 10) (ih 5 v K hK hv (by omega) (by have : rk 6 = 7 := rfl; have : rk 5 = 6 := rfl; omega)) rfl rfl (by decide) (by decide) (fun K' hk hlt => g_u rfl (sub 10 K' (by omega) hk hlt))
    · subst e
      rw [ps_7]
      refine g_t rfl ?_
      by_cases c1 : K.2.2 = 3 ∧ T K.1 = 42
      · obtain ⟨k1, k2, k3⟩ := nx1 (by omega)
        rw [if_pos c1]
        exact g_op k2 (by omega) (sub 0 _ (by omega) k1 k2) rfl (by decide) (fun K' hk hlt => g_u rfl (sub 7 K' (by omega) hk hlt))
      · rw [if_neg c1]
        by_cases c2 : K.2.2 = 3 ∧ T K.1 = 47
        · obtain ⟨k1, k2, k3⟩ := nx1 (by omega)
          rw [if_pos c2]
          exact g_op k2 (by omega) (sub 0 _ (by omega) k1 k2) rfl (by decide) (fun K' hk hlt => g_u rfl (sub 7 K' (by omega) hk hlt))
        · rw [if_neg c2]
          exact g_nil hK
    · subst e
      rw [ps_8]
      refine g_t rfl ?_
      by_cases c1 : K.2.2 = 3 ∧ T K.1 = 43
      · obtain ⟨k1, k2, k3⟩ := nx1 (by omega)
        rw [if_pos c1]
        exact g_op k2 (by omega) (sub 1 _ (by omega) k1 k2) rfl (by decide) (fun K' hk hlt => g_u rfl (sub 8 K' (by omega) hk hlt))
      · rw [if_neg c1]
        by_cases c2 : K.2.2 = 3 ∧ T K.1 = 45
        · obtain ⟨k1, k2, k3⟩ := nx1 (by omega)
          rw [if_pos c2]
          exact g_op k2 (by omega) (sub 1 _ (by omega) k1 k2) rfl (by decide) (fun K' hk hlt => g_u rfl (sub 8 K' (by omega) hk hlt))
        · rw [if_neg c2]
          exact g_nil hK
    · subst e
      rw [ps_9]
      refine g_t rfl ?_
      by_cases c1 : kw T K = 12
      · obtain ⟨k1, k2, k3⟩ := nx1 (by have := kw_2 (T := T) (K := K) (by omega); omega)
        rw [if_pos c1]
        exact g_op k2 (by omega) (sub 4 _ (by omega) k1 k2) rfl (by decide) (fun K' hk hlt => g_u rfl (sub 9 K' (by omega) hk hlt))
      · rw [if_neg c1]
        exact g_nil hK
    · subst e
      rw [ps_10]
      refine g_t rfl ?_
      by_cases c1 : kw T K = 13
      · obtain ⟨k1, k2, k3⟩ := nx1 (by have := kw_2 (T := T) (K := K) (by omega); omega)
        rw [if_pos c1]
        exact g_op k2 (by omega) (sub 5 _ (by omega) k1 k2) rfl (by decide) (fun K' hk hlt => g_u rfl (sub 10 K' (by omega) hk hlt))
      · rw [if_neg c1]
        exact g_nil hK
    · obtain ⟨j, rfl⟩ : ∃ j, l = 11 + j := ⟨l - 11, by omega⟩
      have a3 : ad (11 + j) = 3 := by unfold ad; rw [if_neg (by omega), if_neg (by omega), if_neg (by omega), if_neg (by omega), if_neg (by omega)]
      have t3 : tl (11 + j) = 0 := by unfold tl; rw [if_neg (by omega)]
      have r3 : rk (11 + j) = 4 := by unfold rk; rw [if_neg (by omega), if_neg (by omega), if_neg (by omega), if_neg (by omega), if_neg (by omega)]
      rw [ps_11]
      by_cases c1 : kw T K = 14
      · obtain ⟨k1, k2, k3⟩ := nx1 (by have := kw_2 (T := T) (K := K) (by omega); omega)
        rw [if_pos c1]
        by_cases c2 : 11 + j = 17
        · rw [if_pos c2]
          exact ⟨_, rfl, by omega, by omega, hKn⟩
        · rw [if_neg c2]
          obtain ⟨x, hx, gx⟩ := sub (11 + (j + 1)) _ (by omega) k1 k2
          have a4 : ad (11 + (j + 1)) = 3 := by unfold ad; rw [if_neg (by omega), if_neg (by omega), if_neg (by omega), if_neg (by omega), if_neg (by omega)]
          have t4 : tl (11 + (j + 1)) = 0 := by unfold tl; rw [if_neg (by omega)]
          rw [hx]
          match x, gx with
          | .inl _, gx => exact ⟨_, rfl, gx⟩
          | .inr (c, K2), gx =>
            obtain ⟨q1, q2, q3, q4⟩ := gx
            refine ⟨.inr (c ++ [(3, 0)], K2), rfl, q1, by rw [List.length_append]; show _ + (_ + 1) ≤ _; omega, fun _ => ⟨by have := (q3 t4).1; omega, fun e => by have := (List.append_eq_nil_iff.mp e).2; cases this⟩, fun s P hs hP => ?_⟩
            rw [List.append_assoc, t3]
            have h3 : okP ([(3, 0)] ++ P) (s + 1) := Or.inr (Or.inr (Or.inl ⟨rfl, by omega, hP⟩))
            have := q4 s ([(3, 0)] ++ P) (by omega) h3
            rw [t4] at this
            exact this
      · rw [if_neg c1]
        obtain ⟨x, hx, gx⟩ := ih 3 v K hK hv (by omega) (by have : rk 3 = 3 := rfl; omega)
        refine ⟨x, hx, ?_⟩
        match x, gx with
        | .inl _, gx => exact gx
        | .inr (c, K2), gx =>
          obtain ⟨q1, q2, q3, q4⟩ := gx
          exact ⟨q1, q2, fun _ => q3 rfl, fun s P hs hP => by rw [t3]; exact q4 s P (by rw [a3] at hs; exact hs) hP⟩
end PA
