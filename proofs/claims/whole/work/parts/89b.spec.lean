/-! L3: what a rule's text means -/
def nxt (T : Nat → Nat) (n : Nat) (K : Nat × Nat × Nat) : Nat × Nat × Nat := tok T n K.2.1
def bnd (r : Option ((Nat × Nat) ⊕ (List (Nat × Nat) × Nat × Nat × Nat))) (f : Nat × Nat × Nat → Option ((Nat × Nat) ⊕ (List (Nat × Nat) × Nat × Nat × Nat))) : Option ((Nat × Nat) ⊕ (List (Nat × Nat) × Nat × Nat × Nat)) := match r with
  | none => none
  | some (.inl q) => some (.inl q)
  | some (.inr (c, K)) => match f K with
    | none => none
    | some (.inl q) => some (.inl q)
    | some (.inr (c', K')) => some (.inr (c ++ c', K'))
def suf (o : Nat × Nat) (r : Option ((Nat × Nat) ⊕ (List (Nat × Nat) × Nat × Nat × Nat))) : Option ((Nat × Nat) ⊕ (List (Nat × Nat) × Nat × Nat × Nat)) := match r with
  | none => none
  | some (.inl q) => some (.inl q)
  | some (.inr (c, K)) => some (.inr (c ++ [o], K))
def clo (T : Nat → Nat) (n : Nat) (r : Option ((Nat × Nat) ⊕ (List (Nat × Nat) × Nat × Nat × Nat))) : Option ((Nat × Nat) ⊕ (List (Nat × Nat) × Nat × Nat × Nat)) := match r with
  | none => none
  | some (.inl q) => some (.inl q)
  | some (.inr (c, K)) => if K.2.2 = 3 ∧ T K.1 = 41 then some (.inr (c, nxt T n K)) else some (.inl (1, K.1))
def ps (T : Nat → Nat) (n : Nat) : Nat → Nat → Nat → Nat × Nat × Nat → Option ((Nat × Nat) ⊕ (List (Nat × Nat) × Nat × Nat × Nat))
  | 0, _, _, _ => none
  | d + 1, l, v, K =>
    if l = 0 then
      (if K.2.2 = 3 ∧ T K.1 = 40 then
        (if v + 1 < 6 then clo T n (ps T n d 6 (v + 1) (nxt T n K))
        else some (.inl ((if (nxt T n K).2.2 = 1 ∨ (nxt T n K).2.2 = 2 ∨ ((nxt T n K).2.2 = 3 ∧ T (nxt T n K).1 = 40) then 2 else 1), (nxt T n K).1)))
      else if K.2.2 = 2 then (if 1 ≤ kw T K ∧ kw T K ≤ 6 then some (.inr ([(2, kw T K - 1)], nxt T n K)) else some (.inl (3, K.1)))
      else if K.2.2 = 1 then (if 4 < K.2.1 - K.1 then some (.inl (2, K.1)) else some (.inr ([(1, vl T K.1 (K.2.1 - K.1))], nxt T n K)))
      else some (.inl (1, K.1)))
    else if l = 1 then bnd (ps T n d 0 v K) (ps T n d 7 v)
    else if l = 2 then bnd (ps T n d 1 v K) (ps T n d 8 v)
    else if l = 3 then bnd (ps T n d 2 v K) (fun K' => if K'.2.2 = 3 ∧ T K'.1 = 60 then suf (6, 0) (ps T n d 2 v (nxt T n K')) else if K'.2.2 = 3 ∧ T K'.1 = 61 then suf (7, 0) (ps T n d 2 v (nxt T n K')) else some (.inr ([], K')))
    else if l = 4 then ps T n d 11 v K
    else if l = 5 then bnd (ps T n d 4 v K) (ps T n d 9 v)
    else if l = 6 then bnd (ps T n d 5 v K) (ps T n d 10 v)
    else if l = 7 then (if K.2.2 = 3 ∧ T K.1 = 42 then bnd (suf (10, 0) (ps T n d 0 v (nxt T n K))) (ps T n d 7 v) else if K.2.2 = 3 ∧ T K.1 = 47 then bnd (suf (11, 0) (ps T n d 0 v (nxt T n K))) (ps T n d 7 v) else some (.inr ([], K)))
    else if l = 8 then (if K.2.2 = 3 ∧ T K.1 = 43 then bnd (suf (8, 0) (ps T n d 1 v (nxt T n K))) (ps T n d 8 v) else if K.2.2 = 3 ∧ T K.1 = 45 then bnd (suf (9, 0) (ps T n d 1 v (nxt T n K))) (ps T n d 8 v) else some (.inr ([], K)))
    else if l = 9 then (if kw T K = 12 then bnd (suf (4, 0) (ps T n d 4 v (nxt T n K))) (ps T n d 9 v) else some (.inr ([], K)))
    else if l = 10 then (if kw T K = 13 then bnd (suf (5, 0) (ps T n d 5 v (nxt T n K))) (ps T n d 10 v) else some (.inr ([], K)))
    else (if kw T K = 14 then (if l = 17 then some (.inl (2, K.1)) else suf (3, 0) (ps T n d (l + 1) v (nxt T n K))) else ps T n d 3 v K)
