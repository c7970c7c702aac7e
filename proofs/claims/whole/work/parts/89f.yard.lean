/-! L3: the reference's way through a rule, as steps -/
def stg (x : Nat) : Nat := if x = 5 then 1 else if x = 4 then 2 else if x = 3 then 3 else if x = 6 then 4 else if x = 7 then 4 else if x = 8 then 5 else if x = 9 then 5 else 6
def dr (b : Nat) : List Nat → List Nat × List Nat
  | [] => ([], [])
  | x :: W => if x < 14 ∧ b ≤ stg x then (x :: (dr b W).1, (dr b W).2) else ([], x :: W)
def cds (Q : List Nat) : List (Nat × Nat) := Q.map (fun x => (x, 0))
abbrev SyS := Nat × List (Nat × Nat) × List Nat × List Bool × Nat × Nat × Nat
def fl9 (f p : Nat) : SyS := (200, [], [], [], f, p, 0)
def sst (T : Nat → Nat) (n : Nat) (s : SyS) : SyS :=
  let m := s.1
  let C := s.2.1
  let W := s.2.2.1
  let D := s.2.2.2.1
  let K := s.2.2.2.2
  if m ≤ 7 then
    (if 1 ≤ m ∧ kw T K = 14 then (if m = 7 then fl9 2 K.1 else (m + 1, C, 3 :: W, D, nxt T n K))
    else if K.2.2 = 3 ∧ T K.1 = 40 then (if D.length < 6 then (1, C, 14 :: W, false :: D, nxt T n K) else fl9 (if (nxt T n K).2.2 = 1 ∨ (nxt T n K).2.2 = 2 ∨ ((nxt T n K).2.2 = 3 ∧ T (nxt T n K).1 = 40) then 2 else 1) (nxt T n K).1)
    else if K.2.2 = 2 then (if 1 ≤ kw T K ∧ kw T K ≤ 6 then (100, C ++ [(2, kw T K - 1)], W, D, nxt T n K) else fl9 3 K.1)
    else if K.2.2 = 1 then (if 4 < K.2.1 - K.1 then fl9 2 K.1 else (100, C ++ [(1, vl T K.1 (K.2.1 - K.1))], W, D, nxt T n K))
    else fl9 1 K.1)
  else if m = 100 then
    (if kw T K = 12 then (1, C ++ cds (dr 2 W).1, 4 :: (dr 2 W).2, false :: D.tail, nxt T n K)
    else if kw T K = 13 then (1, C ++ cds (dr 1 W).1, 5 :: (dr 1 W).2, false :: D.tail, nxt T n K)
    else if (K.2.2 = 3 ∧ T K.1 = 60) ∧ D.headD false = false then (0, C ++ cds (dr 4 W).1, 6 :: (dr 4 W).2, true :: D.tail, nxt T n K)
    else if (K.2.2 = 3 ∧ T K.1 = 61) ∧ D.headD false = false then (0, C ++ cds (dr 4 W).1, 7 :: (dr 4 W).2, true :: D.tail, nxt T n K)
    else if K.2.2 = 3 ∧ T K.1 = 43 then (0, C ++ cds (dr 5 W).1, 8 :: (dr 5 W).2, D, nxt T n K)
    else if K.2.2 = 3 ∧ T K.1 = 45 then (0, C ++ cds (dr 5 W).1, 9 :: (dr 5 W).2, D, nxt T n K)
    else if K.2.2 = 3 ∧ T K.1 = 42 then (0, C ++ cds (dr 6 W).1, 10 :: (dr 6 W).2, D, nxt T n K)
    else if K.2.2 = 3 ∧ T K.1 = 47 then (0, C ++ cds (dr 6 W).1, 11 :: (dr 6 W).2, D, nxt T n K)
    else if (K.2.2 = 3 ∧ T K.1 = 41) ∧ 14 ∈ W then (100, C ++ cds (dr 0 W).1, (dr 0 W).2.tail, D.tail, nxt T n K)
    else if 1 < D.length then fl9 1 K.1 else (201, C ++ cds (dr 0 W).1, (dr 0 W).2, D, K))
  else s
def sp (T : Nat → Nat) (n : Nat) : Nat → SyS → SyS
  | 0, s => s
  | k + 1, s => sp T n k (sst T n s)
def rch (T : Nat → Nat) (n : Nat) (s t : SyS) : Prop := ∃ k, sp T n k s = t
section SY
variable {T : Nat → Nat} {n : Nat}
theorem sp_add : ∀ a b s, sp T n (a + b) s = sp T n b (sp T n a s) := by
  intro a
  induction a with
  | zero => intro b s; rw [Nat.zero_add]; rfl
  | succ a ih => intro b s; rw [Nat.succ_add]; exact ih b (sst T n s)
theorem rch_r (s : SyS) : rch T n s s := ⟨0, rfl⟩
theorem rch_t {s t r : SyS} (h1 : rch T n s t) (h2 : rch T n t r) : rch T n s r := by
  obtain ⟨a, rfl⟩ := h1
  obtain ⟨b, rfl⟩ := h2
  exact ⟨a + b, sp_add a b s⟩
theorem rch_1 {s t : SyS} (h : sst T n s = t) : rch T n s t := ⟨1, h⟩
theorem sst_t {s : SyS} (h : 200 ≤ s.1) : sst T n s = s := by
  unfold sst
  dsimp only
  rw [if_neg (by omega), if_neg (by omega)]
theorem sp_t {s : SyS} (h : 200 ≤ s.1) : ∀ k, sp T n k s = s := by
  intro k
  induction k with
  | zero => rfl
  | succ k ih => show sp T n k (sst T n s) = s; rw [sst_t h]; exact ih
/-- only one end -/
theorem rch_u {s t r : SyS} (h1 : rch T n s t) (h2 : rch T n s r) (ht : 200 ≤ t.1) (hr : 200 ≤ r.1) : t = r := by
  obtain ⟨a, ha⟩ := h1
  obtain ⟨b, hb⟩ := h2
  have e1 : sp T n (a + b) s = t := by rw [sp_add, ha]; exact sp_t ht b
  have e2 : sp T n (b + a) s = r := by rw [sp_add, hb]; exact sp_t hr a
  rw [Nat.add_comm] at e2
  rw [← e1, e2]
def wk (b : Nat) (W : List Nat) : Prop := ∀ x, W.head? = some x → 14 ≤ x ∨ stg x < b
def hv9 (b : Nat) (Q : List Nat) : Prop := ∀ x, x ∈ Q → x < 14 ∧ b ≤ stg x
theorem dr_q {b : Nat} {Q W : List Nat} (hq : hv9 b Q) (hw : wk b W) : dr b (Q ++ W) = (Q, W) := by
  induction Q with
  | nil =>
    cases W with
    | nil => rfl
    | cons x W =>
      have := hw x rfl
      show (if x < 14 ∧ b ≤ stg x then _ else _) = _
      rw [if_neg (by omega)]
  | cons x Q ih =>
    have := hq x (List.mem_cons_self ..)
    show (if x < 14 ∧ b ≤ stg x then (x :: (dr b (Q ++ W)).1, (dr b (Q ++ W)).2) else _) = _
    rw [if_pos this, ih (fun y hy => hq y (List.mem_cons_of_mem _ hy))]
theorem wk_m {a b : Nat} {W : List Nat} (h : wk a W) (hab : a ≤ b) : wk b W := fun x hx => by have := h x hx; omega
theorem hv_m {a b : Nat} {Q : List Nat} (h : hv9 a Q) (hab : b ≤ a) : hv9 b Q := fun x hx => by have := h x hx; omega
theorem wk_c {b x : Nat} {W : List Nat} (h : 14 ≤ x ∨ stg x < b) : wk b (x :: W) := fun y hy => by cases hy; exact h
theorem cds_a (Q R : List Nat) : cds (Q ++ R) = cds Q ++ cds R := List.map_append
theorem hv_a {b : Nat} {Q R : List Nat} (h1 : hv9 b Q) (h2 : hv9 b R) : hv9 b (Q ++ R) := fun x hx => (List.mem_append.mp hx).elim (h1 x) (h2 x)
theorem hv_1 {b x : Nat} (h : x < 14 ∧ b ≤ stg x) : hv9 b [x] := fun y hy => by cases hy with
  | head => exact h
  | tail _ h => cases h
/-- the level of strength -/
def lv (l : Nat) : Nat := if l = 7 then 1 else if l = 8 then 2 else if l = 9 then 5 else if l = 10 then 6 else if 11 ≤ l then 4 else l
def stp9 (T : Nat → Nat) (b : Nat) (t t' : Bool) (K : Nat × Nat × Nat) : Prop := (b ≤ 2 → t' = t) ∧ (1 ≤ b → ¬ (K.2.2 = 3 ∧ T K.1 = 42) ∧ ¬ (K.2.2 = 3 ∧ T K.1 = 47)) ∧ (2 ≤ b → ¬ (K.2.2 = 3 ∧ T K.1 = 43) ∧ ¬ (K.2.2 = 3 ∧ T K.1 = 45)) ∧ (3 ≤ b → (K.2.2 = 3 ∧ T K.1 = 60 → t' = true) ∧ (K.2.2 = 3 ∧ T K.1 = 61 → t' = true)) ∧ (5 ≤ b → kw T K ≠ 12) ∧ (6 ≤ b → kw T K ≠ 13)
/-- from an operand -/
def so (T : Nat → Nat) (n b : Nat) (C : List (Nat × Nat)) (W : List Nat) (t : Bool) (D : List Bool) (s : SyS) : (Nat × Nat) ⊕ (List (Nat × Nat) × Nat × Nat × Nat) → Prop
  | .inl (f, p) => rch T n s (fl9 f p)
  | .inr (c, K') => ∃ c0 Q t', c = c0 ++ cds Q ∧ hv9 (7 - b) Q ∧ rch T n s (100, C ++ c0, Q ++ W, t' :: D, K') ∧ stp9 T b t t' K'
/-- from behind one -/
def sq9 (T : Nat → Nat) (n b : Nat) (C : List (Nat × Nat)) (Q W : List Nat) (t : Bool) (D : List Bool) (s : SyS) : (Nat × Nat) ⊕ (List (Nat × Nat) × Nat × Nat × Nat) → Prop
  | .inl (f, p) => rch T n s (fl9 f p)
  | .inr (c, K') => ∃ c1 Q1 t', cds Q ++ c = c1 ++ cds Q1 ∧ hv9 (7 - b) Q1 ∧ rch T n s (100, C ++ c1, Q1 ++ W, t' :: D, K') ∧ stp9 T b t t' K'
def SC (T : Nat → Nat) (n d : Nat) : Prop := ∀ l v K x, ps T n d l v K = some x → v ≤ 5 → l ≤ 17 → ∀ C W t D, D.length = v →
  ((l ≤ 6 ∨ 11 ≤ l) → ∀ m, ((l ≤ 3 → m ≤ 7 ∧ (m = 0 ∨ kw T K ≠ 14)) ∧ (4 ≤ l → l ≤ 6 → m = 1) ∧ (11 ≤ l → m + 10 = l)) → wk (if 11 ≤ l then 4 else 7 - l) W → (3 ≤ l → t = false) → so T n (lv l) C W t D (m, C, W, t :: D, K) x) ∧
  ((7 ≤ l ∧ l ≤ 10) → ∀ Q, hv9 (7 - lv l) Q → wk (7 - lv l) W → stp9 T (lv l - 1) t t K → sq9 T n (lv l) C Q W t D (100, C, Q ++ W, t :: D, K) x)
theorem so_bnd {b b' : Nat} {C : List (Nat × Nat)} {W : List Nat} {t : Bool} {D : List Bool} {s : SyS} {r : Option ((Nat × Nat) ⊕ (List (Nat × Nat) × Nat × Nat × Nat))} {f : Nat × Nat × Nat → Option ((Nat × Nat) ⊕ (List (Nat × Nat) × Nat × Nat × Nat))} {x : (Nat × Nat) ⊕ (List (Nat × Nat) × Nat × Nat × Nat)} (e : bnd r f = some x) (h1 : ∀ y, r = some y → so T n b' C W t D s y) (h2 : ∀ K' y C1 Q t1, f K' = some y → hv9 (7 - b') Q → stp9 T b' t t1 K' → sq9 T n b C1 Q W t1 D (100, C1, Q ++ W, t1 :: D, K') y) (h3 : ∀ t1 t2 K1 K2, stp9 T b' t t1 K1 → stp9 T b t1 t2 K2 → stp9 T b t t2 K2) : so T n b C W t D s x := by
  match r, e, h1 with
  | none, e, h1 => cases e
  | some (.inl (f1, p1)), e, h1 => cases e; exact h1 _ rfl
  | some (.inr (c, K1)), e, h1 =>
    obtain ⟨c0, Q, t1, g1, g2, g3, g4⟩ := h1 _ rfl
    unfold bnd at e
    dsimp only at e
    match hf : f K1, e with
    | none, e => cases e
    | some (.inl (f1, p1)), e =>
      cases e
      exact rch_t g3 (h2 _ _ _ _ _ hf g2 g4)
    | some (.inr (c2, K2)), e =>
      cases e
      obtain ⟨c1, Q1, t2, k1, k2, k3, k4⟩ := h2 _ _ _ _ _ hf g2 g4
      refine ⟨c0 ++ c1, Q1, t2, ?_, k2, rch_t g3 ?_, h3 _ _ _ _ g4 k4⟩
      · rw [g1, List.append_assoc, k1, List.append_assoc]
      · rw [← List.append_assoc]; exact k3
/-- an operator, its second part, and so on -/
theorem sq_op {b b' o m : Nat} {C : List (Nat × Nat)} {Q W : List Nat} {t t0 : Bool} {D : List Bool} {K : Nat × Nat × Nat} {s : SyS} {r : Option ((Nat × Nat) ⊕ (List (Nat × Nat) × Nat × Nat × Nat))} {f : Nat × Nat × Nat → Option ((Nat × Nat) ⊕ (List (Nat × Nat) × Nat × Nat × Nat))} {x : (Nat × Nat) ⊕ (List (Nat × Nat) × Nat × Nat × Nat)} (e : bnd (suf (o, 0) r) f = some x) (ho : o < 14 ∧ 7 - b ≤ stg o) (hb : b' ≤ b) (hs : sst T n s = (m, C ++ cds Q, o :: W, t0 :: D, K)) (h1 : ∀ y, r = some y → so T n b' (C ++ cds Q) (o :: W) t0 D (m, C ++ cds Q, o :: W, t0 :: D, K) y) (h2 : ∀ K' y C1 Q t1, f K' = some y → hv9 (7 - b) Q → stp9 T b' t0 t1 K' → sq9 T n b C1 Q W t1 D (100, C1, Q ++ W, t1 :: D, K') y) (h3 : ∀ t1 t2 K1 K2, stp9 T b' t0 t1 K1 → stp9 T b t1 t2 K2 → stp9 T b t t2 K2) : sq9 T n b C Q W t D s x := by
  match r, e, h1 with
  | none, e, h1 => cases e
  | some (.inl (f1, p1)), e, h1 => cases e; exact rch_t (rch_1 hs) (h1 _ rfl)
  | some (.inr (c, K1)), e, h1 =>
    obtain ⟨c0, R, t1, g1, g2, g3, g4⟩ := h1 _ rfl
    have g3 := rch_t (rch_1 hs) g3
    rw [show R ++ o :: W = (R ++ [o]) ++ W by rw [List.append_assoc]; rfl] at g3
    have g5 : hv9 (7 - b) (R ++ [o]) := hv_a (hv_m g2 (by omega)) (hv_1 ho)
    unfold suf bnd at e
    dsimp only at e
    match hf : f K1, e with
    | none, e => cases e
    | some (.inl (f1, p1)), e =>
      cases e
      exact rch_t g3 (h2 _ _ _ _ _ hf g5 g4)
    | some (.inr (c2, K2)), e =>
      cases e
      obtain ⟨c1, Q1, t2, k1, k2, k3, k4⟩ := h2 _ _ _ _ _ hf g5 g4
      refine ⟨cds Q ++ c0 ++ c1, Q1, t2, ?_, k2, rch_t g3 ?_, h3 _ _ _ _ g4 k4⟩
      · rw [g1]
        rw [cds_a] at k1
        have k1 : cds R ++ [(o, 0)] ++ c2 = c1 ++ cds Q1 := k1
        simp only [List.append_assoc] at k1 ⊢
        rw [k1]
      · simp only [← List.append_assoc] at k3 ⊢
        exact k3
theorem stp_x {b : Nat} {t0 t1 t2 : Bool} {K1 K2 : Nat × Nat × Nat} {b' : Nat} (h : b' ≤ b) (h1 : stp9 T b' t0 t1 K1) (h2 : stp9 T b t1 t2 K2) : stp9 T b t0 t2 K2 := by
  obtain ⟨a1, a2⟩ := h2
  refine ⟨fun hb => ?_, a2⟩
  rw [a1 hb]
  exact h1.1 (by omega)
theorem sq_nil {b : Nat} {C : List (Nat × Nat)} {Q W : List Nat} {t : Bool} {D : List Bool} {K : Nat × Nat × Nat} {x : (Nat × Nat) ⊕ (List (Nat × Nat) × Nat × Nat × Nat)} (e : some (.inr ([], K)) = some x) (hq : hv9 (7 - b) Q) (hs : stp9 T b t t K) : sq9 T n b C Q W t D (100, C, Q ++ W, t :: D, K) x := by
  cases e
  refine ⟨[], Q, t, ?_, hq, ?_, hs⟩
  · rw [List.append_nil, List.nil_append]
  · rw [List.append_nil]; exact rch_r _
theorem kw_s {K : Nat × Nat × Nat} (h : K.2.2 ≠ 2) : kw T K = 0 := by
  unfold kw
  rw [if_neg h]
theorem stp_s {b : Nat} {t t1 : Bool} {K : Nat × Nat × Nat} (h : stp9 T b t t1 K) : stp9 T b t1 t1 K := ⟨fun _ => rfl, h.2⟩
theorem stp_d {b b' : Nat} {t t0 t1 t2 : Bool} {K1 K2 : Nat × Nat × Nat} (h : 3 ≤ b) (h2 : stp9 T b t1 t2 K2) : stp9 T b t t2 K2 := ⟨fun hb => by omega, h2.2⟩
section ST
variable {C : List (Nat × Nat)} {W : List Nat} {t : Bool} {D : List Bool} {K : Nat × Nat × Nat}
theorem s_and (h : kw T K = 12) : sst T n (100, C, W, t :: D, K) = (1, C ++ cds (dr 2 W).1, 4 :: (dr 2 W).2, false :: D, nxt T n K) := by
  unfold sst
  dsimp only
  rw [if_neg (by omega), if_pos rfl, if_pos h]
  rfl
theorem s_or (h : kw T K = 13) : sst T n (100, C, W, t :: D, K) = (1, C ++ cds (dr 1 W).1, 5 :: (dr 1 W).2, false :: D, nxt T n K) := by
  unfold sst
  dsimp only
  rw [if_neg (by omega), if_pos rfl, if_neg (by omega), if_pos h]
  rfl
theorem s_ls (h : K.2.2 = 3 ∧ T K.1 = 60) : sst T n (100, C, W, false :: D, K) = (0, C ++ cds (dr 4 W).1, 6 :: (dr 4 W).2, true :: D, nxt T n K) := by
  have hk := kw_s (T := T) (K := K) (by omega)
  unfold sst
  dsimp only
  rw [if_neg (by omega), if_pos rfl, if_neg (by omega), if_neg (by omega), if_pos ⟨h, rfl⟩]
  rfl
theorem s_eq (h : K.2.2 = 3 ∧ T K.1 = 61) : sst T n (100, C, W, false :: D, K) = (0, C ++ cds (dr 4 W).1, 7 :: (dr 4 W).2, true :: D, nxt T n K) := by
  have hk := kw_s (T := T) (K := K) (by omega)
  unfold sst
  dsimp only
  rw [if_neg (by omega), if_pos rfl, if_neg (by omega), if_neg (by omega), if_neg (by omega), if_pos ⟨h, rfl⟩]
  rfl
theorem s_pl (h : K.2.2 = 3 ∧ T K.1 = 43) : sst T n (100, C, W, t :: D, K) = (0, C ++ cds (dr 5 W).1, 8 :: (dr 5 W).2, t :: D, nxt T n K) := by
  have hk := kw_s (T := T) (K := K) (by omega)
  unfold sst
  dsimp only
  rw [if_neg (by omega), if_pos rfl, if_neg (by omega), if_neg (by omega), if_neg (by omega), if_neg (by omega), if_pos h]
theorem s_mi (h : K.2.2 = 3 ∧ T K.1 = 45) : sst T n (100, C, W, t :: D, K) = (0, C ++ cds (dr 5 W).1, 9 :: (dr 5 W).2, t :: D, nxt T n K) := by
  have hk := kw_s (T := T) (K := K) (by omega)
  unfold sst
  dsimp only
  rw [if_neg (by omega), if_pos rfl, if_neg (by omega), if_neg (by omega), if_neg (by omega), if_neg (by omega), if_neg (by omega), if_pos h]
theorem s_ti (h : K.2.2 = 3 ∧ T K.1 = 42) : sst T n (100, C, W, t :: D, K) = (0, C ++ cds (dr 6 W).1, 10 :: (dr 6 W).2, t :: D, nxt T n K) := by
  have hk := kw_s (T := T) (K := K) (by omega)
  unfold sst
  dsimp only
  rw [if_neg (by omega), if_pos rfl, if_neg (by omega), if_neg (by omega), if_neg (by omega), if_neg (by omega), if_neg (by omega), if_neg (by omega), if_pos h]
theorem s_ov (h : K.2.2 = 3 ∧ T K.1 = 47) : sst T n (100, C, W, t :: D, K) = (0, C ++ cds (dr 6 W).1, 11 :: (dr 6 W).2, t :: D, nxt T n K) := by
  have hk := kw_s (T := T) (K := K) (by omega)
  unfold sst
  dsimp only
  rw [if_neg (by omega), if_pos rfl, if_neg (by omega), if_neg (by omega), if_neg (by omega), if_neg (by omega), if_neg (by omega), if_neg (by omega), if_neg (by omega), if_pos h]
theorem s_cl (h : K.2.2 = 3 ∧ T K.1 = 41) (hw : 14 ∈ W) : sst T n (100, C, W, t :: D, K) = (100, C ++ cds (dr 0 W).1, (dr 0 W).2.tail, D, nxt T n K) := by
  have hk := kw_s (T := T) (K := K) (by omega)
  unfold sst
  dsimp only
  rw [if_neg (by omega), if_pos rfl, if_neg (by omega), if_neg (by omega), if_neg (by omega), if_neg (by omega), if_neg (by omega), if_neg (by omega), if_neg (by omega), if_neg (by omega), if_pos ⟨h, hw⟩]
  rfl
theorem s_no (h : stp9 T 6 t t K) (hc : ¬ ((K.2.2 = 3 ∧ T K.1 = 41) ∧ 14 ∈ W)) : sst T n (100, C, W, t :: D, K) = if 1 < (t :: D).length then fl9 1 K.1 else (201, C ++ cds (dr 0 W).1, (dr 0 W).2, t :: D, K) := by
  obtain ⟨-, h1, h2, h3, h4, h5⟩ := h
  have h1 := h1 (by omega)
  have h2 := h2 (by omega)
  have h3 := h3 (by omega)
  have h4 := h4 (by omega)
  have h5 := h5 (by omega)
  unfold sst
  dsimp only
  rw [if_neg (by omega), if_pos rfl, if_neg h4, if_neg h5, if_neg (fun e => by have e2 : t = false := e.2; rw [h3.1 e.1] at e2; cases e2), if_neg (fun e => by have e2 : t = false := e.2; rw [h3.2 e.1] at e2; cases e2), if_neg h2.1, if_neg h2.2, if_neg h1.1, if_neg h1.2, if_neg hc]
end ST
theorem sq_op2 {b b' o m q : Nat} {C : List (Nat × Nat)} {Q W : List Nat} {t t0 : Bool} {D : List Bool} {K K1 : Nat × Nat × Nat} {r : Option ((Nat × Nat) ⊕ (List (Nat × Nat) × Nat × Nat × Nat))} {f : Nat × Nat × Nat → Option ((Nat × Nat) ⊕ (List (Nat × Nat) × Nat × Nat × Nat))} {x : (Nat × Nat) ⊕ (List (Nat × Nat) × Nat × Nat × Nat)} (e : bnd (suf (o, 0) r) f = some x) (ho : o < 14 ∧ q = stg o) (hq : q = 7 - b) (hb : b' ≤ b) (hQ : hv9 (7 - b) Q) (hW : wk (7 - b) W) (hs : sst T n (100, C, Q ++ W, t :: D, K1) = (m, C ++ cds (dr q (Q ++ W)).1, o :: (dr q (Q ++ W)).2, t0 :: D, K)) (h1 : ∀ y, r = some y → so T n b' (C ++ cds Q) (o :: W) t0 D (m, C ++ cds Q, o :: W, t0 :: D, K) y) (h2 : ∀ K' y C1 Q t1, f K' = some y → hv9 (7 - b) Q → stp9 T b' t0 t1 K' → sq9 T n b C1 Q W t1 D (100, C1, Q ++ W, t1 :: D, K') y) (ht : 3 ≤ b ∨ t0 = t) : sq9 T n b C Q W t D (100, C, Q ++ W, t :: D, K1) x := by
  subst hq
  rw [dr_q hQ hW] at hs
  refine sq_op e ⟨ho.1, by omega⟩ hb hs h1 h2 (fun t1 t2 K1 K2 a1 a2 => ?_)
  rcases ht with ht | ht
  · exact ⟨fun hb => by omega, a2.2⟩
  · subst ht
    exact stp_x hb a1 a2
theorem sy_all : ∀ d, SC T n d := by
  intro d
  induction d with
  | zero => intro l v K x e; cases e
  | succ d ih =>
    intro l v K x e hv hl C W t D hD
    have hc : l = 0 ∨ l = 1 ∨ l = 2 ∨ l = 3 ∨ l = 4 ∨ l = 5 ∨ l = 6 ∨ l = 7 ∨ l = 8 ∨ l = 9 ∨ l = 10 ∨ 11 ≤ l := by omega
    rcases hc with h | h | h | h | h | h | h | h | h | h | h | h
    · subst h
      refine ⟨fun _ m hm hw _ => ?_, fun h => by omega⟩
      obtain ⟨hm1, hm2⟩ := hm.1 (by omega)
      rw [ps_0] at e
      have hst : ∀ y, (if K.2.2 = 3 ∧ T K.1 = 40 then (if (t :: D).length < 6 then ((1, C, 14 :: W, false :: t :: D, nxt T n K) : SyS) else fl9 (if (nxt T n K).2.2 = 1 ∨ (nxt T n K).2.2 = 2 ∨ ((nxt T n K).2.2 = 3 ∧ T (nxt T n K).1 = 40) then 2 else 1) (nxt T n K).1)
    else if K.2.2 = 2 then (if 1 ≤ kw T K ∧ kw T K ≤ 6 then (100, C ++ [(2, kw T K - 1)], W, t :: D, nxt T n K) else fl9 3 K.1)
    else if K.2.2 = 1 then (if 4 < K.2.1 - K.1 then fl9 2 K.1 else (100, C ++ [(1, vl T K.1 (K.2.1 - K.1))], W, t :: D, nxt T n K))
    else fl9 1 K.1) = y → rch T n (m, C, W, t :: D, K) y := by
        intro y hy
        refine rch_1 ?_
        unfold sst
        dsimp only
        rw [if_pos hm1, if_neg (by omega)]
        exact hy
      by_cases c1 : K.2.2 = 3 ∧ T K.1 = 40
      · rw [if_pos c1] at e
        simp only [if_pos c1] at hst
        have hlen : (t :: D).length = v + 1 := by rw [List.length_cons, hD]
        rw [hlen] at hst
        by_cases c2 : v + 1 < 6
        · rw [if_pos c2] at e
          simp only [if_pos c2] at hst
          cases h6 : ps T n d 6 (v + 1) (nxt T n K) with
          | none => rw [h6] at e; cases e
          | some y =>
            have hy := (ih 6 (v + 1) _ y h6 (by omega) (by omega) C (14 :: W) false (t :: D) hlen).1 (by omega) 1 ⟨fun h => by omega, fun _ _ => rfl, fun h => by omega⟩ (wk_c (Or.inl (by omega))) (fun _ => rfl)
            rw [h6] at e
            match y, hy with
            | .inl (f1, p1), hy =>
              cases e
              exact rch_t (hst _ rfl) hy
            | .inr (c, K2), hy =>
              obtain ⟨c0, Q, t1, g1, g2, g3, g4⟩ := hy
              have g3 := rch_t (hst _ rfl) g3
              unfold clo at e
              dsimp only at e
              by_cases c3 : K2.2.2 = 3 ∧ T K2.1 = 41
              · rw [if_pos c3] at e
                cases e
                have h9 := s_cl (T := T) (n := n) (C := C ++ c0) (W := Q ++ 14 :: W) (t := t1) (D := t :: D) c3 (List.mem_append.mpr (Or.inr (List.mem_cons_self ..)))
                rw [dr_q (hv_m g2 (by omega)) (wk_c (Or.inl (by omega)))] at h9
                refine ⟨c, [], t, ?_, fun x hx => (by cases hx), rch_t g3 (rch_1 ?_), fun _ => rfl, fun h => by have : (1 : Nat) ≤ 0 := h; omega, fun h => by have : (2 : Nat) ≤ 0 := h; omega, fun h => by have : (3 : Nat) ≤ 0 := h; omega, fun h => by have : (5 : Nat) ≤ 0 := h; omega, fun h => by have : (6 : Nat) ≤ 0 := h; omega⟩
                · show c = c ++ []; rw [List.append_nil]
                · rw [h9, g1, List.append_assoc]; rfl
              · rw [if_neg c3] at e
                cases e
                refine rch_t g3 (rch_1 ?_)
                rw [s_no (stp_s g4) (fun h => c3 h.1), if_pos (by rw [List.length_cons, hlen]; omega)]
        · rw [if_neg c2] at e
          simp only [if_neg c2] at hst
          cases e
          exact hst _ rfl
      · rw [if_neg c1] at e
        simp only [if_neg c1] at hst
        have fin : ∀ c : Nat × Nat, rch T n (m, C, W, t :: D, K) (100, C ++ [c], W, t :: D, nxt T n K) → so T n 0 C W t D (m, C, W, t :: D, K) (.inr ([c], nxt T n K)) := fun c hr => ⟨[c], [], t, rfl, fun x hx => (by cases hx), hr, fun _ => rfl, fun h => by omega, fun h => by omega, fun h => by omega, fun h => by omega, fun h => by omega⟩
        by_cases c2 : K.2.2 = 2
        · rw [if_pos c2] at e
          simp only [if_pos c2] at hst
          by_cases c3 : 1 ≤ kw T K ∧ kw T K ≤ 6
          · rw [if_pos c3] at e
            simp only [if_pos c3] at hst
            cases e
            exact fin _ (hst _ rfl)
          · rw [if_neg c3] at e
            simp only [if_neg c3] at hst
            cases e
            exact hst _ rfl
        · rw [if_neg c2] at e
          simp only [if_neg c2] at hst
          by_cases c3 : K.2.2 = 1
          · rw [if_pos c3] at e
            simp only [if_pos c3] at hst
            by_cases c4 : 4 < K.2.1 - K.1
            · rw [if_pos c4] at e
              simp only [if_pos c4] at hst
              cases e
              exact hst _ rfl
            · rw [if_neg c4] at e
              simp only [if_neg c4] at hst
              cases e
              exact fin _ (hst _ rfl)
          · rw [if_neg c3] at e
            simp only [if_neg c3] at hst
            cases e
            exact hst _ rfl
    · subst h
      refine ⟨fun _ m hm hw _ => ?_, fun h => by omega⟩
      rw [ps_1] at e
      exact so_bnd (b' := 0) e (fun y hy => (ih 0 v K y hy hv (by omega) C W t D hD).1 (by omega) m ⟨fun _ => hm.1 (by omega), fun h => by omega, fun h => by omega⟩ (wk_m hw (by decide)) (fun h => by omega)) (fun K' y C1 Q t1 hf hQ hs => (ih 7 v K' y hf hv (by omega) C1 W t1 D hD).2 (by omega) Q (hv_m hQ (by decide)) hw (stp_s hs)) (fun t1 t2 K1 K2 => stp_x (by decide))
    · subst h
      refine ⟨fun _ m hm hw _ => ?_, fun h => by omega⟩
      rw [ps_2] at e
      exact so_bnd (b' := 1) e (fun y hy => (ih 1 v K y hy hv (by omega) C W t D hD).1 (by omega) m ⟨fun _ => hm.1 (by omega), fun h => by omega, fun h => by omega⟩ (wk_m hw (by decide)) (fun h => by omega)) (fun K' y C1 Q t1 hf hQ hs => (ih 8 v K' y hf hv (by omega) C1 W t1 D hD).2 (by omega) Q (hv_m hQ (by decide)) hw (stp_s hs)) (fun t1 t2 K1 K2 => stp_x (by decide))
    · subst h
      refine ⟨fun _ m hm hw h3 => ?_, fun h => by omega⟩
      rw [ps_3] at e
      have ht := h3 (by omega)
      subst ht
      refine so_bnd (b' := 2) e (fun y hy => (ih 2 v K y hy hv (by omega) C W false D hD).1 (by omega) m ⟨fun _ => hm.1 (by omega), fun h => by omega, fun h => by omega⟩ (wk_m hw (by decide)) (fun h => by omega)) (fun K' y C1 Q t1 hf hQ hs => ?_) (fun t1 t2 K1 K2 _ => stp_d (b' := 0) (t0 := false) (K1 := K) (by decide))
      have ht1 := hs.1 (by omega)
      subst ht1
      have e9 : ∀ r : Option ((Nat × Nat) ⊕ (List (Nat × Nat) × Nat × Nat × Nat)), bnd r (fun K => some (.inr ([], K))) = r := by
        intro r
        match r with
        | none => rfl
        | some (.inl _) => rfl
        | some (.inr (c, K)) => show some (Sum.inr (c ++ [], K)) = _; rw [List.append_nil]
      have key : ∀ o, o = 6 ∨ o = 7 → sst T n (100, C1, Q ++ W, false :: D, K') = (0, C1 ++ cds (dr 4 (Q ++ W)).1, o :: (dr 4 (Q ++ W)).2, true :: D, nxt T n K') → suf (o, 0) (ps T n d 2 v (nxt T n K')) = some y → sq9 T n (lv 3) C1 Q W false D (100, C1, Q ++ W, false :: D, K') y := by
        intro o ho hst hsu
        rw [← e9 (suf _ _)] at hsu
        have so4 : stg o = 4 := by rcases ho with h | h <;> subst h <;> rfl
        refine sq_op2 (b' := 2) hsu ⟨by omega, so4.symm⟩ rfl (by decide) (hv_m hQ (by decide)) hw hst (fun y2 hy2 => (ih 2 v _ y2 hy2 hv (by omega) (C1 ++ cds Q) (o :: W) true D hD).1 (by omega) 0 ⟨fun _ => ⟨by omega, Or.inl rfl⟩, fun h => by omega, fun h => by omega⟩ (wk_c (Or.inr (by rw [so4]; decide))) (fun h => by omega)) (fun K9 y9 C9 Q9 t9 h9 hQ9 hs9 => ?_) (Or.inl (by decide))
        have t9t := hs9.1 (by omega)
        subst t9t
        exact sq_nil h9 hQ9 ⟨fun _ => rfl, fun _ => hs9.2.1 (by omega), fun _ => hs9.2.2.1 (by omega), fun _ => ⟨fun _ => rfl, fun _ => rfl⟩, fun h => by have : (5 : Nat) ≤ 3 := h; omega, fun h => by have : (6 : Nat) ≤ 3 := h; omega⟩
      by_cases c1 : K'.2.2 = 3 ∧ T K'.1 = 60
      · rw [if_pos c1] at hf
        exact key 6 (Or.inl rfl) (s_ls c1) hf
      · rw [if_neg c1] at hf
        by_cases c2 : K'.2.2 = 3 ∧ T K'.1 = 61
        · rw [if_pos c2] at hf
          exact key 7 (Or.inr rfl) (s_eq c2) hf
        · rw [if_neg c2] at hf
          exact sq_nil hf (hv_m hQ (by decide)) ⟨fun _ => rfl, fun _ => hs.2.1 (by omega), fun _ => hs.2.2.1 (by omega), fun _ => ⟨fun h => absurd h c1, fun h => absurd h c2⟩, fun h => by have : (5 : Nat) ≤ 3 := h; omega, fun h => by have : (6 : Nat) ≤ 3 := h; omega⟩
    · subst h
      refine ⟨fun _ m hm hw h3 => ?_, fun h => by omega⟩
      rw [ps_4] at e
      have hm1 := hm.2.1 (by omega) (by omega)
      subst hm1
      exact (ih 11 v K x e hv (by omega) C W t D hD).1 (by omega) 1 ⟨fun h => by omega, fun _ h => by omega, fun _ => rfl⟩ (wk_m hw (by decide)) (fun _ => h3 (by omega))
    · subst h
      refine ⟨fun _ m hm hw h3 => ?_, fun h => by omega⟩
      rw [ps_5] at e
      exact so_bnd (b' := 4) e (fun y hy => (ih 4 v K y hy hv (by omega) C W t D hD).1 (by omega) m ⟨fun h => by omega, fun _ _ => hm.2.1 (by omega) (by omega), fun h => by omega⟩ (wk_m hw (by decide)) (fun _ => h3 (by omega))) (fun K' y C1 Q t1 hf hQ hs => (ih 9 v K' y hf hv (by omega) C1 W t1 D hD).2 (by omega) Q (hv_m hQ (by decide)) hw (stp_s hs)) (fun t1 t2 K1 K2 => stp_x (by decide))
    · subst h
      refine ⟨fun _ m hm hw h3 => ?_, fun h => by omega⟩
      rw [ps_6] at e
      exact so_bnd (b' := 5) e (fun y hy => (ih 5 v K y hy hv (by omega) C W t D hD).1 (by omega) m ⟨fun h => by omega, fun _ _ => hm.2.1 (by omega) (by omega), fun h => by omega⟩ (wk_m hw (by decide)) (fun _ => h3 (by omega))) (fun K' y C1 Q t1 hf hQ hs => (ih 10 v K' y hf hv (by omega) C1 W t1 D hD).2 (by omega) Q (hv_m hQ (by decide)) hw (stp_s hs)) (fun t1 t2 K1 K2 => stp_x (by decide))
    · subst h
      refine ⟨fun h => by omega, fun _ Q hQ hw hs => ?_⟩
      rw [ps_7] at e
      by_cases c1 : K.2.2 = 3 ∧ T K.1 = 42
      · rw [if_pos c1] at e
        exact sq_op2 (b' := 0) e ⟨by omega, rfl⟩ rfl (by decide) hQ hw (s_ti c1) (fun y hy => (ih 0 v _ y hy hv (by omega) _ _ t D hD).1 (by omega) 0 ⟨fun _ => ⟨by omega, Or.inl rfl⟩, fun h => by omega, fun h => by omega⟩ (wk_c (Or.inr (by decide))) (fun h => by omega)) (fun K9 y9 C9 Q9 t9 h9 hQ9 hs9 => (ih 7 v K9 y9 h9 hv (by omega) C9 W t9 D hD).2 (by omega) Q9 hQ9 hw (stp_s hs9)) (Or.inr rfl)
      · rw [if_neg c1] at e
        by_cases c2 : K.2.2 = 3 ∧ T K.1 = 47
        · rw [if_pos c2] at e
          exact sq_op2 (b' := 0) e ⟨by omega, rfl⟩ rfl (by decide) hQ hw (s_ov c2) (fun y hy => (ih 0 v _ y hy hv (by omega) _ _ t D hD).1 (by omega) 0 ⟨fun _ => ⟨by omega, Or.inl rfl⟩, fun h => by omega, fun h => by omega⟩ (wk_c (Or.inr (by decide))) (fun h => by omega)) (fun K9 y9 C9 Q9 t9 h9 hQ9 hs9 => (ih 7 v K9 y9 h9 hv (by omega) C9 W t9 D hD).2 (by omega) Q9 hQ9 hw (stp_s hs9)) (Or.inr rfl)
        · rw [if_neg c2] at e
          exact sq_nil e hQ ⟨fun _ => rfl, fun _ => ⟨c1, c2⟩, fun h => by have : (2 : Nat) ≤ 1 := h; omega, fun h => by have : (3 : Nat) ≤ 1 := h; omega, fun h => by have : (5 : Nat) ≤ 1 := h; omega, fun h => by have : (6 : Nat) ≤ 1 := h; omega⟩
    · subst h
      refine ⟨fun h => by omega, fun _ Q hQ hw hs => ?_⟩
      rw [ps_8] at e
      by_cases c1 : K.2.2 = 3 ∧ T K.1 = 43
      · rw [if_pos c1] at e
        exact sq_op2 (b' := 1) e ⟨by omega, rfl⟩ rfl (by decide) hQ hw (s_pl c1) (fun y hy => (ih 1 v _ y hy hv (by omega) _ _ t D hD).1 (by omega) 0 ⟨fun _ => ⟨by omega, Or.inl rfl⟩, fun h => by omega, fun h => by omega⟩ (wk_c (Or.inr (by decide))) (fun h => by omega)) (fun K9 y9 C9 Q9 t9 h9 hQ9 hs9 => (ih 8 v K9 y9 h9 hv (by omega) C9 W t9 D hD).2 (by omega) Q9 hQ9 hw (stp_s hs9)) (Or.inr rfl)
      · rw [if_neg c1] at e
        by_cases c2 : K.2.2 = 3 ∧ T K.1 = 45
        · rw [if_pos c2] at e
          exact sq_op2 (b' := 1) e ⟨by omega, rfl⟩ rfl (by decide) hQ hw (s_mi c2) (fun y hy => (ih 1 v _ y hy hv (by omega) _ _ t D hD).1 (by omega) 0 ⟨fun _ => ⟨by omega, Or.inl rfl⟩, fun h => by omega, fun h => by omega⟩ (wk_c (Or.inr (by decide))) (fun h => by omega)) (fun K9 y9 C9 Q9 t9 h9 hQ9 hs9 => (ih 8 v K9 y9 h9 hv (by omega) C9 W t9 D hD).2 (by omega) Q9 hQ9 hw (stp_s hs9)) (Or.inr rfl)
        · rw [if_neg c2] at e
          exact sq_nil e hQ ⟨fun _ => rfl, fun _ => hs.2.1 (by decide), fun _ => ⟨c1, c2⟩, fun h => by have : (3 : Nat) ≤ 2 := h; omega, fun h => by have : (5 : Nat) ≤ 2 := h; omega, fun h => by have : (6 : Nat) ≤ 2 := h; omega⟩
    · subst h
      refine ⟨fun h => by omega, fun _ Q hQ hw hs => ?_⟩
      rw [ps_9] at e
      by_cases c1 : kw T K = 12
      · rw [if_pos c1] at e
        exact sq_op2 (b' := 4) e ⟨by omega, rfl⟩ rfl (by decide) hQ hw (s_and c1) (fun y hy => (ih 4 v _ y hy hv (by omega) _ _ false D hD).1 (by omega) 1 ⟨fun h => by omega, fun _ _ => rfl, fun h => by omega⟩ (wk_c (Or.inr (by decide))) (fun h => rfl)) (fun K9 y9 C9 Q9 t9 h9 hQ9 hs9 => (ih 9 v K9 y9 h9 hv (by omega) C9 W t9 D hD).2 (by omega) Q9 hQ9 hw (stp_s hs9)) (Or.inl (by decide))
      · rw [if_neg c1] at e
        exact sq_nil e hQ ⟨fun _ => rfl, fun _ => hs.2.1 (by decide), fun _ => hs.2.2.1 (by decide), fun _ => hs.2.2.2.1 (by decide), fun _ => c1, fun h => by have : (6 : Nat) ≤ 5 := h; omega⟩
    · subst h
      refine ⟨fun h => by omega, fun _ Q hQ hw hs => ?_⟩
      rw [ps_10] at e
      by_cases c1 : kw T K = 13
      · rw [if_pos c1] at e
        exact sq_op2 (b' := 5) e ⟨by omega, rfl⟩ rfl (by decide) hQ hw (s_or c1) (fun y hy => (ih 5 v _ y hy hv (by omega) _ _ false D hD).1 (by omega) 1 ⟨fun h => by omega, fun _ _ => rfl, fun h => by omega⟩ (wk_c (Or.inr (by decide))) (fun h => rfl)) (fun K9 y9 C9 Q9 t9 h9 hQ9 hs9 => (ih 10 v K9 y9 h9 hv (by omega) C9 W t9 D hD).2 (by omega) Q9 hQ9 hw (stp_s hs9)) (Or.inl (by decide))
      · rw [if_neg c1] at e
        exact sq_nil e hQ ⟨fun _ => rfl, fun _ => hs.2.1 (by decide), fun _ => hs.2.2.1 (by decide), fun _ => hs.2.2.2.1 (by decide), fun _ => hs.2.2.2.2.1 (by decide), fun _ => c1⟩
    · obtain ⟨j, rfl⟩ : ∃ j, l = 11 + j := ⟨l - 11, by omega⟩
      refine ⟨fun _ m hm hw h3 => ?_, fun h => by omega⟩
      have l4 : lv (11 + j) = 4 := by unfold lv; rw [if_neg (by omega), if_neg (by omega), if_neg (by omega), if_neg (by omega), if_pos (by omega)]
      rw [if_pos h] at hw
      have hmj := hm.2.2 h
      have ht := h3 (by omega)
      subst ht
      rw [l4]
      rw [ps_11] at e
      by_cases c1 : kw T K = 14
      · rw [if_pos c1] at e
        by_cases c2 : 11 + j = 17
        · rw [if_pos c2] at e
          cases e
          refine rch_1 ?_
          unfold sst
          dsimp only
          rw [if_pos (by omega), if_pos ⟨by omega, c1⟩, if_pos (by omega)]
        · rw [if_neg c2] at e
          have hst : rch T n (m, C, W, false :: D, K) (m + 1, C, 3 :: W, false :: D, nxt T n K) := by
            refine rch_1 ?_
            unfold sst
            dsimp only
            rw [if_pos (by omega), if_pos ⟨by omega, c1⟩, if_neg (by omega)]
          cases h6 : ps T n d (11 + (j + 1)) v (nxt T n K) with
          | none => rw [h6] at e; cases e
          | some y =>
            have hy := (ih _ v _ y h6 hv (by omega) C (3 :: W) false D hD).1 (by omega) (m + 1) ⟨fun h => by omega, fun _ h => by omega, fun h => by omega⟩ (by rw [if_pos (by omega)]; exact wk_c (Or.inr (by decide))) (fun _ => rfl)
            have l5 : lv (11 + (j + 1)) = 4 := by unfold lv; rw [if_neg (by omega), if_neg (by omega), if_neg (by omega), if_neg (by omega), if_pos (by omega)]
            rw [l5] at hy
            rw [h6] at e
            match y, hy with
            | .inl (f1, p1), hy =>
              cases e
              exact rch_t hst hy
            | .inr (c, K2), hy =>
              obtain ⟨c0, Q, t1, g1, g2, g3, g4⟩ := hy
              cases e
              refine ⟨c0, Q ++ [3], t1, ?_, hv_a g2 (hv_1 (by decide)), rch_t hst ?_, g4⟩
              · rw [g1, cds_a, List.append_assoc]; rfl
              · rw [List.append_assoc]; exact g3
      · rw [if_neg c1] at e
        have hy := (ih 3 v K x e hv (by omega) C W false D hD).1 (by omega) m ⟨fun _ => ⟨by omega, Or.inr c1⟩, fun h => by omega, fun h => by omega⟩ hw (fun _ => rfl)
        match x, hy with
        | .inl (f1, p1), hy => exact hy
        | .inr (c, K2), hy =>
          obtain ⟨c0, Q, t1, g1, g2, g3, g4⟩ := hy
          refine ⟨c0, Q, t1, g1, hv_m g2 (by decide), g3, fun h => by omega, fun _ => g4.2.1 (by decide), fun _ => g4.2.2.1 (by decide), fun _ => g4.2.2.2.1 (by decide), fun h => by omega, fun h => by omega⟩
/-- the whole rule -/
theorem sy_top {d : Nat} {K : Nat × Nat × Nat} {x : (Nat × Nat) ⊕ (List (Nat × Nat) × Nat × Nat × Nat)} (e : ps T n d 6 0 K = some x) : match x with
  | .inl (f, p) => rch T n (1, [], [], [false], K) (fl9 f p)
  | .inr (c, K') => ∃ t, rch T n (1, [], [], [false], K) (201, c, [], [t], K') := by
  have h := (sy_all d 6 0 K x e (by omega) (by omega) [] [] false [] rfl).1 (by omega) 1 ⟨fun h => by omega, fun _ _ => rfl, fun h => by omega⟩ (fun x hx => by cases hx) (fun _ => rfl)
  match x, h with
  | .inl (f, p), h => exact h
  | .inr (c, K'), h =>
    obtain ⟨c0, Q, t, g1, g2, g3, g4⟩ := h
    refine ⟨t, rch_t g3 (rch_1 ?_)⟩
    rw [List.append_nil, s_no (stp_s g4) (fun h => by have := (g2 14 h.2).1; omega), if_neg (show ¬ 1 < [t].length by show ¬ 1 < 1; omega)]
    have hd := dr_q (b := 0) (W := []) (hv_m g2 (by decide)) (fun x hx => by cases hx)
    rw [List.append_nil] at hd
    rw [hd, g1]
    rfl
end SY
