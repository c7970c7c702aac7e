/-! L3: loops by what holds at their end; marches that change -/
theorem lp_G {S α : Type} {f : (S → Option α) → S → Option α} (G : Option α → Prop) (I : Nat → S → Prop) (e : Nat) (hs : ∀ i, i < e → ∀ (k : S → Option α) (s : S), I i s → (∀ s', I (i + 1) s' → G (k s')) → G (f k s)) (hx : ∀ (k : S → Option α) (s : S), I e s → G (f k s)) : ∀ (d i n : Nat) (s : S), i + d = e → d < n → I i s → G (lp f n s) := by
  intro d
  induction d with
  | zero =>
    intro i n s hi hn hI
    cases n with
    | zero => omega
    | succ n =>
      have hie : i = e := by omega
      subst hie
      exact hx (lp f n) s hI
  | succ d ih =>
    intro i n s hi hn hI
    cases n with
    | zero => omega
    | succ n => exact hs i (by omega) (lp f n) s hI (fun s' h' => ih (i + 1) n s' (by omega) (by omega) h')
theorem lp_W {S α : Type} {f : (S → Option α) → S → Option α} (G : Option α → Prop) (I : S → Prop) (μ : S → Nat) (hs : ∀ (k : S → Option α) (s : S), I s → (∀ s', I s' → μ s' < μ s → G (k s')) → G (f k s)) : ∀ (n : Nat) (s : S), I s → μ s < n → G (lp f n s) := by
  intro n
  induction n with
  | zero => intro s _ h; omega
  | succ n ih => intro s hI hm; exact hs (lp f n) s hI (fun s' h1 h2 => ih s' h1 (by omega))
/-- .. states that are told by a turn's number and the numbers of the heap -/
theorem lp_S {S α : Type} {f : (S → Option α) → S → Option α} (G : Option α → Prop) (st : Nat → (Nat → Nat → Int32) → S) (I : Nat → (Nat → Nat → Int32) → Prop) (e : Nat) (hs : ∀ i, i < e → ∀ (k : S → Option α) (τ : Nat → Nat → Int32), I i τ → (∀ τ', I (i + 1) τ' → G (k (st (i + 1) τ'))) → G (f k (st i τ))) (hx : ∀ (k : S → Option α) (τ : Nat → Nat → Int32), I e τ → G (f k (st e τ))) : ∀ (d i n : Nat) (τ : Nat → Nat → Int32), i + d = e → d < n → I i τ → G (lp f n (st i τ)) := by
  intro d i n τ hi hn hI
  exact lp_G G (fun i s => ∃ τ, I i τ ∧ s = st i τ) e (fun i hi k s ⟨τ, h1, h2⟩ hk => by
    rw [h2]
    exact hs i hi k τ h1 (fun τ' h' => hk _ ⟨τ', h', rfl⟩)) (fun k s ⟨τ, h1, h2⟩ => by
    rw [h2]
    exact hx k τ h1) d i n _ hi hn ⟨τ, hI, rfl⟩
/-- an answer, with what holds behind it -/
def RQ (Q : (Nat → Nat → Int32) → Prop) (w u : Int64) (v : Int32) (x : Option (Int32 × hp_H)) : Prop := ∃ τ, Q τ ∧ x = some (v, mk τ w u)
def RN (Q : (Nat → Nat → Int32) → Prop) (w u : Int64) (x : Option hp_H) : Prop := ∃ τ, Q τ ∧ x = some (mk τ w u)
theorem it_S {α : Type} (f : Nat → α → α) (a : α) (n : Nat) : it f a (n + 1) = f n (it f a n) := rfl
theorem it_0 {α : Type} (f : Nat → α → α) (a : α) : it f a 0 = a := rfl
theorem it_c {α : Type} {f g : Nat → α → α} {a : α} {n : Nat} (h : ∀ i, i < n → ∀ v, f i v = g i v) : it f a n = it g a n := by
  induction n with
  | zero => rfl
  | succ n ih => rw [it_S, it_S, ih (fun i hi => h i (by omega)), h n (by omega)]
theorem it_I {α : Type} {f : Nat → α → α} {a : α} (I : Nat → α → Prop) (h0 : I 0 a) {n : Nat} (h : ∀ i, i < n → ∀ v, I i v → I (i + 1) (f i v)) : I n (it f a n) := by
  induction n with
  | zero => exact h0
  | succ n ih => exact h n (by omega) _ (ih (fun i hi v hv => h i (by omega) v hv))
/-- alike but for the night and the honours -/
def hq (X Y : Nat → Nat) : Prop := ∀ k, 0 < k → k < 17 ∨ 25 ≤ k → X k = Y k
theorem hq_r (X : Nat → Nat) : hq X X := fun _ _ _ => rfl
theorem hq_t {X Y Z : Nat → Nat} (h : hq X Y) (h2 : hq Y Z) : hq X Z := fun k a b => (h k a b).trans (h2 k a b)
theorem hq_s {X Y : Nat → Nat} (h : hq X Y) : hq Y X := fun k a b => (h k a b).symm
theorem rw1_c {A X Y : Nat → Nat} (h : hq X Y) (p : Nat) : rw1 A X p = rw1 A Y p := by
  unfold rw1
  split
  · rfl
  · split
    · rfl
    · exact h _ (by omega) (Or.inr (by omega))
theorem he_c {A X Y : Nat → Nat} {P : List (Nat × Nat)} (hM : A 1 ≤ 8) (h : hq X Y) (r w : Nat) : he A P X r w = he A P Y r w := by
  unfold he
  rw [rw1_c h, rw1_c h, rw1_c h, hd_c (fun i hi => ⟨h _ (by omega) (Or.inl (by omega)), h _ (by omega) (Or.inl (by omega))⟩)]
theorem na_c {A X Y : Nat → Nat} {P : List (Nat × Nat)} (hM : A 1 ≤ 8) (h : hq X Y) (r w : Nat) : na A P X r w = na A P Y r w := by
  unfold na
  rw [he_c hM h, nmb_c (fun i hi => h _ (by omega) (Or.inl (by omega)))]
theorem tn_c {A X Y : Nat → Nat} {P : List (Nat × Nat)} (hM : A 1 ≤ 8) (h : hq X Y) (c w n : Nat) : tn A P X c w n = tn A P Y c w n := by
  unfold tn
  exact it_c (fun i _ v => by rw [na_c hM h])
theorem nbt_c {A X Y : Nat → Nat} {P : List (Nat × Nat)} (hM : A 1 ≤ 8) (h : hq X Y) (w n : Nat) : nbt A P X w n = nbt A P Y w n := by
  unfold nbt
  exact it_c (fun i _ v => by rw [na_c hM h])
theorem rr_c {A X Y : Nat → Nat} {P : List (Nat × Nat)} (hM : A 1 ≤ 8) (h : hq X Y) (w n : Nat) : rr A P X w n = rr A P Y w n := by
  unfold rr
  exact it_c (fun i _ v => by rw [na_c hM h, h _ (by omega) (Or.inr (by omega))])
theorem mc_c {A X Y : Nat → Nat} {P : List (Nat × Nat)} (hM : A 1 ≤ 8) (h : hq X Y) (w n : Nat) : mc A P X w n = mc A P Y w n := by
  unfold mc
  exact it_c (fun i _ v => by rw [na_c hM h, h _ (by omega) (Or.inr (by omega))])
theorem rt_0 (A X : Nat → Nat) : rt A 0 X = X := by
  funext k
  unfold rt
  split
  · next h => rw [h]; rfl
  · split
    · next h => rw [Nat.mod_eq_of_lt (by omega)]; congr 1; omega
    · rfl
theorem rt_rt (A X : Nat → Nat) (a b : Nat) : rt A a (rt A b X) = rt A (a + b) X := by
  funext k
  by_cases h0 : k = 0
  · subst h0
    show X 0 + b + a = X 0 + (a + b)
    omega
  · by_cases h : 25 ≤ k ∧ k < 25 + A 2
    · obtain ⟨r, rfl⟩ : ∃ r, k = 25 + r := ⟨k - 25, by omega⟩
      have hR : 0 < A 2 := by omega
      rw [rt_s (by omega), rt_s (Nat.mod_lt _ hR), rt_s (by omega), Nat.mod_add_mod]
      congr 3
      omega
    · unfold rt
      rw [if_neg h0, if_neg h, if_neg h0, if_neg h, if_neg h0, if_neg h]
theorem rt_h {A X Y : Nat → Nat} (n : Nat) (h : hq X Y) : hq (rt A n X) (rt A n Y) := by
  intro k h0 h1
  unfold rt
  rw [if_neg (show ¬ k = 0 by omega), if_neg (show ¬ k = 0 by omega)]
  split
  · exact h _ (by omega) (Or.inr (by omega))
  · exact h k h0 h1
/-- honours given for so many rows -/
def hu (A : Nat → Nat) (P : List (Nat × Nat)) (Z : Nat → Nat) (w i : Nat) (X : Nat → Nat) : Nat → Nat := fun k => if 17 ≤ k ∧ k < 25 then min 99 (X k + tn A P Z (k - 16) w i) else X k
theorem hu_q (A : Nat → Nat) (P : List (Nat × Nat)) (Z : Nat → Nat) (w i : Nat) (X : Nat → Nat) : hq (hu A P Z w i X) X := by
  intro k h0 h1
  unfold hu
  rw [if_neg (by omega)]
theorem hu_k {A : Nat → Nat} {P : List (Nat × Nat)} {Z X : Nat → Nat} {w i k : Nat} (h : k < 17 ∨ 25 ≤ k) : hu A P Z w i X k = X k := by
  unfold hu
  rw [if_neg (by omega)]
theorem hu_h {A : Nat → Nat} {P : List (Nat × Nat)} {Z X : Nat → Nat} {w i j : Nat} (h : j < 8) : hu A P Z w i X (17 + j) = min 99 (X (17 + j) + tn A P Z (j + 1) w i) := by
  unfold hu
  rw [if_pos (by omega), show 17 + j - 16 = j + 1 by omega]
theorem hu_W {A : Nat → Nat} {P : List (Nat × Nat)} {Z X : Nat → Nat} {w i : Nat} (wx : WX A X) : WX A (hu A P Z w i X) := by
  obtain ⟨h0, h1, h2, h3⟩ := wx
  refine ⟨by rw [hu_k (by omega)]; exact h0, ?_, ?_, fun r h4 h5 => by rw [hu_k (by omega)]; exact h3 r h4 h5⟩
  · intro i hi
    obtain ⟨a, b, c, d, e⟩ := h1 i hi
    rw [hu_k (by omega), hu_k (by omega), hu_h hi, hu_k (by omega)]
    exact ⟨a, b, Nat.min_le_left _ _, d, e⟩
  · intro r q i hr hq
    rw [hu_k (by omega), hu_k (by omega)]
    exact h2 r q i hr hq
/-- a night goes by -/
def ng (A : Nat → Nat) (P : List (Nat × Nat)) (w : Nat) (X : Nat → Nat) : Nat → Nat := rt A 1 (hu A P X w (A 2) X)
/-- rows and night as ahead of it -/
def rb (A : Nat → Nat) (X : Nat → Nat) : Nat → Nat := fun k => if k = 0 then X 0 - 1 else if 25 ≤ k ∧ k < 25 + A 2 then X (25 + (k - 25 + (A 2 - 1)) % A 2) else X k
theorem rb_rt (A X : Nat → Nat) : rb A (rt A 1 X) = X := by
  funext k
  unfold rb
  split
  · next h => rw [h]; show X 0 + 1 - 1 = X 0; omega
  · split
    · next h0 h =>
      have hR : 0 < A 2 := by omega
      rw [rt_s (Nat.mod_lt _ hR), Nat.mod_add_mod, show k - 25 + (A 2 - 1) + 1 = k - 25 + A 2 by omega, Nat.add_mod_right, Nat.mod_eq_of_lt (by omega)]
      congr 1
      omega
    · next h0 h =>
      unfold rt
      rw [if_neg h0, if_neg h]
/-- put elsewhere (c a row's number and 1; 0 the camp) -/
def pl (A : Nat → Nat) (man c : Nat) (X : Nat → Nat) : Nat → Nat := fun k => if 25 ≤ k ∧ k < 25 + A 2 then (if k + 1 = 25 + c then an (X k) (2 ^ man) ||| 2 ^ man else an (X k) (2 ^ man)) else X k
def un (X : Nat → Nat) (k v : Nat) : Nat → Nat := fun j => if j = k then v else X j
theorem un_at {X : Nat → Nat} {k v j : Nat} (h : j = k) : un X k v j = v := if_pos h
theorem un_off {X : Nat → Nat} {k v j : Nat} (h : j ≠ k) : un X k v j = X j := if_neg h
def th (man beat : Nat) (X : Nat → Nat) : Nat → Nat := un X (1 + man) (X (1 + man) ^^^ 2 ^ beat)
def xc (r q : Nat) (X : Nat → Nat) : Nat → Nat := un (un X (25 + r) (X (25 + q))) (25 + q) (X (25 + r))
/-- what a march's change writes -/
def Wm (m q _k : Nat) : Prop := q = m ∨ q = m + 2 ∨ q = m + 4 ∨ q = m + 6 ∨ q = m + 8 ∨ q = 10 ∨ q = 14
theorem Wc_m {m : Nat} {σ τ : Nat → Nat → Int32} (h : Fr Wc σ τ) : Fr (Wm m) σ τ := Fr_m h (fun q k e => by unfold Wm; unfold Wc at e; omega)
theorem CV_mk {σ τ : Nat → Nat → Int32} {m : Nat} {A X Y : Nat → Nat} {P : List (Nat × Nat)} (cv : CV σ m A P X) (fr : Fr (Wm m) σ τ) (mv : Mv τ m Y) (wy : WX A Y) : CV τ m A P Y := by
  obtain ⟨hm, ⟨⟨a0, a1, a2, a3, a4⟩, am, al, ap, ac⟩, -, wa, -, wp⟩ := cv
  have g : ∀ q k, q < 34 → q ≠ 10 → q ≠ 14 → τ q k = σ q k := fun q k h1 h2 h3 => fr q k (by unfold Wm; omega)
  refine ⟨hm, ⟨⟨?_, ?_, ?_, ?_, ?_⟩, ?_, ?_, ap, ?_⟩, mv, wa, wy, wp⟩
  · rw [g _ _ (by omega) (by omega) (by omega)]; exact a0
  · rw [g _ _ (by omega) (by omega) (by omega)]; exact a1
  · rw [g _ _ (by omega) (by omega) (by omega)]; exact a2
  · rw [g _ _ (by omega) (by omega) (by omega)]; exact a3
  · rw [g _ _ (by omega) (by omega) (by omega)]; exact a4
  · intro j hj; rw [g _ _ (by omega) (by omega) (by omega)]; exact am j hj
  · rw [g _ _ (by omega) (by omega) (by omega)]; exact al
  · intro j k n hj; rw [g _ _ (by omega) (by omega) (by omega)]; exact ac j k n hj
theorem CV_o2 {σ τ : Nat → Nat → Int32} {m m' : Nat} {A X : Nat → Nat} {P : List (Nat × Nat)} (cv : CV σ m' A P X) (hm2 : m = 34 ∨ m = 71) (hne : m ≠ m') (fr : Fr (Wm m) σ τ) : CV τ m' A P X := by
  obtain ⟨hm, ⟨⟨a0, a1, a2, a3, a4⟩, am, al, ap, ac⟩, ⟨n, x⟩, r⟩ := cv
  have g : ∀ q k, q < 34 → q ≠ 10 → q ≠ 14 → τ q k = σ q k := fun q k h1 h2 h3 => fr q k (by unfold Wm; omega)
  have g2 : ∀ q k, m' ≤ q → q ≤ m' + 8 → τ q k = σ q k := fun q k h1 h2 => fr q k (by unfold Wm; omega)
  refine ⟨hm, ⟨⟨?_, ?_, ?_, ?_, ?_⟩, ?_, ?_, ap, ?_⟩, ⟨?_, ?_⟩, r⟩
  · rw [g _ _ (by omega) (by omega) (by omega)]; exact a0
  · rw [g _ _ (by omega) (by omega) (by omega)]; exact a1
  · rw [g _ _ (by omega) (by omega) (by omega)]; exact a2
  · rw [g _ _ (by omega) (by omega) (by omega)]; exact a3
  · rw [g _ _ (by omega) (by omega) (by omega)]; exact a4
  · intro j hj; rw [g _ _ (by omega) (by omega) (by omega)]; exact am j hj
  · rw [g _ _ (by omega) (by omega) (by omega)]; exact al
  · intro j k n hj; rw [g _ _ (by omega) (by omega) (by omega)]; exact ac j k n hj
  · rw [g2 _ _ (by omega) (by omega)]; exact n
  · intro i hi
    rw [g2 _ _ (by omega) (by omega), g2 _ _ (by omega) (by omega), g2 _ _ (by omega) (by omega), g2 _ _ (by omega) (by omega)]
    exact x i hi
