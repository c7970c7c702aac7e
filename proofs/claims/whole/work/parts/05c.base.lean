/-! OWN: the heap as a list of cells, counted from the law's start; a method's body over it -/
abbrev hp_C : Type := (Nat × vp_A) ⊕ (Nat × List Value)
abbrev hp_H : Type := List hp_C
/-- base address, addresses of the String constants, array classes, classes -/
abbrev hp_G : Type := Nat × (Nat → Nat) × (Nat → ClassId) × va_G
/-- a reference is a place in the list; '.float n' stands for the n-th String constant -/
def hp_f (G : hp_G) (n : UInt32) : Option Nat := if n.toNat = 99 ∧ G.2.1 98 = 0 then none else some (G.2.1 n.toNat)
def hp_v (G : hp_G) : Value → Value
  | .ref k => .ref (G.1 + k)
  | .float n => va_rf (hp_f G n)
  | v => v
theorem hp_vS (G : hp_G) {n : UInt32} (hn : n.toNat < 50) : hp_v G (.float n) = .ref (G.2.1 n.toNat) := by
  show va_rf (hp_f G n) = _
  rw [hp_f, if_neg (by omega)]
  rfl
def hp_s (G : hp_G) (st : List Value) : List Value := st.map (hp_v G)
def hp_l (G : hp_G) (lv : List (Nat × Value)) : List (Nat × Value) := lv.map (fun q => (q.1, hp_v G q.2))
def hp_e (G : hp_G) : hp_C → va_E
  | .inl (t, x) => .inl (G.2.2.1 t, x)
  | .inr (ci, fs) => .inr (ci, fs.map (hp_v G))
def hp_w (G : hp_G) (h : hp_H) : va_W := h.mapIdx (fun k c => (G.1 + k, hp_e G c))
def hp_A (G : hp_G) : Nat → Prop := fun q => G.1 ≤ q
def hp_T (G : hp_G) : List (ClassId × FieldType) := [(G.2.2.1 0, .int), (G.2.2.1 1, .boolean), (G.2.2.1 2, .long)]
theorem hp_cat (G : hp_G) (v : Value) : (hp_v G v).category = v.category := by
  cases v <;> first | rfl | (rename_i n; show (va_rf (hp_f G n)).category = 1; cases hp_f G n <;> rfl)
theorem hp_w_at (G : hp_G) (h : hp_H) (k : Nat) : (hp_w G h)[k]? = (h[k]?).map (fun c => (G.1 + k, hp_e G c)) := by
  simp [hp_w, List.getElem?_mapIdx]
theorem hp_w_some {G : hp_G} {h : hp_H} {k : Nat} {x : hp_C} (hk : h[k]? = some x) : (hp_w G h)[k]? = some (G.1 + k, hp_e G x) := by
  rw [hp_w_at, hk]; rfl
theorem hp_w_set (G : hp_G) (h : hp_H) (k : Nat) (x : hp_C) : hp_w G (h.set k x) = (hp_w G h).set k (G.1 + k, hp_e G x) := by
  apply List.ext_getElem?
  intro i
  rw [hp_w_at, List.getElem?_set, List.getElem?_set, hp_w_at]
  by_cases hi : k = i
  · subst hi
    by_cases hl : k < h.length
    · have h2 : k < (hp_w G h).length := by simp [hp_w, hl]
      simp [hl, h2]
    · have h2 : ¬ k < (hp_w G h).length := by simp [hp_w]; omega
      simp [hl, h2]
  · simp [hi]
theorem hp_D (G : hp_G) (h : hp_H) : va_D (hp_A G) (hp_w G h) := by
  refine ⟨fun i j p q hi hj he => ?_, fun k q hk => ?_⟩
  · rw [hp_w_at] at hi hj
    obtain ⟨a, -, rfl⟩ := Option.map_eq_some_iff.mp hi
    obtain ⟨c, -, rfl⟩ := Option.map_eq_some_iff.mp hj
    simp at he
    exact he
  · rw [hp_w_at] at hk
    obtain ⟨a, -, rfl⟩ := Option.map_eq_some_iff.mp hk
    exact Nat.le_add_right _ _
theorem hp_l_filter (G : hp_G) (i : Nat) (lv : List (Nat × Value)) : (hp_l G lv).filter (fun q => !(q.1 == i) && !(q.1 + 1 == i && q.2.category == 2)) = hp_l G (lv.filter (fun q => !(q.1 == i) && !(q.1 + 1 == i && q.2.category == 2))) := by
  simp only [hp_l, List.filter_map]
  congr 1
  apply List.filter_congr
  intro q _
  simp [Function.comp, hp_cat]
theorem hp_l_filter2 (G : hp_G) (i : Nat) (lv : List (Nat × Value)) : (hp_l G lv).filter (fun q => !(q.1 == i) && (!(q.1 == i + 1) && !(q.1 + 1 == i && q.2.category == 2))) = hp_l G (lv.filter (fun q => !(q.1 == i) && (!(q.1 == i + 1) && !(q.1 + 1 == i && q.2.category == 2)))) := by
  simp only [hp_l, List.filter_map]
  congr 1
  apply List.filter_congr
  intro q _
  simp [Function.comp, hp_cat]
theorem hp_l_at (G : hp_G) {lv : List (Nat × Value)} {k i : Nat} {v : Value} (h : lv[k]? = some (i, v)) : (hp_l G lv)[k]? = some (i, hp_v G v) := by
  simp [hp_l, h]
/-- reading and writing; none where the machine would throw, or where the shape is another -/
def rd_O (h : hp_H) (q ci k : Nat) : Option Value := match h[q]? with
  | some (.inr (c, fs)) => if c = ci then fs[k]? else none
  | _ => none
def rd_I (h : hp_H) (q ci k : Nat) : Option Int32 := match rd_O h q ci k with
  | some (.int v) => some v
  | _ => none
def rd_R (h : hp_H) (q ci k : Nat) : Option Nat := match rd_O h q ci k with
  | some (.ref v) => some v
  | _ => none
def rd_J (h : hp_H) (q ci k : Nat) : Option Int64 := match rd_O h q ci k with
  | some (.long v) => some v
  | _ => none
def wr_O (h : hp_H) (q ci k : Nat) (v : Value) : Option hp_H := match h[q]? with
  | some (.inr (c, fs)) => if c = ci ∧ k < fs.length then some (h.set q (.inr (ci, fs.set k v))) else none
  | _ => none
def wr_I (h : hp_H) (q ci k : Nat) (v : Int32) : Option hp_H := wr_O h q ci k (.int v)
def wr_J (h : hp_H) (q ci k : Nat) (v : Int64) : Option hp_H := wr_O h q ci k (.long v)
def wr_Z (h : hp_H) (q ci k : Nat) (v : Int32) : Option hp_H := if v = 0 ∨ v = 1 then wr_O h q ci k (.int v) else none
def rd_A (h : hp_H) (t q : Nat) (i : Int32) : Option Int32 := match h[q]? with
  | some (.inl (c, n, .inl f)) => if c = t ∧ ¬ (i < 0 ∨ n ≤ i.toNatClampNeg) then some (f i.toNatClampNeg) else none
  | _ => none
def rd_L (h : hp_H) (q : Nat) : Option Int32 := match h[q]? with
  | some (.inl (0, n, .inl _)) => some (Int32.ofNat n)
  | _ => none
def wr_A (h : hp_H) (q : Nat) (i x : Int32) : Option hp_H := match h[q]? with
  | some (.inl (0, n, .inl f)) => if ¬ (i < 0 ∨ n ≤ i.toNatClampNeg) then some (h.set q (.inl (0, n, .inl (upd f i.toNatClampNeg x)))) else none
  | _ => none
def wr_AZ (h : hp_H) (q : Nat) (i x : Int32) : Option hp_H := match h[q]? with
  | some (.inl (1, n, .inl f)) => if ¬ (i < 0 ∨ n ≤ i.toNatClampNeg) then some (h.set q (.inl (1, n, .inl (upd f i.toNatClampNeg (vp_nar .boolean x))))) else none
  | _ => none
def rd_AJ (h : hp_H) (q : Nat) (i : Int32) : Option Int64 := match h[q]? with
  | some (.inl (2, n, .inr (.inl f))) => if ¬ (i < 0 ∨ n ≤ i.toNatClampNeg) then some (f i.toNatClampNeg) else none
  | _ => none
def wr_AJ (h : hp_H) (q : Nat) (i : Int32) (x : Int64) : Option hp_H := match h[q]? with
  | some (.inl (2, n, .inr (.inl f))) => if ¬ (i < 0 ∨ n ≤ i.toNatClampNeg) then some (h.set q (.inl (2, n, .inr (.inl (vp_updL f i.toNatClampNeg x))))) else none
  | _ => none
/-- a loop: a body that is given its own going on -/
def lp {σ α : Type} (f : (σ → Option α) → σ → Option α) : Nat → σ → Option α
  | 0, _ => none
  | n + 1, s => f (lp f n) s
theorem lp_ind {σ α : Type} {f : (σ → Option α) → σ → Option α} {o : α} {P : σ → Prop} (H : ∀ (k : σ → Option α) (s : σ), (∀ s', k s' = some o → P s') → f k s = some o → P s) : ∀ (n : Nat) (s : σ), lp f n s = some o → P s := by
  intro n
  induction n with
  | zero => intro s h; cases h
  | succ n ih => intro s h; exact H (lp f n) s (fun s' h' => ih s' h') h
