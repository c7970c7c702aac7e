/-- the words that stand over a call -/
def gt_tbl : List Cond := lw_tbl.filter goodWord
theorem gt_in {w : Cond} (h : w ∈ lw_tbl) (g : goodWord w = true) : w ∈ gt_tbl := List.mem_filter.mpr ⟨h, g⟩
theorem gt_t {w : Cond} (h : w ∈ tables_1) (g : goodWord w = true) : w ∈ gt_tbl := gt_in (List.mem_append_right _ h) g
theorem gt_s {q : MethodName × Nat} (h : q ∈ lw_privs) : Cond.selects q.1.cls q.1 q.1 ∈ gt_tbl := gt_in (List.mem_append_left _ (List.mem_map.mpr ⟨q, h, rfl⟩)) rfl
theorem gt_good {w : Cond} (h : w ∈ gt_tbl) : (w.onTables && w.keeps) = true ∨ ∃ ty, w = .arrayClass ty := good_of_word (List.mem_filter.mp h).2
theorem gt_GoodIn {Ts ws : List Cond} (hT : ∀ w ∈ gt_tbl, w ∈ Ts) (h : ∀ w ∈ ws, w ∈ gt_tbl) : GoodIn Ts ws := fun w hw => ⟨hT w (h w hw), gt_good (h w hw)⟩
def wg (i : Nat) (w : Cond) : Bool := decide (tables_1[i]? = some w) && goodWord w
theorem wg_ok {i : Nat} {w : Cond} (h : wg i w = true) : w ∈ gt_tbl := by
  simp only [wg, Bool.and_eq_true, decide_eq_true_eq] at h
  exact gt_t (List.mem_of_getElem? h.1) h.2
