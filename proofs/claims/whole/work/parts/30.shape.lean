/-! L3: the heap behind the constructors: its shape never changes, its numbers are σ (a cell, a slot) and two longs -/
def sh : List ((Nat × Nat) ⊕ (Nat × List Nat)) := [.inr (10, [3, 0, 0, 5, 7, 17, 45, 0, 36, 73, 82, 102, 109, 116, 118]), .inr (2, [4]), .inl (0, 700), .inr (2, [6]), .inl (0, 3), .inr (1, [0, 0, 0, 0, 0, 8, 10]), .inr (2, [9]), .inl (0, 8), .inr (6, [11, 13, 15, 0]), .inr (2, [12]), .inl (0, 64), .inr (2, [14]), .inl (0, 700), .inr (2, [16]), .inl (0, 6), .inr (8, [36, 18, 27]), .inr (0, [19, 21, 23, 25, 0]), .inr (2, [20]), .inl (0, 40), .inr (2, [22]), .inl (0, 40), .inr (2, [24]), .inl (0, 40), .inr (2, [26]), .inl (0, 320), .inr (7, [28, 30, 32, 34, 0]), .inr (2, [29]), .inl (0, 8), .inr (2, [31]), .inl (0, 8), .inr (2, [33]), .inl (0, 8), .inr (2, [35]), .inl (0, 8), .inr (3, [7, 0, 37, 39, 41, 43]), .inr (2, [38]), .inl (0, 8), .inr (2, [40]), .inl (0, 8), .inr (2, [42]), .inl (0, 8), .inr (2, [44]), .inl (0, 8), .inr (8, [64, 46, 55]), .inr (0, [47, 49, 51, 53, 0]), .inr (2, [48]), .inl (0, 40), .inr (2, [50]), .inl (0, 40), .inr (2, [52]), .inl (0, 40), .inr (2, [54]), .inl (0, 320), .inr (7, [56, 58, 60, 62, 0]), .inr (2, [57]), .inl (0, 8), .inr (2, [59]), .inl (0, 8), .inr (2, [61]), .inl (0, 8), .inr (2, [63]), .inl (0, 8), .inr (3, [7, 0, 65, 67, 69, 71]), .inr (2, [66]), .inl (0, 8), .inr (2, [68]), .inl (0, 8), .inr (2, [70]), .inl (0, 8), .inr (2, [72]), .inl (0, 8), .inr (3, [7, 0, 74, 76, 78, 80]), .inr (2, [75]), .inl (0, 8), .inr (2, [77]), .inl (0, 8), .inr (2, [79]), .inl (0, 8), .inr (2, [81]), .inl (0, 8), .inr (5, [83, 93, 0, 0, 3, 0, 0, 0, 0, 0, 0, 0]), .inr (1, [0, 0, 0, 0, 0, 84, 86]), .inr (2, [85]), .inl (0, 8), .inr (6, [87, 89, 91, 0]), .inr (2, [88]), .inl (0, 64), .inr (2, [90]), .inl (0, 700), .inr (2, [92]), .inl (0, 6), .inr (3, [83, 0, 94, 96, 98, 100]), .inr (2, [95]), .inl (0, 8), .inr (2, [97]), .inl (0, 8), .inr (2, [99]), .inl (0, 8), .inr (2, [101]), .inl (0, 8), .inr (9, [103, 105, 107, 0]), .inr (2, [104]), .inl (0, 96), .inr (2, [106]), .inl (0, 96), .inr (2, [108]), .inl (0, 96), .inr (4, [110, 112, 114, 0]), .inr (2, [111]), .inl (0, 384), .inr (2, [113]), .inl (0, 6), .inr (2, [115]), .inl (0, 6), .inr (2, [117]), .inl (0, 8), .inr (2, [119]), .inl (0, 48), .inr (11, [0, 0, 0, 0, 0, 0, 0, 121, 122, 123, 0, 0, 0, 124, 0, 0, 0, 0, 0, 0, 0, 1, 0, 0, 0, 0, 0, 0, 0, 0, 0, 125, 126, 127, 128, 129, 130, 131, 0, 132, 133, 0, 0, 0, 134, 0, 135, 136, 0, 0, 0, 0, 137, 138, 139]), .inl (0, 8), .inl (0, 1400), .inl (0, 700), .inl (0, 3), .inl (0, 8), .inl (0, 33), .inl (0, 1400), .inl (0, 950), .inl (1, 9), .inl (0, 66), .inl (0, 1320), .inl (0, 6), .inl (0, 950), .inl (0, 8), .inl (0, 32), .inl (0, 768), .inl (0, 33), .inl (0, 1320), .inl (0, 32), .inl (2, 1)]
def fv (σ : Nat → Nat → Int32) (w : Int64) (k j c : Nat) : Value := if c = 0 then .int (σ k j) else if c = 1 then .long w else .ref (c - 2)
def mkc (σ : Nat → Nat → Int32) (w u : Int64) (k : Nat) : ((Nat × Nat) ⊕ (Nat × List Nat)) → hp_C
  | .inl (t, n) => .inl (t, n, if t = 2 then .inr (.inl (fun j => if j = 0 then u else 0)) else .inl (σ k))
  | .inr (ci, cs) => .inr (ci, cs.mapIdx (fun j c => fv σ w k j c))
def mk (σ : Nat → Nat → Int32) (w u : Int64) : hp_H := sh.mapIdx (fun k x => mkc σ w u k x)
/-- one number set -/
def s2 (σ : Nat → Nat → Int32) (q k : Nat) (v : Int32) : Nat → Nat → Int32 := fun q' k' => if q' = q ∧ k' = k then v else σ q' k'
theorem mk_at (σ : Nat → Nat → Int32) (w u : Int64) (k : Nat) : (mk σ w u)[k]? = (sh[k]?).map (mkc σ w u k) := by
  simp [mk, List.getElem?_mapIdx]
theorem mk_len (σ : Nat → Nat → Int32) (w u : Int64) : (mk σ w u).length = sh.length := by simp [mk]
section SH
variable {σ : Nat → Nat → Int32} {w u : Int64} {q ci k r t n : Nat} {cs : List Nat}
theorem mk_O (h : sh[q]? = some (.inr (ci, cs))) : (mk σ w u)[q]? = some (.inr (ci, cs.mapIdx (fun j c => fv σ w q j c))) := by rw [mk_at, h]; rfl
theorem mk_A (h : sh[q]? = some (.inl (t, n))) (ht : t ≠ 2) : (mk σ w u)[q]? = some (.inl (t, n, .inl (σ q))) := by
  rw [mk_at, h]
  show some (Sum.inl (t, n, if t = 2 then _ else _)) = _
  rw [if_neg ht]
theorem rO (h : sh[q]? = some (.inr (ci, cs))) : rd_O (mk σ w u) q ci k = (cs[k]?).map (fv σ w q k) := by
  unfold rd_O
  rw [mk_O h]
  simp [List.getElem?_mapIdx]
theorem rI (h : sh[q]? = some (.inr (ci, cs))) (hk : cs[k]? = some 0) : rd_I (mk σ w u) q ci k = some (σ q k) := by
  unfold rd_I
  rw [rO h, hk]
  rfl
theorem rR (h : sh[q]? = some (.inr (ci, cs))) (hk : cs[k]? = some (r + 2)) : rd_R (mk σ w u) q ci k = some r := by
  unfold rd_R
  rw [rO h, hk]
  have e : fv σ w q k (r + 2) = .ref r := by
    unfold fv
    rw [if_neg (by omega), if_neg (by omega)]
    rfl
  simp [e]
theorem rJ (h : sh[q]? = some (.inr (ci, cs))) (hk : cs[k]? = some 1) : rd_J (mk σ w u) q ci k = some w := by
  unfold rd_J
  rw [rO h, hk]
  rfl
theorem gdm {β : Type} {x : Option β} (h : sh[q]? = some (.inr (ci, cs))) : gd (mk σ w u) q ci x = x := by
  unfold gd
  rw [mk_O h]
  simp
theorem rA {i : Int32} (h : sh[q]? = some (.inl (t, n))) (ht : t ≠ 2) (hi : ¬ (i < 0 ∨ n ≤ i.toNatClampNeg)) : rd_A (mk σ w u) t q i = some (σ q i.toNatClampNeg) := by
  unfold rd_A
  rw [mk_A h ht]
  show (if t = t ∧ _ then _ else _) = _
  rw [if_pos ⟨rfl, hi⟩]
theorem rL (h : sh[q]? = some (.inl (0, n))) : rd_L (mk σ w u) q = some (Int32.ofNat n) := by
  unfold rd_L
  rw [mk_A h (by decide)]
  rfl
theorem mk_ext {h : hp_H} {σ' : Nat → Nat → Int32} {w' u' : Int64} (e : ∀ k : Nat, h[k]? = (sh[k]?).map (mkc σ' w' u' k)) : h = mk σ' w' u' := by
  apply List.ext_getElem?
  intro k
  rw [e, mk_at]
theorem s2_row {q' : Nat} {v : Int32} (hq : q' ≠ q) : s2 σ q k v q' = σ q' := by
  funext j
  unfold s2
  rw [if_neg (fun h => hq h.1)]
theorem mkc_ne {q' : Nat} {v : Int32} (hq : q' ≠ q) (x : (Nat × Nat) ⊕ (Nat × List Nat)) : mkc (s2 σ q k v) w u q' x = mkc σ w u q' x := by
  match x with
  | .inl (t, n) => show Sum.inl (t, n, if t = 2 then _ else Sum.inl (s2 σ q k v q')) = Sum.inl (t, n, if t = 2 then _ else Sum.inl (σ q')); rw [s2_row hq]
  | .inr (ci, cs) =>
    show Sum.inr (ci, cs.mapIdx (fun j c => fv (s2 σ q k v) w q' j c)) = Sum.inr (ci, cs.mapIdx (fun j c => fv σ w q' j c))
    have e : (fun j c => fv (s2 σ q k v) w q' j c) = (fun j c => fv σ w q' j c) := by
      funext j c
      unfold fv
      rw [s2_row hq]
    rw [e]
theorem wI {v : Int32} (h : sh[q]? = some (.inr (ci, cs))) (hk : cs[k]? = some 0) : wr_I (mk σ w u) q ci k v = some (mk (s2 σ q k v) w u) := by
  have hl : k < cs.length := (List.getElem?_eq_some_iff.mp hk).1
  have hql : q < sh.length := (List.getElem?_eq_some_iff.mp h).1
  unfold wr_I wr_O
  rw [mk_O h]
  show (if ci = ci ∧ _ then _ else _) = _
  rw [if_pos ⟨rfl, by simpa using hl⟩]
  refine congrArg some ?_
  apply mk_ext
  intro j
  rw [List.getElem?_set]
  by_cases hj : q = j
  · subst hj
    rw [if_pos rfl, if_pos (by rw [mk_len]; exact hql), h]
    show some (Sum.inr (ci, _)) = some (Sum.inr (ci, cs.mapIdx (fun j c => fv (s2 σ q k v) w q j c)))
    refine congrArg (fun z => some (Sum.inr (ci, z))) ?_
    apply List.ext_getElem?
    intro i
    rw [List.getElem?_set, List.getElem?_mapIdx, List.getElem?_mapIdx]
    by_cases hi : k = i
    · subst hi
      rw [if_pos rfl, if_pos (by simpa using hl), hk]
      simp [fv, s2]
    · rw [if_neg hi]
      refine congrFun (congrArg Option.map ?_) _
      funext c
      have e : s2 σ q k v q i = σ q i := by
        unfold s2
        rw [if_neg (fun h => hi h.2.symm)]
      unfold fv
      rw [e]
  · rw [if_neg hj, mk_at]
    cases hs : sh[j]? with
    | none => rfl
    | some x => simp [mkc_ne (σ := σ) (w := w) (u := u) (k := k) (v := v) (fun e => hj e.symm) x]
theorem wZ {v : Int32} (h : sh[q]? = some (.inr (ci, cs))) (hk : cs[k]? = some 0) (hv : v = 0 ∨ v = 1) : wr_Z (mk σ w u) q ci k v = some (mk (s2 σ q k v) w u) := by
  unfold wr_Z
  rw [if_pos hv]
  exact wI h hk
theorem mkc_A (h : sh[q]? = some (.inl (t, n))) (ht : t ≠ 2) {i : Nat} {x : Int32} : (mk σ w u).set q (.inl (t, n, .inl (upd (σ q) i x))) = mk (s2 σ q i x) w u := by
  have hql : q < sh.length := (List.getElem?_eq_some_iff.mp h).1
  apply mk_ext
  intro j
  rw [List.getElem?_set]
  by_cases hj : q = j
  · subst hj
    rw [if_pos rfl, if_pos (by rw [mk_len]; exact hql), h]
    show _ = some (Sum.inl (t, n, if t = 2 then _ else _))
    rw [if_neg ht]
    have e : upd (σ q) i x = s2 σ q i x q := by
      funext a
      unfold upd s2
      by_cases ha : a = i <;> simp [ha]
    rw [e]
  · rw [if_neg hj, mk_at]
    cases hs : sh[j]? with
    | none => rfl
    | some y => simp [mkc_ne (σ := σ) (w := w) (u := u) (k := i) (v := x) (fun e => hj e.symm) y]
theorem wA {i x : Int32} (h : sh[q]? = some (.inl (0, n))) (hi : ¬ (i < 0 ∨ n ≤ i.toNatClampNeg)) : wr_A (mk σ w u) q i x = some (mk (s2 σ q i.toNatClampNeg x) w u) := by
  unfold wr_A
  rw [mk_A h (by decide)]
  show (if _ then some _ else none) = _
  rw [if_pos hi, mkc_A h (by decide)]
theorem wAZ {i x : Int32} (h : sh[q]? = some (.inl (1, n))) (hi : ¬ (i < 0 ∨ n ≤ i.toNatClampNeg)) : wr_AZ (mk σ w u) q i x = some (mk (s2 σ q i.toNatClampNeg (vp_nar .boolean x)) w u) := by
  unfold wr_AZ
  rw [mk_A h (by decide)]
  show (if _ then some _ else none) = _
  rw [if_pos hi, mkc_A h (by decide)]
end SH
/-- the numbers behind the constructors -/
def σ0 : Nat → Nat → Int32 := fun q k => if q = 0 ∧ k = 2 then (-1) else if q = 5 ∧ k = 0 then 8 else if q = 5 ∧ k = 3 then 2 else if q = 80 ∧ k = 3 then (-1) else if q = 81 ∧ k = 0 then 8 else if q = 81 ∧ k = 3 then 2 else if q = 107 ∧ k = 3 then (-1) else if q = 118 ∧ k = 1 then 8 else if q = 118 ∧ k = 5 then 2 else if q = 118 ∧ k = 6 then (-1) else if q = 118 ∧ k = 12 then (-1) else if q = 118 ∧ k = 41 then (-1) else 0
