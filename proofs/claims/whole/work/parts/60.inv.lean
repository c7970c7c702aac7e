/-! L3: what holds between two calls -/
def nx (N : Nat) (S : Nat → Nat → Nat) (X : Nat → Nat) (k : Nat) : Nat → Nat := if k + 1 = N then X else S (k + 1)
def OkA (A X : Nat → Nat) (N : Nat) (K O U : Nat → Nat) (S : Nat → Nat → Nat) : Prop := X 0 ≤ 999 ∧ ∀ k, k < N → WX A (S k) ∧ S k 0 ≤ 999 ∧ okK A (K k) (O k) (U k) (nx N S X k) ∧ ∀ j, j < 33 → bk A (K k) (O k) (U k) (S k) (nx N S X k) j = S k j
def IK (σ : Nat → Nat → Int32) (A : Nat → Nat) : Prop := ∃ kp, kp < 2 ∧ σ 0 7 = nI kp ∧ σ 118 49 = nI kp ∧ (kp = 1 → ∃ X N K O U S M s, Mv σ 62 X ∧ (∀ k, k < 33 → σ 135 k = nI (X k)) ∧ WX A X ∧ CA σ 44 N K O U S ∧ RAc σ 136 N S ∧ σ 118 50 = nI N ∧ OkA A X N K O U S ∧ CS σ 53 M s ∧ RSe σ 137 M s ∧ σ 118 51 = nI M ∧ OkS A M s)
def IT (σ : Nat → Nat → Int32) : Prop := ∃ (t : Nat) (T : Nat → Nat), t ≤ 700 ∧ σ 0 1 = nI t ∧ σ 118 10 = nI t ∧ (∀ j, j < 700 → T j < 256 ∧ σ 2 j = nI (T j) ∧ σ 121 j = nI (T j)) ∧ σ 0 2 = σ 118 12 ∧ ∀ i, i < 3 → σ 4 i = σ 122 i
def IA (σ : Nat → Nat → Int32) (A X : Nat → Nat) : Prop := ∃ N K O U S, CA σ 16 N K O U S ∧ RAc σ 129 N S ∧ σ 118 38 = nI N ∧ OkA A X N K O U S
def IS (σ : Nat → Nat → Int32) (A : Nat → Nat) : Prop := ∃ M s, CS σ 25 M s ∧ RSe σ 133 M s ∧ σ 118 45 = nI M ∧ OkS A M s
def IV (σ : Nat → Nat → Int32) : Prop := ∃ A P X, CV σ 34 A P X ∧ RV σ 0 A P X 0 ∧ IA σ A X ∧ IS σ A ∧ IK σ A ∧ IT σ
/-- what the class writes that no call sees -/
def Ws (q _k : Nat) : Prop := q = 10 ∨ q = 14 ∨ (71 ≤ q ∧ q < 118)
/-- .. the reference -/
def Wo (q k : Nat) : Prop := (123 ≤ q ∧ q ≤ 127) ∨ q = 130 ∨ q = 131 ∨ q = 132 ∨ q = 134 ∨ (q = 128 ∧ 33 ≤ k) ∨ (q = 118 ∧ (k = 0 ∨ k = 11 ∨ (14 ≤ k ∧ k ≤ 30) ∨ k = 42 ∨ k = 43 ∨ k = 48))
def Wz (q k : Nat) : Prop := Ws q k ∨ Wo q k
section IVs
variable {σ τ : Nat → Nat → Int32} {w u : Int64} {A X : Nat → Nat} {P : List (Nat × Nat)}
theorem IA_F {W : Nat → Nat → Prop} (h : IA σ A X) (fr : Fr W σ τ) (hw : ∀ q k, W q k → ¬ Wa 16 q k ∧ q ≠ 129 ∧ ¬ (q = 118 ∧ k = 38)) : IA τ A X := by
  obtain ⟨N, K, O, U, S, h1, h2, h3, h4⟩ := h
  exact ⟨N, K, O, U, S, CA_F h1 fr (fun q k e => (hw q k e).1), RAc_F h2 fr (fun k e => (hw _ k e).2.1 rfl), by rw [fr 118 38 (fun e => (hw _ _ e).2.2 ⟨rfl, rfl⟩)]; exact h3, h4⟩
theorem IS_F {W : Nat → Nat → Prop} (h : IS σ A) (fr : Fr W σ τ) (hw : ∀ q k, W q k → ¬ Wa 25 q k ∧ q ≠ 133 ∧ ¬ (q = 118 ∧ k = 45)) : IS τ A := by
  obtain ⟨M, s, h1, h2, h3, h4⟩ := h
  exact ⟨M, s, CS_F h1 fr (fun q k e => (hw q k e).1), RSe_F h2 fr (fun k e => (hw _ k e).2.1 rfl), by rw [fr 118 45 (fun e => (hw _ _ e).2.2 ⟨rfl, rfl⟩)]; exact h3, h4⟩
theorem IK_F {W : Nat → Nat → Prop} (h : IK σ A) (fr : Fr W σ τ) (hw : ∀ q k, W q k → ¬ Wst 28 q k ∧ q ≠ 135 ∧ q ≠ 136 ∧ q ≠ 137 ∧ ¬ (q = 118 ∧ (k = 49 ∨ k = 50 ∨ k = 51)) ∧ ¬ (q = 0 ∧ k = 7) ∨ (q = 10 ∨ q = 14)) : IK τ A := by
  obtain ⟨kp, h0, h1, h2, h3⟩ := h
  have g : ∀ q k, (Wst 28 q k ∨ q = 135 ∨ q = 136 ∨ q = 137 ∨ (q = 118 ∧ (k = 49 ∨ k = 50 ∨ k = 51)) ∨ (q = 0 ∧ k = 7)) → q ≠ 10 → q ≠ 14 → τ q k = σ q k := fun q k h n1 n2 => fr q k (fun e => by
    rcases hw q k e with ⟨a, b, c, d, e, f⟩ | h5
    · rcases h with h | h | h | h | h | h
      · exact a h
      · exact b h
      · exact c h
      · exact d h
      · exact e h
      · exact f h
    · omega)
  have fg : Fr (fun q k => τ q k ≠ σ q k) σ τ := fun q k h => Classical.not_not.mp h
  refine ⟨kp, h0, by rw [g 0 7 (by omega) (by omega) (by omega)]; exact h1, by rw [g 118 49 (by omega) (by omega) (by omega)]; exact h2, fun hk => ?_⟩
  obtain ⟨X, N, K, O, U, S, M, s, x1, x2, x3, x4, x5, x6, x7, x8, x9, x10, x11⟩ := h3 hk
  refine ⟨X, N, K, O, U, S, M, s, Mv_F x1 fg (fun q k h e => h (g q k (Or.inl (Or.inl (by unfold Wm; omega))) (by omega) (by omega))), fun k hk => by rw [g 135 k (by omega) (by omega) (by omega)]; exact x2 k hk, x3, CA_F x4 fg (fun q k h e => h (g q k (Or.inl (Or.inr (Or.inl e))) (by unfold Wa at e; omega) (by unfold Wa at e; omega))), RAc_F x5 fg (fun k h => h (g 136 k (by omega) (by omega) (by omega))), by rw [g 118 50 (by omega) (by omega) (by omega)]; exact x6, x7, CS_F x8 fg (fun q k h e => h (g q k (Or.inl (Or.inr (Or.inr e))) (by unfold Wa at e; omega) (by unfold Wa at e; omega))), RSe_F x9 fg (fun k h => h (g 137 k (by omega) (by omega) (by omega))), by rw [g 118 51 (by omega) (by omega) (by omega)]; exact x10, x11⟩
theorem IT_F {W : Nat → Nat → Prop} (h : IT σ) (fr : Fr W σ τ) (hw : ∀ q k, W q k → ¬ (q = 0 ∧ (k = 1 ∨ k = 2)) ∧ ¬ (q = 118 ∧ (k = 10 ∨ k = 12)) ∧ q ≠ 2 ∧ q ≠ 121 ∧ q ≠ 4 ∧ q ≠ 122) : IT τ := by
  obtain ⟨t, T, h0, h1, h2, h3, h4, h5⟩ := h
  have g : ∀ q k, ((q = 0 ∧ (k = 1 ∨ k = 2)) ∨ (q = 118 ∧ (k = 10 ∨ k = 12)) ∨ q = 2 ∨ q = 121 ∨ q = 4 ∨ q = 122) → τ q k = σ q k := fun q k h => fr q k (fun e => by have := hw q k e; omega)
  refine ⟨t, T, h0, by rw [g _ _ (by omega)]; exact h1, by rw [g _ _ (by omega)]; exact h2, fun j hj => ?_, by rw [g _ _ (by omega), g _ _ (by omega)]; exact h4, fun i hi => by rw [g _ _ (by omega), g _ _ (by omega)]; exact h5 i hi⟩
  rw [g _ _ (by omega), g _ _ (by omega)]
  exact h3 j hj
theorem IV_F (iv : IV σ) (fr : Fr Wz σ τ) : IV τ := by
  obtain ⟨A, P, X, h1, h2, h3, h4, h5, h6⟩ := iv
  refine ⟨A, P, X, CV_F h1 fr (fun q k e => ?_), RV_F h2 fr (fun q k e => ?_), IA_F h3 fr (fun q k e => ?_), IS_F h4 fr (fun q k e => ?_), IK_F h5 fr (fun q k e => ?_), IT_F h6 fr (fun q k e => ?_)⟩
  · unfold Wz Ws Wo at e; omega
  · unfold Wz Ws Wo at e; omega
  · unfold Wz Ws Wo at e; unfold Wa; omega
  · unfold Wz Ws Wo at e; unfold Wa; omega
  · unfold Wz Ws Wo at e; unfold Wst Wm Wa; omega
  · unfold Wz Ws Wo at e; omega
/-- a call with a helper: what is caught, or the answer -/
def Ag (e f m : hp_H → Option (Int32 × hp_H)) : Prop := ∀ σ w u, IV σ → ∃ c v τ w' u' h1, IV τ ∧ eh (e (mk σ w u)) (f (mk σ w u)) = some (c, h1) ∧ m h1 = some (v, mk τ w' u') ∧ τ 118 0 = c ∧ (c = 0 → u' = v.toInt64)
def Ag0 (f m : hp_H → Option (Int32 × hp_H)) : Prop := ∀ σ w u, IV σ → ∃ v τ w' h1, IV τ ∧ f (mk σ w u) = some (v, h1) ∧ m h1 = some (v, mk τ w' u)
def AgN (f m : hp_H → Option hp_H) : Prop := ∀ σ w u, IV σ → ∃ τ w' h1, IV τ ∧ f (mk σ w u) = some h1 ∧ m h1 = some (mk τ w' u)
end IVs
def notJ : ((Nat × Nat) ⊕ (Nat × List Nat)) → Bool
  | .inl (t, _) => t != 2
  | .inr _ => true
theorem sh_notJ : (List.range 138).all (fun k => (sh[k]?).all notJ) = true := by decide +kernel
section AJ
variable {σ : Nat → Nat → Int32} {w u v : Int64}
theorem sh_138 : sh[138]? = some (.inl (2, 1)) := rfl
theorem mk_138 : (mk σ w u)[138]? = some (.inl (2, 1, .inr (.inl (fun j => if j = 0 then u else 0)))) := by
  rw [mk_at, sh_138]
  rfl
theorem mkc_u {k : Nat} {x : (Nat × Nat) ⊕ (Nat × List Nat)} (h : notJ x = true) : mkc σ w u k x = mkc σ w v k x := by
  match x with
  | .inl (t, n) =>
    have h2 : t ≠ 2 := by
      intro e
      subst e
      exact absurd h (by simp [notJ])
    show Sum.inl (t, n, if t = 2 then _ else _) = Sum.inl (t, n, if t = 2 then _ else _)
    rw [if_neg h2, if_neg h2]
  | .inr (ci, cs) => rfl
theorem wAJ : wr_AJ (mk σ w u) 138 0 v = some (mk σ w v) := by
  unfold wr_AJ
  rw [mk_138]
  show (if _ then some _ else none) = _
  rw [if_pos (by decide)]
  refine congrArg some ?_
  apply mk_ext
  intro k
  rw [List.getElem?_set]
  by_cases hk : 138 = k
  · subst hk
    rw [if_pos rfl, if_pos (by rw [mk_len]; have : sh.length = 139 := rfl; omega), sh_138]
    show some (Sum.inl (2, 1, Sum.inr (Sum.inl _))) = some (Sum.inl (2, 1, Sum.inr (Sum.inl _)))
    congr 6
    funext j
    show (if j = 0 then v else if j = 0 then u else 0) = if j = 0 then v else 0
    by_cases h : j = 0
    · rw [if_pos h, if_pos h]
    · rw [if_neg h, if_neg h, if_neg h]
  · rw [if_neg hk, mk_at]
    by_cases h2 : k < 138
    · have h3 := List.all_eq_true.mp sh_notJ k (List.mem_range.mpr h2)
      cases hs : sh[k]? with
      | none => rfl
      | some x =>
        rw [hs] at h3
        exact congrArg some (mkc_u h3)
    · rw [List.getElem?_eq_none (by have : sh.length = 139 := rfl; omega)]
      rfl
theorem rAJ : rd_AJ (mk σ w u) 138 0 = some u := by
  unfold rd_AJ
  rw [mk_138]
  rfl
end AJ
