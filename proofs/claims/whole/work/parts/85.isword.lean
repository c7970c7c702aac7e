/-! L3: is this word here -/
def isW (T : Nat → Nat) (s e : Nat) (l : List Nat) : Bool := decide (e - s = l.length ∧ ∀ i, i < l.length → T (s + i) = l.getD i 0)
/-- a token is well told -/
def okT (n : Nat) (K : Nat × Nat × Nat) : Prop := K.1 ≤ K.2.1 ∧ K.2.1 ≤ n ∧ K.2.2 ≤ 4 ∧ (K.2.2 ≠ 0 → K.1 < K.2.1) ∧ (K.2.2 = 0 → K.1 = n)
theorem tok_ok {T : Nat → Nat} {n i : Nat} (hn : n ≤ 700) (hi : i ≤ n) : okT n (tok T n i) ∧ i ≤ (tok T n i).1 := by
  have h1 := rn_ge bBlk T n 701 i
  have h2 := rn_le bBlk T n 701 i hi
  unfold tok
  dsimp only
  by_cases c : n ≤ rn bBlk T n 701 i
  · rw [if_pos c]
    exact ⟨⟨Nat.le_refl _, h2, by show 0 ≤ 4; omega, fun h => absurd rfl h, fun _ => by show rn bBlk T n 701 i = n; omega⟩, h1⟩
  · rw [if_neg c]
    have st : ∀ p : Nat → Bool, p (T (rn bBlk T n 701 i)) = true → rn bBlk T n 701 i < rn p T n 701 (rn bBlk T n 701 i) := fun p hp => by
      have e : rn p T n 701 (rn bBlk T n 701 i) = rn p T n 700 (rn bBlk T n 701 i + 1) := by
        show (if rn bBlk T n 701 i < n ∧ p (T (rn bBlk T n 701 i)) = true then rn p T n 700 (rn bBlk T n 701 i + 1) else rn bBlk T n 701 i) = _
        rw [if_pos ⟨by omega, hp⟩]
      have := rn_ge p T n 700 (rn bBlk T n 701 i + 1)
      omega
    by_cases c1 : bDig (T (rn bBlk T n 701 i)) = true
    · rw [if_pos c1]
      have := st _ c1
      exact ⟨⟨Nat.le_of_lt this, rn_le _ _ _ _ _ h2, by show 1 ≤ 4; omega, fun _ => this, fun h => by have h : (1 : Nat) = 0 := h; omega⟩, h1⟩
    · rw [if_neg c1]
      by_cases c2 : bLet (T (rn bBlk T n 701 i)) = true
      · rw [if_pos c2]
        have := st _ c2
        exact ⟨⟨Nat.le_of_lt this, rn_le _ _ _ _ _ h2, by show 2 ≤ 4; omega, fun _ => this, fun h => by have h : (2 : Nat) = 0 := h; omega⟩, h1⟩
      · rw [if_neg c2]
        refine ⟨⟨by show rn bBlk T n 701 i ≤ rn bBlk T n 701 i + 1; omega, by show rn bBlk T n 701 i + 1 ≤ n; omega, ?_, fun _ => by show rn bBlk T n 701 i < rn bBlk T n 701 i + 1; omega, fun h => ?_⟩, h1⟩
        · dsimp only; split <;> omega
        · dsimp only at h; split at h <;> omega
section IW
variable {σ τ : Nat → Nat → Int32} {w u : Int64} {T : Nat → Nat} {n : Nat} {K : Nat × Nat × Nat}
theorem isWord_f {k : UInt32} {l : List Nat} (hw : Wd k l) (hl : l.length < 100) (hl9 : ∀ i, i < l.length → l.getD i 0 < 256) (tp : Tp σ 2 T) (h2 : σ 80 2 = nI 0) (ct : CT σ T K) (ok : okT n K) (hn : n ≤ 700) : f_X5_isWord 80 k (mk σ w u) = some (nI (if K.2.2 = 2 ∧ isW T K.1 K.2.1 l = true then 1 else 0), mk σ w u) := by
  obtain ⟨o1, o2, o3, o4, o5⟩ := ok
  obtain ⟨c6, c7, c8, c9⟩ := ct
  have hno : ∀ v, v = (if K.2.2 = 2 ∧ isW T K.1 K.2.1 l = true then 1 else 0) → v = 0 → f_X5_isWord_31 (mk σ w u) = some (nI (if K.2.2 = 2 ∧ isW T K.1 K.2.1 l = true then 1 else 0), mk σ w u) := fun v h1 h2 => by
    rw [← h1, h2]
    unfold f_X5_isWord_31
    rfl
  unfold f_X5_isWord
  rw [zg80, zi80_2, Option.bind_some, h2, if_pos (show nI 0 = 0 from rfl), zi80_7, Option.bind_some, c7]
  by_cases ck : K.2.2 = 2
  · rw [if_pos (show nI K.2.2 = 2 by rw [ck]; rfl), zi80_6, Option.bind_some, zi80_8, Option.bind_some, c6, c8, pk_sub o1, (hw _).1, Option.bind_some]
    dsimp only
    by_cases cl : K.2.1 - K.1 = l.length
    · rw [if_pos (by rw [cl])]
      unfold l_X5_isWord_35
      refine lp_S (fun x => x = some (nI (if K.2.2 = 2 ∧ isW T K.1 K.2.1 l = true then 1 else 0), mk σ w u)) (fun i τ => (80, k, nI i, mk τ w u)) (fun i τ => τ = σ ∧ ∀ j, j < i → T (K.1 + j) = l.getD j 0) l.length ?_ ?_ l.length 0 _ σ (by omega) (by omega) ⟨rfl, fun j hj => by omega⟩
      · intro i hi k2 τ ⟨e, hI⟩ hk
        subst e
        have hT := (tp (K.1 + i) (by omega)).1
        have hg := hl9 i hi
        dsimp only at hk ⊢
        unfold f_X5_isWord_35
        rw [(hw _).1, Option.bind_some]
        dsimp only
        rw [if_neg (nI_ge hi (by omega)), zr80_4, Option.bind_some, zi80_8, Option.bind_some, c8, nI_add, zt1 (by omega), (tp (K.1 + i) (by omega)).2, Option.bind_some]
        dsimp only
        rw [(hw _).2 i hi, Option.bind_some]
        dsimp only
        by_cases cc : T (K.1 + i) = l.getD i 0
        · rw [if_pos (by rw [cc]), nI_1]
          refine hk τ ⟨rfl, fun j hj => ?_⟩
          by_cases cj : j = i
          · rw [cj]; exact cc
          · exact hI j (by omega)
        · rw [if_neg (fun e => cc ((nI_eq (by omega) (by omega)).mp e)), if_neg (fun e => cc ((of_decide_eq_true e.2).2 i hi))]
          unfold f_X5_isWord_64
          rfl
      · intro k2 τ ⟨e, hI⟩
        subst e
        dsimp only
        unfold f_X5_isWord_35 f_X5_isWord_72
        rw [(hw _).1, Option.bind_some]
        dsimp only
        rw [if_pos (nI_le (Nat.le_refl _) (by omega)), if_pos (by decide), if_pos ⟨ck, show isW T K.1 K.2.1 l = true from decide_eq_true ⟨cl, hI⟩⟩]
        rfl
    · rw [if_neg (fun e => cl ((nI_eq (by omega) (by omega)).mp e))]
      exact hno _ rfl (if_neg (fun e => cl (of_decide_eq_true e.2).1))
  · rw [if_neg (show ¬ nI K.2.2 = 2 from fun e => ck ((nI_eq (b := 2) (by omega) (by decide)).mp e))]
    exact hno _ rfl (if_neg (fun e => ck e.1))
theorem isWord_n {k : UInt32} {f : Nat} (hf : f ≠ 0) (hf2 : f < 100) (h2 : σ 80 2 = nI f) : f_X5_isWord 80 k (mk σ w u) = some (nI 0, mk σ w u) := by
  unfold f_X5_isWord
  rw [zg80, zi80_2, Option.bind_some, h2, if_neg (nI_ne0 (by omega) (by omega))]
  unfold f_X5_isWord_31
  rfl
end IW
