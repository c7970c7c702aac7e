/-! L3: numbers and signs taken, the class -/
section TA
variable {σ τ : Nat → Nat → Int32} {w u : Int64} {T : Nat → Nat} {n : Nat} {K : Nat × Nat × Nat}
def okD (T : Nat → Nat) (K : Nat × Nat × Nat) : Prop := K.2.2 = 1 → ∀ j, K.1 ≤ j → j < K.2.1 → 48 ≤ T j ∧ T j ≤ 57
theorem tok_D {T : Nat → Nat} {n i : Nat} : okD T (tok T n i) := by
  intro h j h1 h2
  unfold tok at h h1 h2
  dsimp only at h h1 h2
  by_cases c : n ≤ rn bBlk T n 701 i
  · rw [if_pos c] at h; have h : (0 : Nat) = 1 := h; omega
  · rw [if_neg c] at h h1 h2
    by_cases c1 : bDig (T (rn bBlk T n 701 i)) = true
    · rw [if_pos c1] at h1 h2
      exact of_decide_eq_true (rn_in bDig T n 701 _ j h1 h2).2
    · rw [if_neg c1] at h h1 h2
      by_cases c2 : bLet (T (rn bBlk T n 701 i)) = true
      · rw [if_pos c2] at h; have h : (2 : Nat) = 1 := h; omega
      · rw [if_neg c2] at h
        dsimp only at h
        split at h <;> omega
/-- the reader's good state, and one with a fault -/
def CG (σ : Nat → Nat → Int32) (T : Nat → Nat) (n : Nat) (K : Nat × Nat × Nat) : Prop := Tp σ 2 T ∧ σ 80 2 = nI 0 ∧ σ 80 3 = nJ 0 ∧ σ 80 5 = nI n ∧ CT σ T K ∧ okT n K ∧ (okL T K ∧ okD T K) ∧ n ≤ 700
def CF (σ : Nat → Nat → Int32) (f p : Nat) : Prop := σ 80 2 = nI f ∧ σ 80 3 = nI p ∧ f ≠ 0 ∧ f < 100
def Wrd (q k : Nat) : Prop := q = 80 ∧ k ≤ 9
theorem CG_F {W : Nat → Nat → Prop} (cg : CG σ T n K) (fr : Fr W σ τ) (hw : ∀ q k, W q k → q ≠ 2 ∧ ¬ (q = 80 ∧ (k = 2 ∨ k = 3 ∨ k = 5 ∨ k = 6 ∨ k = 7 ∨ k = 8 ∨ k = 9))) : CG τ T n K := by
  obtain ⟨h1, h2, h3, h5, ⟨c6, c7, c8, c9⟩, h6, h7, h8⟩ := cg
  have g : ∀ k, (k = 2 ∨ k = 3 ∨ k = 5 ∨ k = 6 ∨ k = 7 ∨ k = 8 ∨ k = 9) → τ 80 k = σ 80 k := fun k h => fr 80 k (fun e => (hw 80 k e).2 ⟨rfl, h⟩)
  exact ⟨Tp_F h1 fr (fun k e => (hw _ _ e).1 rfl), by rw [g 2 (by omega)]; exact h2, by rw [g 3 (by omega)]; exact h3, by rw [g 5 (by omega)]; exact h5, ⟨by rw [g 6 (by omega)]; exact c6, by rw [g 7 (by omega)]; exact c7, by rw [g 8 (by omega)]; exact c8, by rw [g 9 (by omega)]; exact c9⟩, h6, h7, h8⟩
theorem CF_F {W : Nat → Nat → Prop} {f p : Nat} (cf : CF σ f p) (fr : Fr W σ τ) (hw : ∀ q k, W q k → ¬ (q = 80 ∧ (k = 2 ∨ k = 3))) : CF τ f p := ⟨by rw [fr 80 2 (fun e => hw _ _ e (by omega))]; exact cf.1, by rw [fr 80 3 (fun e => hw _ _ e (by omega))]; exact cf.2.1, cf.2.2⟩
theorem adv_G (cg : CG σ T n K) : RN (fun τ => Fr Wrd σ τ ∧ CG τ T n (nxt T n K)) w u (f_X5_advance 80 (mk σ w u)) := by
  obtain ⟨h1, h2, h3, h5, ct, ok, okl, hn⟩ := cg
  obtain ⟨τ, ⟨fr, ct2⟩, e⟩ := advance_f (w := w) (u := u) h1 hn h2 h5 ct.1 ok.2.1
  exact ⟨τ, ⟨Fr_m fr (fun q k e => by unfold Wad at e; unfold Wrd; omega), Tp_F h1 fr (fun k e => by unfold Wad at e; omega), by rw [fr 80 2 (by unfold Wad; omega)]; exact h2, by rw [fr 80 3 (by unfold Wad; omega)]; exact h3, by rw [fr 80 5 (by unfold Wad; omega)]; exact h5, ct2, (tok_ok hn ok.2.1).1, ⟨tok_L, tok_D⟩, hn⟩, e⟩
theorem fail_G (cg : CG σ T n K) {f : Nat} (hf : f ≠ 0) (hf2 : f < 100) : RN (fun τ => Fr Wrd σ τ ∧ CF τ f K.1) w u (f_X5_fail 80 (nI f) (mk σ w u)) := by
  obtain ⟨h1, h2, h3, h5, ct, ok, okl, hn⟩ := cg
  exact ⟨_, ⟨Fr_st (Fr_s ⟨rfl, by omega⟩) ⟨rfl, by omega⟩, by rw [s2_off (by omega), s2_at rfl rfl], by rw [s2_at rfl rfl]; exact ct.2.2.1, hf, hf2⟩, fail_0 h2⟩
/-- a number as it is asked -/
def nmOk (T : Nat → Nat) (K : Nat × Nat × Nat) (lo hi : Nat) : Prop := K.2.2 = 1 ∧ K.2.1 - K.1 ≤ 4 ∧ lo ≤ vl T K.1 (K.2.1 - K.1) ∧ vl T K.1 (K.2.1 - K.1) ≤ hi
def nmF (K : Nat × Nat × Nat) : Nat := if K.2.2 = 1 then 2 else 1
theorem nm_vl {T : Nat → Nat} {s : Nat} : ∀ m, m ≤ 4 → (∀ j, j < m → 48 ≤ T (s + j) ∧ T (s + j) ≤ 57) → nm T s m = vl T s m ∧ nm T s m < 10 ^ m := by
  intro m
  induction m with
  | zero => intro _ _; exact ⟨rfl, Nat.one_pos⟩
  | succ m ih =>
    intro hm h
    obtain ⟨e, hl⟩ := ih (by omega) (fun j hj => h j (by omega))
    have h1 := h m (by omega)
    have h4 : 10 ^ m ≤ 10 ^ 3 := Nat.pow_le_pow_right (by decide) (by omega)
    have hS : vl T s (m + 1) = 10 * vl T s m + (T (s + m) - 48) := by
      show (if m < 4 then 10 * vl T s m + (T (s + m) - 48) else vl T s m) = _
      rw [if_pos (by omega)]
    have hN : nm T s (m + 1) = min (10 * nm T s m + (T (s + m) - 48)) 10000 := rfl
    rw [hS, hN, ← e, Nat.pow_succ, Nat.min_eq_left (by omega)]
    exact ⟨rfl, by omega⟩
theorem peek_f (cg : CG σ T n K) {lo hi : Nat} (hl : lo ≤ 9999) (hh : hi ≤ 9999) : (nmOk T K lo hi ∧ f_X5_peek 80 (nI lo) (nI hi) (mk σ w u) = some (nI (vl T K.1 (K.2.1 - K.1)), mk σ w u)) ∨ (¬ nmOk T K lo hi ∧ RQ (fun τ => Fr Wrd σ τ ∧ CF τ (nmF K) K.1) w u (nI 0) (f_X5_peek 80 (nI lo) (nI hi) (mk σ w u))) := by
  have cg2 := cg
  obtain ⟨h1, h2, h3, h5, ⟨c6, c7, c8, c9⟩, ok, ⟨okl, okd⟩, hn⟩ := cg
  obtain ⟨o1, o2, o3, o4, o5⟩ := ok
  unfold f_X5_peek f_X5_peek_44
  rw [zg80, zi80_7, Option.bind_some, c7]
  by_cases ck : K.2.2 = 1
  · obtain ⟨τ2, q2, e2⟩ := fail_G (w := w) (u := u) cg2 (f := 2) (by omega) (by omega)
    have hF : nmF K = 2 := by unfold nmF; rw [if_pos ck]
    have bad : RQ (fun τ => Fr Wrd σ τ ∧ CF τ (nmF K) K.1) w u (nI 0) ((f_X5_fail 80 2 (mk σ w u)).bind fun r1 => some (0, r1)) := by
      rw [show f_X5_fail 80 2 (mk σ w u) = some (mk τ2 w u) from e2, Option.bind_some, hF]
      exact ⟨τ2, q2, rfl⟩
    rw [if_pos ck] at c9
    rw [if_pos (show nI K.2.2 = 1 by rw [ck]; rfl), zi80_6, Option.bind_some, zi80_8, Option.bind_some, c6, c8, pk_sub o1]
    by_cases c4 : K.2.1 - K.1 ≤ 4
    · obtain ⟨ev, hv⟩ := nm_vl (T := T) (s := K.1) (K.2.1 - K.1) c4 (fun j hj => okd ck (K.1 + j) (by omega) (by omega))
      have hp : 10 ^ (K.2.1 - K.1) ≤ 10 ^ 4 := Nat.pow_le_pow_right (by decide) c4
      rw [ev] at c9 hv
      rw [if_neg (show ¬ (4 : Int32) < nI (K.2.1 - K.1) from nI_nlt (a := 4) c4 (by decide)), zi80_9, Option.bind_some, c9]
      by_cases cl : vl T K.1 (K.2.1 - K.1) < lo
      · rw [if_pos ((nI_ltI (by omega) (by omega)).mpr cl)]
        exact Or.inr ⟨fun h => by have := h.2.2.1; omega, bad⟩
      · rw [if_neg (nI_nlt (by omega) (by omega)), Option.bind_some]
        by_cases ch : vl T K.1 (K.2.1 - K.1) ≤ hi
        · rw [if_pos (nI_le ch (by omega)), Option.bind_some]
          exact Or.inl ⟨⟨ck, c4, by omega, ch⟩, rfl⟩
        · rw [if_neg (nI_ge (by omega) (by omega))]
          exact Or.inr ⟨fun h => ch h.2.2.2, bad⟩
    · rw [if_pos (show (4 : Int32) < nI (K.2.1 - K.1) from (nI_ltI (a := 4) (by decide) (by omega)).mpr (by omega))]
      exact Or.inr ⟨fun h => c4 h.2.1, bad⟩
  · obtain ⟨τ2, q2, e2⟩ := fail_G (w := w) (u := u) cg2 (f := 1) (by omega) (by omega)
    have hF : nmF K = 1 := by unfold nmF; rw [if_neg ck]
    rw [if_neg (show ¬ nI K.2.2 = 1 from fun e => ck ((nI_eq (b := 1) (by omega) (by decide)).mp e)), show f_X5_fail 80 1 (mk σ w u) = some (mk τ2 w u) from e2, Option.bind_some]
    refine Or.inr ⟨fun h => ck h.1, τ2, ?_, rfl⟩
    rw [hF]
    exact q2
end TA
