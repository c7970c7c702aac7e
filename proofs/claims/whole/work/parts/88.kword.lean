/-! L3: which known word is here -/
def lit (k : Nat) : Nat := pf (fun j => (wrd k).getD j 0 - 96) (wrd k).length
theorem letters_f {k : Nat} (hk : k < 14) (h : hp_H) : f_X11_letters (nI k) h = some (Int64.ofNat (lit k), h) := by
  have hh : k = 0 ∨ k = 1 ∨ k = 2 ∨ k = 3 ∨ k = 4 ∨ k = 5 ∨ k = 6 ∨ k = 7 ∨ k = 8 ∨ k = 9 ∨ k = 10 ∨ k = 11 ∨ k = 12 ∨ k = 13 := by omega
  rcases hh with e | e | e | e | e | e | e | e | e | e | e | e | e | e
  · subst e; exact lt_sum h
  · subst e; exact lt_others h
  · subst e; exact lt_mud h
  · subst e; exact lt_beat h
  · subst e; exact lt_many h
  · subst e; exact lt_last h
  · subst e; exact lt_beats h
  · subst e; exact lt_man h
  · subst e; exact lt_row h
  · subst e; exact lt_slack h
  · subst e; exact lt_hears h
  · subst e; exact lt_and h
  · subst e; exact lt_or h
  · subst e; exact lt_not h
theorem wrd_b : ∀ k, k < 14 → (wrd k).length ≤ 6 ∧ ∀ j, j < (wrd k).length → 97 ≤ (wrd k).getD j 0 ∧ (wrd k).getD j 0 ≤ 122 := by decide
theorem lg_0 {x y : Int64} : lg_cmp x y = 0 ↔ x = y := by
  unfold lg_cmp
  by_cases c : x > y
  · rw [if_pos c]
    exact ⟨fun h => absurd h (by decide), fun h => by subst h; exact absurd c Int64.lt_irrefl⟩
  · rw [if_neg c]
    by_cases c2 : x = y
    · rw [if_pos c2]; exact ⟨fun _ => c2, fun _ => rfl⟩
    · rw [if_neg c2]; exact ⟨fun h => absurd h (by decide), fun h => absurd h c2⟩
def kw (T : Nat → Nat) (K : Nat × Nat × Nat) : Nat := if K.2.2 = 2 then fi (fun k => if isW T K.1 K.2.1 (wrd k) = true then 1 else 0) 14 0 else 0
section KN
variable {σ τ : Nat → Nat → Int32} {w u : Int64} {T : Nat → Nat} {n : Nat} {K : Nat × Nat × Nat}
def okL (T : Nat → Nat) (K : Nat × Nat × Nat) : Prop := K.2.2 = 2 → ∀ j, K.1 ≤ j → j < K.2.1 → 97 ≤ T j ∧ T j ≤ 122
theorem tok_L {T : Nat → Nat} {n i : Nat} : okL T (tok T n i) := by
  intro h j h1 h2
  unfold tok at h h1 h2
  dsimp only at h h1 h2
  by_cases c : n ≤ rn bBlk T n 701 i
  · rw [if_pos c] at h; have h : (0 : Nat) = 2 := h; omega
  · rw [if_neg c] at h h1 h2
    by_cases c1 : bDig (T (rn bBlk T n 701 i)) = true
    · rw [if_pos c1] at h; have h : (1 : Nat) = 2 := h; omega
    · rw [if_neg c1] at h h1 h2
      by_cases c2 : bLet (T (rn bBlk T n 701 i)) = true
      · rw [if_pos c2] at h1 h2
        exact of_decide_eq_true (rn_in bLet T n 701 _ j h1 h2).2
      · rw [if_neg c2] at h
        dsimp only at h
        split at h <;> omega
theorem wd_is (ok : okT n K) (okl : okL T K) (hk2 : K.2.2 = 2) (h6 : K.2.1 - K.1 ≤ 6) {k : Nat} (hk : k < 14) : Int64.ofNat (lit k) = wd T K.1 (K.2.1 - K.1) ↔ isW T K.1 K.2.1 (wrd k) = true := by
  have hb := wrd_b k hk
  have hT : ∀ j, j < K.2.1 - K.1 → 97 ≤ T (K.1 + j) ∧ T (K.1 + j) ≤ 122 := fun j hj => okl hk2 (K.1 + j) (by omega) (by omega)
  rw [wd_pf _ h6 hT]
  have l1 : lit k < 32 ^ 6 := Nat.lt_of_lt_of_le (pf_lt _ (fun j hj => by have := hb.2 j hj; omega)) (Nat.pow_le_pow_right (by decide) hb.1)
  have l2 : pf (fun j => T (K.1 + j) - 96) (K.2.1 - K.1) < 32 ^ 6 := Nat.lt_of_lt_of_le (pf_lt _ (fun j hj => by have := hT j hj; omega)) (Nat.pow_le_pow_right (by decide) h6)
  constructor
  · intro e
    have e2 : lit k = pf (fun j => T (K.1 + j) - 96) (K.2.1 - K.1) := by
      have e3 := congrArg (fun x : Int64 => x.toBitVec.toNat) e
      have f1 : ∀ a, a < 2 ^ 64 → (Int64.ofNat a).toBitVec.toNat = a := fun a ha => by
        show (BitVec.ofNat 64 a).toNat = a
        rw [BitVec.toNat_ofNat, Nat.mod_eq_of_lt ha]
      rw [f1 _ (by omega), f1 _ (by omega)] at e3
      exact e3
    obtain ⟨g1, g2⟩ := pf_inj _ _ (fun j hj => by have := hb.2 j hj; omega) (fun j hj => by have := hT j hj; omega) e2
    exact decide_eq_true ⟨g1.symm, fun i hi => by
      have a1 := g2 i hi
      have a2 := hb.2 i hi
      have a3 := hT i (by omega)
      omega⟩
  · intro e
    obtain ⟨g1, g2⟩ := of_decide_eq_true e
    have e2 : lit k = pf (fun j => T (K.1 + j) - 96) (K.2.1 - K.1) := by
      rw [g1]
      exact it_c (fun i hi v => by dsimp only; rw [g2 i hi])
    rw [e2]
theorem knownWord_R (rt : RT τ w T n K) (ok : okT n K) (okl : okL T K) (hn : n ≤ 700) : f_X11_knownWord 118 (mk τ w u) = some (nJ (kw T K), mk τ w u) := by
  obtain ⟨c15, c16, c17, c18, c19, c20, cw⟩ := rt
  obtain ⟨o1, o2, o3, o4, o5⟩ := ok
  have ok' : okT n K := ⟨o1, o2, o3, o4, o5⟩
  unfold f_X11_knownWord kw
  rw [zg118, zi118_16, Option.bind_some, c16]
  by_cases ck : K.2.2 = 2
  · rw [if_pos ck] at cw
    rw [if_pos ck, if_pos (show nI (srt K.2.2) = 1 by rw [ck]; rfl), zi118_18, Option.bind_some, c18]
    by_cases c6 : K.2.1 - K.1 ≤ 6
    · rw [if_pos (show nI (K.2.1 - K.1) ≤ 6 from nI_le (b := 6) c6 (by decide))]
      unfold l_X11_knownWord_21
      have h := lp_fi (f := fun k (s : Nat × Int32 × hp_H) => f_X11_knownWord_21 (fun a0 a1 a2 => k (a0, a1, a2)) s.1 s.2.1 s.2.2) (fun i => (118, nI i, mk τ w u)) 14 (fun k => if isW T K.1 K.2.1 (wrd k) = true then 1 else 0) (fun i => some (nI i, mk τ w u)) (some (nJ 0, mk τ w u)) (fun i hi hp k => by
        dsimp only
        unfold f_X11_knownWord_21
        rw [if_neg (show ¬ (14 : Int32) ≤ nI i from nI_ge (b := 14) hi (by decide)), letters_f hi, Option.bind_some]
        dsimp only
        rw [zi118_21, Option.bind_some, cw, if_neg (fun e => by
          rw [lg_0, wd_is ok' okl ck c6 hi] at e
          rw [if_pos e] at hp
          omega), nI_1]) (fun i hi hp k => by
        dsimp only
        unfold f_X11_knownWord_21 f_X11_knownWord_39
        rw [if_neg (show ¬ (14 : Int32) ≤ nI i from nI_ge (b := 14) hi (by decide)), letters_f hi, Option.bind_some]
        dsimp only
        rw [zi118_21, Option.bind_some, cw, if_pos (by
          rw [lg_0, wd_is ok' okl ck c6 hi]
          by_cases c : isW T K.1 K.2.1 (wrd i) = true
          · exact c
          · rw [if_neg c] at hp; exact absurd rfl hp)]) (fun k => by
        dsimp only
        unfold f_X11_knownWord_21 f_X11_knownWord_47
        rw [if_pos (by decide)]
        rfl) 14 0 100000 (by omega) (by omega)
      refine Eq.trans h ?_
      split
      · next h0 => rw [h0]
      · next h0 => rw [nJ_pos (by omega)]
    · have hz : fi (fun k => if isW T K.1 K.2.1 (wrd k) = true then 1 else 0) 14 0 = 0 := (fi_0 _ _ _).mpr (fun j _ hj => if_neg (fun e => by have := (of_decide_eq_true e).1; have := (wrd_b j (by omega)).1; omega))
      rw [if_neg (show ¬ nI (K.2.1 - K.1) ≤ 6 from nI_ge (a := 6) (by omega) (by omega)), hz]
      rfl
  · rw [if_neg ck, if_neg (show ¬ nI (srt K.2.2) = 1 from fun e => by
      have hs4 : srt K.2.2 ≤ 4 := by
        unfold srt
        split
        · omega
        · exact o3
      have h := (nI_eq (b := 1) (by omega) (by decide)).mp e
      unfold srt at h
      split at h
      · omega
      · omega)]
    rfl
end KN
