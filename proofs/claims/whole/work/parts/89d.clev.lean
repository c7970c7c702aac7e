/-! L3: the class reads a rule -/
section CL
variable {σ τ : Nat → Nat → Int32} {w u : Int64} {T : Nat → Nat} {n : Nat} {K : Nat × Nat × Nat}
def CR (τ : Nat → Nat → Int32) (C : List (Nat × Nat)) : Prop := τ 84 3 = nI C.length ∧ ∀ j k m, C[j]? = some (k, m) → τ 88 j = eC k m
def Wad2 (q k : Nat) : Prop := (q = 84 ∧ k = 3) ∨ q = 88
def Wx (q k : Nat) : Prop := (q = 80 ∧ k ≤ 9) ∨ (q = 84 ∧ k = 3) ∨ q = 88
theorem Wrd_x (h : Fr Wrd σ τ) : Fr Wx σ τ := Fr_m h (fun q k e => Or.inl e)
theorem Wad2_x (h : Fr Wad2 σ τ) : Fr Wx σ τ := Fr_m h (fun q k e => Or.inr e)
theorem add_any (x : Int32) : ∃ τ, Fr Wad2 σ τ ∧ f_X6_add 84 x (mk σ w u) = some (mk τ w u) := by
  have hs : ∃ τ, Fr (fun q _ => q = 88) σ τ ∧ f_X2_set 87 (σ 84 3) x (mk σ w u) = some (mk τ w u) := by
    by_cases c : σ 84 3 < 0
    · exact ⟨σ, Fr_r _ _, C_setN zC87 c⟩
    · obtain ⟨k, hk, ek⟩ : ∃ k, k < 2 ^ 31 ∧ σ 84 3 = nI k := by
        rcases arg_d (σ 84 3) (n := 2 ^ 31 - 1) (by decide) with ⟨j, hj, e⟩ | h
        · exact ⟨j, by omega, e⟩
        · rcases h with h | h
          · exact absurd h c
          · refine ⟨2 ^ 31 - 1, by decide, ?_⟩
            have h1 : (nI (2 ^ 31 - 1)).toInt ≤ (σ 84 3).toInt := Int32.le_iff_toInt_le.mp h
            have h2 : (nI (2 ^ 31 - 1)).toInt = 2147483647 := by decide
            have h3 : (σ 84 3).toInt ≤ 2147483647 := Int32.toInt_le _
            apply Int32.toInt_inj.mp
            omega
      by_cases c2 : k < 700
      · exact ⟨s2 σ 88 k x, Fr_s rfl, by rw [ek]; exact zs87 c2⟩
      · refine ⟨σ, Fr_r _ _, ?_⟩
        rw [ek]
        unfold f_X2_set
        rw [C_g zC87, if_neg (nI_pos hk), C_R zC87, Option.bind_some, C_L zC87, Option.bind_some, if_pos (nI_le (by omega) hk)]
        rfl
  obtain ⟨τ, fr, e⟩ := hs
  refine ⟨s2 τ 84 3 (τ 84 3 + 1), Fr_st (Fr_m fr (fun q k e => Or.inr e)) (Or.inl ⟨rfl, rfl⟩), ?_⟩
  unfold f_X6_add
  rw [zg84, zr84_1, Option.bind_some, zi84_3, Option.bind_some, e, Option.bind_some, zi84_3, Option.bind_some, zw84_3, Option.bind_some]
theorem add_f {C : List (Nat × Nat)} (cr : CR σ C) (hC : C.length < 700) (k m : Nat) : ∃ τ, Fr Wad2 σ τ ∧ CR τ (C ++ [(k, m)]) ∧ f_X6_add 84 (eC k m) (mk σ w u) = some (mk τ w u) := by
  refine ⟨s2 (s2 σ 88 C.length (eC k m)) 84 3 (nI (C.length + 1)), Fr_st (Fr_s (Or.inr rfl)) (Or.inl ⟨rfl, rfl⟩), ⟨by rw [s2_at rfl rfl, List.length_append]; rfl, fun j k2 m2 h => ?_⟩, ?_⟩
  · rw [s2_off (by omega)]
    rw [List.getElem?_append] at h
    split at h
    · next h9 => rw [s2_off (by omega)]; exact cr.2 j k2 m2 h
    · next h9 =>
      have hj : j = C.length := by
        by_cases c : j - C.length = 0
        · omega
        · rw [List.getElem?_eq_none (by show 1 ≤ _; omega)] at h; cases h
      subst hj
      rw [Nat.sub_self] at h
      have h2 : (k, m) = (k2, m2) := by injection h
      injection h2 with h3 h4
      rw [s2_at rfl rfl, h3, h4]
  · unfold f_X6_add
    rw [zg84, zr84_1, Option.bind_some, zi84_3, Option.bind_some, cr.1, zs87 hC, Option.bind_some, zi84_3, Option.bind_some, s2_off (by omega), cr.1, nI_1, zw84_3, Option.bind_some]
theorem CR_F {W : Nat → Nat → Prop} {C : List (Nat × Nat)} (cr : CR σ C) (fr : Fr W σ τ) (hw : ∀ q k, W q k → ¬ (q = 84 ∧ k = 3) ∧ q ≠ 88) : CR τ C := ⟨by rw [fr 84 3 (fun e => (hw _ _ e).1 ⟨rfl, rfl⟩)]; exact cr.1, fun j k m h => by rw [fr 88 j (fun e => (hw _ _ e).2 rfl)]; exact cr.2 j k m h⟩
end CL
