/-! L3: signs and faults, both sides -/
section SG
variable {σ τ : Nat → Nat → Int32} {w u : Int64} {T : Nat → Nat} {n : Nat} {K : Nat × Nat × Nat}
/-- the token is this sign -/
def isS (T : Nat → Nat) (K : Nat × Nat × Nat) (c : Nat) : Prop := K.2.2 = 3 ∧ T K.1 = c
theorem fail_0 {f : Nat} (h2 : σ 80 2 = nI 0) : f_X5_fail 80 (nI f) (mk σ w u) = some (mk (s2 (s2 σ 80 2 (nI f)) 80 3 (σ 80 8)) w u) := by
  unfold f_X5_fail f_X5_fail_20
  rw [zg80, zi80_2, Option.bind_some, h2, if_pos (show nI 0 = 0 from rfl), zw80_2, Option.bind_some, zi80_8, Option.bind_some, zw80_3, Option.bind_some, s2_off (by omega)]
theorem fail_n {f : Nat} {x : Int32} (h2 : σ 80 2 = nI f) (hf : f ≠ 0) (hf2 : f < 100) : f_X5_fail 80 x (mk σ w u) = some (mk σ w u) := by
  unfold f_X5_fail f_X5_fail_20
  rw [zg80, zi80_2, Option.bind_some, h2, if_neg (nI_ne0 (by omega) (by omega))]
theorem advance_n {f : Nat} (h2 : σ 80 2 = nI f) (hf : f ≠ 0) (hf2 : f < 100) : f_X5_advance 80 (mk σ w u) = some (mk σ w u) := by
  unfold f_X5_advance
  rw [zg80, zi80_2, Option.bind_some, h2, if_neg (nI_ne0 (by omega) (by omega))]
theorem wrong_0 {f : Nat} (h : σ 118 11 = nI 0) : f_X11_wrong 118 (nI f) (mk σ w u) = some (mk (s2 (s2 σ 118 11 (nI f)) 118 12 (σ 118 17)) w u) := by
  unfold f_X11_wrong
  rw [zg118, zi118_11, Option.bind_some, h, if_pos (show nI 0 = 0 from rfl), zw118_11, Option.bind_some, zi118_17, Option.bind_some, zw118_12, Option.bind_some, s2_off (by omega)]
theorem wrong_n {f : Nat} {x : Int32} (h : σ 118 11 = nI f) (hf : f ≠ 0) (hf2 : f < 100) : f_X11_wrong 118 x (mk σ w u) = some (mk σ w u) := by
  unfold f_X11_wrong
  rw [zg118, zi118_11, Option.bind_some, h, if_neg (nI_ne0 (by omega) (by omega))]
theorem isGood_1 (h : σ 118 11 = nI 0) : f_X11_isGood 118 (mk σ w u) = some (nI 1, mk σ w u) := by
  unfold f_X11_isGood f_X11_isGood_12
  rw [zg118, zi118_11, Option.bind_some, h, if_pos (show nI 0 = 0 from rfl), if_pos (by decide)]
  rfl
theorem isGood_0 {f : Nat} (h : σ 118 11 = nI f) (hf : f ≠ 0) (hf2 : f < 100) : f_X11_isGood 118 (mk σ w u) = some (nI 0, mk σ w u) := by
  unfold f_X11_isGood f_X11_isGood_12
  rw [zg118, zi118_11, Option.bind_some, h, if_neg (nI_ne0 (by omega) (by omega)), if_pos (by decide)]
  rfl
theorem isSign_f {c : Nat} (hc : c < 256) (tp : Tp σ 2 T) (h2 : σ 80 2 = nI 0) (ct : CT σ T K) (ok : okT n K) (hn : n ≤ 700) : f_X5_isSign 80 (nI c) (mk σ w u) = some (nI (if K.2.2 = 3 ∧ T K.1 = c then 1 else 0), mk σ w u) := by
  obtain ⟨o1, o2, o3, o4, o5⟩ := ok
  obtain ⟨c6, c7, c8, c9⟩ := ct
  unfold f_X5_isSign f_X5_isSign_34 f_X5_isSign_35
  rw [zg80, zi80_2, Option.bind_some, h2, if_pos (show nI 0 = 0 from rfl), zi80_7, Option.bind_some, c7]
  by_cases ck : K.2.2 = 3
  · have hs := o4 (by omega)
    have hT := (tp K.1 (by omega)).1
    rw [if_pos (show nI K.2.2 = 3 by rw [ck]; rfl), zr80_4, Option.bind_some, zi80_8, Option.bind_some, c8, zt1 (by omega), (tp K.1 (by omega)).2, Option.bind_some]
    dsimp only
    by_cases cc : T K.1 = c
    · rw [if_pos (by rw [cc]), if_pos (by decide), if_pos ⟨ck, cc⟩]
      rfl
    · rw [if_neg (fun e => cc ((nI_eq (by omega) (by omega)).mp e)), if_pos (by decide), if_neg (fun e => cc e.2)]
      rfl
  · rw [if_neg (show ¬ nI K.2.2 = 3 from fun e => ck ((nI_eq (b := 3) (by omega) (by decide)).mp e)), if_pos (by decide), if_neg (fun e => ck e.1)]
    rfl
theorem isSign_n {f : Nat} {x : Int32} (h2 : σ 80 2 = nI f) (hf : f ≠ 0) (hf2 : f < 100) : f_X5_isSign 80 x (mk σ w u) = some (nI 0, mk σ w u) := by
  unfold f_X5_isSign f_X5_isSign_34 f_X5_isSign_35
  rw [zg80, zi80_2, Option.bind_some, h2, if_neg (nI_ne0 (by omega) (by omega)), if_pos (by decide)]
  rfl
theorem isSign_R {c : Nat} (hc : c < 256) (hT : ∀ i, i < 700 → T i < 256) (rt : RT τ w T n K) (ok : okT n K) (hn : n ≤ 700) : f_X11_isSign 118 (nI c) (mk τ w u) = some (nI (if K.2.2 = 3 ∧ T K.1 = c then 1 else 0), mk τ w u) := by
  obtain ⟨o1, o2, o3, o4, o5⟩ := ok
  obtain ⟨c15, c16, c17, c18, c19, c20, cw⟩ := rt
  unfold f_X11_isSign f_X11_isSign_20 f_X11_isSign_21
  rw [zg118, zi118_16, Option.bind_some, c16]
  by_cases ck : K.2.2 = 3
  · have hs := o4 (by omega)
    have hb := hT K.1 (by omega)
    rw [if_pos (show nI (srt K.2.2) = 3 by rw [ck]; rfl), zi118_20, Option.bind_some, c20, if_pos (show K.1 < n by omega)]
    by_cases cc : T K.1 = c
    · rw [if_pos (by rw [cc]), if_pos (by decide), if_pos ⟨ck, cc⟩]
      rfl
    · rw [if_neg (fun e => cc ((nI_eq (by omega) (by omega)).mp e)), if_pos (by decide), if_neg (fun e => cc e.2)]
      rfl
  · rw [if_neg (show ¬ nI (srt K.2.2) = 3 from fun e => by
      have hs : srt K.2.2 ≠ 3 ∧ srt K.2.2 ≤ 4 := by
        unfold srt
        split
        · omega
        · split <;> omega
      exact hs.1 ((nI_eq (b := 3) (by omega) (by decide)).mp e)), if_pos (by decide), if_neg (fun e => ck e.1)]
    rfl
end SG
