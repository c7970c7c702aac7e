/-! L3: signs and faults, both sides -/
section SG
variable {σ τ : Nat → Nat → Int32} {w u : Int64} {T : Nat → Nat} {n : Nat} {K : Nat × Nat × Nat}
/-- the token is this sign -/
def isS (T : Nat → Nat) (K : Nat × Nat × Nat) (c : Nat) : Prop := K.2.2 = 3 ∧ T K.1 = c
theorem fail_0 {f : Nat} (h2 : σ 80 2 = nI 0) : f_X5_fail 80 (nI f) (mk σ w u) = some (mk (s2 (s2 σ 80 2 (nI f)) 80 3 (σ 80 8)) w u) := by
  unfold f_X5_fail f_X5_fail_20
  rw [zg80, zi80_2, Option.bind_some, h2, if_pos (show nI 0 = 0 from rfl), zw80_2, Option.bind_some, zi80_8, Option.bind_some, zw80_3, Option.bind_some, s2_off (by omega)]
theorem fail_n {f : Nat} {x : Int32} (h2 : σ 80 2 = nI f) (hf : f ≠ 0) (hf2 : f < 100) : f_X5_fail 80 x (mk σ w u) = some (mk σ w u) := by
  unfold f_X5_fail f_X5_fail_20
  rw [zg80, zi80_2, Option.bind_some, h2, if_neg (nI_ne0 (by omega) (by omega))]
theorem advance_n {f : Nat} (h2 : σ 80 2 = nI f) (hf : f ≠ 0) (hf2 : f < 100) : f_X5_advance 80 (mk σ w u) = some (mk σ w u) := by
  unfold f_X5_advance
  rw [zg80, zi80_2, Option.bind_some, h2, if_neg (nI_ne0 (by omega) (by omega))]
theorem wrong_0 {f : Nat} (h : σ 118 11 = nI 0) : f_X11_wrong 118 (nI f) (mk σ w u) = some (mk (s2 (s2 σ 118 11 (nI f)) 118 12 (σ 118 17)) w u) := by
  unfold f_X11_wrong
  rw [zg118, zi118_11, Option.bind_some, h, if_pos (show nI 0 = 0 from rfl), zw118_11, Option.bind_some, zi118_17, Option.bind_some, zw118_12, Option.bind_some, s2_off (by omega)]
theorem wrong_n {f : Nat} {x : Int32} (h : σ 118 11 = nI f) (hf : f ≠ 0) (hf2 : f < 100) : f_X11_wrong 118 x (mk σ w u) = some (mk σ w u) := by
  unfold f_X11_wrong
  rw [zg118, zi118_11, Option.bind_some, h, if_neg (nI_ne0 (by omega) (by omega))]
end SG
