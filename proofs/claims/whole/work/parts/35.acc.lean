/-! L3: what stands where: a row a field -/
section AC
variable {σ : Nat → Nat → Int32} {w u : Int64} {i : Nat} {v : Int32} {β : Type} {x : Option β}
theorem zg0 : gd (mk σ w u) 0 10 x = x := gdm rfl
theorem zr0_0 : rd_R (mk σ w u) 0 10 0 = some 1 := rR rfl rfl
theorem zi0_1 : rd_I (mk σ w u) 0 10 1 = some (σ 0 1) := rI rfl rfl
theorem zw0_1 : wr_I (mk σ w u) 0 10 1 v = some (mk (s2 σ 0 1 v) w u) := wI rfl rfl
theorem zi0_2 : rd_I (mk σ w u) 0 10 2 = some (σ 0 2) := rI rfl rfl
theorem zw0_2 : wr_I (mk σ w u) 0 10 2 v = some (mk (s2 σ 0 2 v) w u) := wI rfl rfl
theorem zr0_3 : rd_R (mk σ w u) 0 10 3 = some 3 := rR rfl rfl
theorem zr0_4 : rd_R (mk σ w u) 0 10 4 = some 5 := rR rfl rfl
theorem zr0_5 : rd_R (mk σ w u) 0 10 5 = some 15 := rR rfl rfl
theorem zr0_6 : rd_R (mk σ w u) 0 10 6 = some 43 := rR rfl rfl
theorem zi0_7 : rd_I (mk σ w u) 0 10 7 = some (σ 0 7) := rI rfl rfl
theorem zw0_7 (h : v = 0 ∨ v = 1) : wr_Z (mk σ w u) 0 10 7 v = some (mk (s2 σ 0 7 v) w u) := wZ rfl rfl h
theorem zr0_8 : rd_R (mk σ w u) 0 10 8 = some 34 := rR rfl rfl
theorem zr0_9 : rd_R (mk σ w u) 0 10 9 = some 71 := rR rfl rfl
theorem zr0_10 : rd_R (mk σ w u) 0 10 10 = some 80 := rR rfl rfl
theorem zr0_11 : rd_R (mk σ w u) 0 10 11 = some 100 := rR rfl rfl
theorem zr0_12 : rd_R (mk σ w u) 0 10 12 = some 107 := rR rfl rfl
theorem zr0_13 : rd_R (mk σ w u) 0 10 13 = some 114 := rR rfl rfl
theorem zr0_14 : rd_R (mk σ w u) 0 10 14 = some 116 := rR rfl rfl
theorem zg1 : gd (mk σ w u) 1 2 x = x := gdm rfl
theorem zr1_0 : rd_R (mk σ w u) 1 2 0 = some 2 := rR rfl rfl
theorem zC1 : isC 1 700 := ⟨rfl, rfl, by decide⟩
theorem zt1 (h : i < 700) : f_X2_at 1 (nI i) (mk σ w u) = some (σ 2 i, mk σ w u) := C_at zC1 h
theorem zs1 (h : i < 700) : f_X2_set 1 (nI i) v (mk σ w u) = some (mk (s2 σ 2 i v) w u) := C_set zC1 h
theorem zg3 : gd (mk σ w u) 3 2 x = x := gdm rfl
theorem zr3_0 : rd_R (mk σ w u) 3 2 0 = some 4 := rR rfl rfl
theorem zC3 : isC 3 3 := ⟨rfl, rfl, by decide⟩
theorem zt3 (h : i < 3) : f_X2_at 3 (nI i) (mk σ w u) = some (σ 4 i, mk σ w u) := C_at zC3 h
theorem zs3 (h : i < 3) : f_X2_set 3 (nI i) v (mk σ w u) = some (mk (s2 σ 4 i v) w u) := C_set zC3 h
theorem zg5 : gd (mk σ w u) 5 1 x = x := gdm rfl
theorem zi5_0 : rd_I (mk σ w u) 5 1 0 = some (σ 5 0) := rI rfl rfl
theorem zw5_0 : wr_I (mk σ w u) 5 1 0 v = some (mk (s2 σ 5 0 v) w u) := wI rfl rfl
theorem zi5_1 : rd_I (mk σ w u) 5 1 1 = some (σ 5 1) := rI rfl rfl
theorem zw5_1 : wr_I (mk σ w u) 5 1 1 v = some (mk (s2 σ 5 1 v) w u) := wI rfl rfl
theorem zi5_2 : rd_I (mk σ w u) 5 1 2 = some (σ 5 2) := rI rfl rfl
theorem zw5_2 : wr_I (mk σ w u) 5 1 2 v = some (mk (s2 σ 5 2 v) w u) := wI rfl rfl
theorem zi5_3 : rd_I (mk σ w u) 5 1 3 = some (σ 5 3) := rI rfl rfl
theorem zw5_3 : wr_I (mk σ w u) 5 1 3 v = some (mk (s2 σ 5 3 v) w u) := wI rfl rfl
theorem zi5_4 : rd_I (mk σ w u) 5 1 4 = some (σ 5 4) := rI rfl rfl
theorem zw5_4 : wr_I (mk σ w u) 5 1 4 v = some (mk (s2 σ 5 4 v) w u) := wI rfl rfl
theorem zr5_5 : rd_R (mk σ w u) 5 1 5 = some 6 := rR rfl rfl
theorem zr5_6 : rd_R (mk σ w u) 5 1 6 = some 8 := rR rfl rfl
theorem zg6 : gd (mk σ w u) 6 2 x = x := gdm rfl
theorem zr6_0 : rd_R (mk σ w u) 6 2 0 = some 7 := rR rfl rfl
theorem zC6 : isC 6 8 := ⟨rfl, rfl, by decide⟩
theorem zt6 (h : i < 8) : f_X2_at 6 (nI i) (mk σ w u) = some (σ 7 i, mk σ w u) := C_at zC6 h
theorem zs6 (h : i < 8) : f_X2_set 6 (nI i) v (mk σ w u) = some (mk (s2 σ 7 i v) w u) := C_set zC6 h
theorem zg8 : gd (mk σ w u) 8 6 x = x := gdm rfl
theorem zr8_0 : rd_R (mk σ w u) 8 6 0 = some 9 := rR rfl rfl
theorem zr8_1 : rd_R (mk σ w u) 8 6 1 = some 11 := rR rfl rfl
theorem zr8_2 : rd_R (mk σ w u) 8 6 2 = some 13 := rR rfl rfl
theorem zi8_3 : rd_I (mk σ w u) 8 6 3 = some (σ 8 3) := rI rfl rfl
theorem zw8_3 : wr_I (mk σ w u) 8 6 3 v = some (mk (s2 σ 8 3 v) w u) := wI rfl rfl
theorem zg9 : gd (mk σ w u) 9 2 x = x := gdm rfl
theorem zr9_0 : rd_R (mk σ w u) 9 2 0 = some 10 := rR rfl rfl
theorem zC9 : isC 9 64 := ⟨rfl, rfl, by decide⟩
theorem zt9 (h : i < 64) : f_X2_at 9 (nI i) (mk σ w u) = some (σ 10 i, mk σ w u) := C_at zC9 h
theorem zs9 (h : i < 64) : f_X2_set 9 (nI i) v (mk σ w u) = some (mk (s2 σ 10 i v) w u) := C_set zC9 h
theorem zg11 : gd (mk σ w u) 11 2 x = x := gdm rfl
theorem zr11_0 : rd_R (mk σ w u) 11 2 0 = some 12 := rR rfl rfl
theorem zC11 : isC 11 700 := ⟨rfl, rfl, by decide⟩
theorem zt11 (h : i < 700) : f_X2_at 11 (nI i) (mk σ w u) = some (σ 12 i, mk σ w u) := C_at zC11 h
theorem zs11 (h : i < 700) : f_X2_set 11 (nI i) v (mk σ w u) = some (mk (s2 σ 12 i v) w u) := C_set zC11 h
theorem zg13 : gd (mk σ w u) 13 2 x = x := gdm rfl
theorem zr13_0 : rd_R (mk σ w u) 13 2 0 = some 14 := rR rfl rfl
theorem zC13 : isC 13 6 := ⟨rfl, rfl, by decide⟩
theorem zt13 (h : i < 6) : f_X2_at 13 (nI i) (mk σ w u) = some (σ 14 i, mk σ w u) := C_at zC13 h
theorem zs13 (h : i < 6) : f_X2_set 13 (nI i) v (mk σ w u) = some (mk (s2 σ 14 i v) w u) := C_set zC13 h
theorem zg15 : gd (mk σ w u) 15 8 x = x := gdm rfl
theorem zr15_0 : rd_R (mk σ w u) 15 8 0 = some 34 := rR rfl rfl
theorem zr15_1 : rd_R (mk σ w u) 15 8 1 = some 16 := rR rfl rfl
theorem zr15_2 : rd_R (mk σ w u) 15 8 2 = some 25 := rR rfl rfl
theorem zg16 : gd (mk σ w u) 16 0 x = x := gdm rfl
theorem zr16_0 : rd_R (mk σ w u) 16 0 0 = some 17 := rR rfl rfl
theorem zr16_1 : rd_R (mk σ w u) 16 0 1 = some 19 := rR rfl rfl
theorem zr16_2 : rd_R (mk σ w u) 16 0 2 = some 21 := rR rfl rfl
theorem zr16_3 : rd_R (mk σ w u) 16 0 3 = some 23 := rR rfl rfl
theorem zi16_4 : rd_I (mk σ w u) 16 0 4 = some (σ 16 4) := rI rfl rfl
theorem zw16_4 : wr_I (mk σ w u) 16 0 4 v = some (mk (s2 σ 16 4 v) w u) := wI rfl rfl
theorem zg17 : gd (mk σ w u) 17 2 x = x := gdm rfl
theorem zr17_0 : rd_R (mk σ w u) 17 2 0 = some 18 := rR rfl rfl
theorem zC17 : isC 17 40 := ⟨rfl, rfl, by decide⟩
theorem zt17 (h : i < 40) : f_X2_at 17 (nI i) (mk σ w u) = some (σ 18 i, mk σ w u) := C_at zC17 h
theorem zs17 (h : i < 40) : f_X2_set 17 (nI i) v (mk σ w u) = some (mk (s2 σ 18 i v) w u) := C_set zC17 h
theorem zg19 : gd (mk σ w u) 19 2 x = x := gdm rfl
theorem zr19_0 : rd_R (mk σ w u) 19 2 0 = some 20 := rR rfl rfl
theorem zC19 : isC 19 40 := ⟨rfl, rfl, by decide⟩
theorem zt19 (h : i < 40) : f_X2_at 19 (nI i) (mk σ w u) = some (σ 20 i, mk σ w u) := C_at zC19 h
theorem zs19 (h : i < 40) : f_X2_set 19 (nI i) v (mk σ w u) = some (mk (s2 σ 20 i v) w u) := C_set zC19 h
theorem zg21 : gd (mk σ w u) 21 2 x = x := gdm rfl
theorem zr21_0 : rd_R (mk σ w u) 21 2 0 = some 22 := rR rfl rfl
theorem zC21 : isC 21 40 := ⟨rfl, rfl, by decide⟩
theorem zt21 (h : i < 40) : f_X2_at 21 (nI i) (mk σ w u) = some (σ 22 i, mk σ w u) := C_at zC21 h
theorem zs21 (h : i < 40) : f_X2_set 21 (nI i) v (mk σ w u) = some (mk (s2 σ 22 i v) w u) := C_set zC21 h
theorem zg23 : gd (mk σ w u) 23 2 x = x := gdm rfl
theorem zr23_0 : rd_R (mk σ w u) 23 2 0 = some 24 := rR rfl rfl
theorem zC23 : isC 23 320 := ⟨rfl, rfl, by decide⟩
theorem zt23 (h : i < 320) : f_X2_at 23 (nI i) (mk σ w u) = some (σ 24 i, mk σ w u) := C_at zC23 h
theorem zs23 (h : i < 320) : f_X2_set 23 (nI i) v (mk σ w u) = some (mk (s2 σ 24 i v) w u) := C_set zC23 h
theorem zg25 : gd (mk σ w u) 25 7 x = x := gdm rfl
theorem zr25_0 : rd_R (mk σ w u) 25 7 0 = some 26 := rR rfl rfl
theorem zr25_1 : rd_R (mk σ w u) 25 7 1 = some 28 := rR rfl rfl
theorem zr25_2 : rd_R (mk σ w u) 25 7 2 = some 30 := rR rfl rfl
theorem zr25_3 : rd_R (mk σ w u) 25 7 3 = some 32 := rR rfl rfl
theorem zi25_4 : rd_I (mk σ w u) 25 7 4 = some (σ 25 4) := rI rfl rfl
theorem zw25_4 : wr_I (mk σ w u) 25 7 4 v = some (mk (s2 σ 25 4 v) w u) := wI rfl rfl
theorem zg26 : gd (mk σ w u) 26 2 x = x := gdm rfl
theorem zr26_0 : rd_R (mk σ w u) 26 2 0 = some 27 := rR rfl rfl
theorem zC26 : isC 26 8 := ⟨rfl, rfl, by decide⟩
theorem zt26 (h : i < 8) : f_X2_at 26 (nI i) (mk σ w u) = some (σ 27 i, mk σ w u) := C_at zC26 h
theorem zs26 (h : i < 8) : f_X2_set 26 (nI i) v (mk σ w u) = some (mk (s2 σ 27 i v) w u) := C_set zC26 h
theorem zg28 : gd (mk σ w u) 28 2 x = x := gdm rfl
theorem zr28_0 : rd_R (mk σ w u) 28 2 0 = some 29 := rR rfl rfl
theorem zC28 : isC 28 8 := ⟨rfl, rfl, by decide⟩
theorem zt28 (h : i < 8) : f_X2_at 28 (nI i) (mk σ w u) = some (σ 29 i, mk σ w u) := C_at zC28 h
theorem zs28 (h : i < 8) : f_X2_set 28 (nI i) v (mk σ w u) = some (mk (s2 σ 29 i v) w u) := C_set zC28 h
theorem zg30 : gd (mk σ w u) 30 2 x = x := gdm rfl
theorem zr30_0 : rd_R (mk σ w u) 30 2 0 = some 31 := rR rfl rfl
theorem zC30 : isC 30 8 := ⟨rfl, rfl, by decide⟩
theorem zt30 (h : i < 8) : f_X2_at 30 (nI i) (mk σ w u) = some (σ 31 i, mk σ w u) := C_at zC30 h
theorem zs30 (h : i < 8) : f_X2_set 30 (nI i) v (mk σ w u) = some (mk (s2 σ 31 i v) w u) := C_set zC30 h
theorem zg32 : gd (mk σ w u) 32 2 x = x := gdm rfl
theorem zr32_0 : rd_R (mk σ w u) 32 2 0 = some 33 := rR rfl rfl
theorem zC32 : isC 32 8 := ⟨rfl, rfl, by decide⟩
theorem zt32 (h : i < 8) : f_X2_at 32 (nI i) (mk σ w u) = some (σ 33 i, mk σ w u) := C_at zC32 h
theorem zs32 (h : i < 8) : f_X2_set 32 (nI i) v (mk σ w u) = some (mk (s2 σ 33 i v) w u) := C_set zC32 h
theorem zg34 : gd (mk σ w u) 34 3 x = x := gdm rfl
theorem zr34_0 : rd_R (mk σ w u) 34 3 0 = some 5 := rR rfl rfl
theorem zi34_1 : rd_I (mk σ w u) 34 3 1 = some (σ 34 1) := rI rfl rfl
theorem zw34_1 : wr_I (mk σ w u) 34 3 1 v = some (mk (s2 σ 34 1 v) w u) := wI rfl rfl
theorem zr34_2 : rd_R (mk σ w u) 34 3 2 = some 35 := rR rfl rfl
theorem zr34_3 : rd_R (mk σ w u) 34 3 3 = some 37 := rR rfl rfl
theorem zr34_4 : rd_R (mk σ w u) 34 3 4 = some 39 := rR rfl rfl
theorem zr34_5 : rd_R (mk σ w u) 34 3 5 = some 41 := rR rfl rfl
theorem zg35 : gd (mk σ w u) 35 2 x = x := gdm rfl
theorem zr35_0 : rd_R (mk σ w u) 35 2 0 = some 36 := rR rfl rfl
theorem zC35 : isC 35 8 := ⟨rfl, rfl, by decide⟩
theorem zt35 (h : i < 8) : f_X2_at 35 (nI i) (mk σ w u) = some (σ 36 i, mk σ w u) := C_at zC35 h
theorem zs35 (h : i < 8) : f_X2_set 35 (nI i) v (mk σ w u) = some (mk (s2 σ 36 i v) w u) := C_set zC35 h
theorem zg37 : gd (mk σ w u) 37 2 x = x := gdm rfl
theorem zr37_0 : rd_R (mk σ w u) 37 2 0 = some 38 := rR rfl rfl
theorem zC37 : isC 37 8 := ⟨rfl, rfl, by decide⟩
theorem zt37 (h : i < 8) : f_X2_at 37 (nI i) (mk σ w u) = some (σ 38 i, mk σ w u) := C_at zC37 h
theorem zs37 (h : i < 8) : f_X2_set 37 (nI i) v (mk σ w u) = some (mk (s2 σ 38 i v) w u) := C_set zC37 h
theorem zg39 : gd (mk σ w u) 39 2 x = x := gdm rfl
theorem zr39_0 : rd_R (mk σ w u) 39 2 0 = some 40 := rR rfl rfl
theorem zC39 : isC 39 8 := ⟨rfl, rfl, by decide⟩
theorem zt39 (h : i < 8) : f_X2_at 39 (nI i) (mk σ w u) = some (σ 40 i, mk σ w u) := C_at zC39 h
theorem zs39 (h : i < 8) : f_X2_set 39 (nI i) v (mk σ w u) = some (mk (s2 σ 40 i v) w u) := C_set zC39 h
theorem zg41 : gd (mk σ w u) 41 2 x = x := gdm rfl
theorem zr41_0 : rd_R (mk σ w u) 41 2 0 = some 42 := rR rfl rfl
theorem zC41 : isC 41 8 := ⟨rfl, rfl, by decide⟩
theorem zt41 (h : i < 8) : f_X2_at 41 (nI i) (mk σ w u) = some (σ 42 i, mk σ w u) := C_at zC41 h
theorem zs41 (h : i < 8) : f_X2_set 41 (nI i) v (mk σ w u) = some (mk (s2 σ 42 i v) w u) := C_set zC41 h
theorem zg43 : gd (mk σ w u) 43 8 x = x := gdm rfl
theorem zr43_0 : rd_R (mk σ w u) 43 8 0 = some 62 := rR rfl rfl
theorem zr43_1 : rd_R (mk σ w u) 43 8 1 = some 44 := rR rfl rfl
theorem zr43_2 : rd_R (mk σ w u) 43 8 2 = some 53 := rR rfl rfl
theorem zg44 : gd (mk σ w u) 44 0 x = x := gdm rfl
theorem zr44_0 : rd_R (mk σ w u) 44 0 0 = some 45 := rR rfl rfl
theorem zr44_1 : rd_R (mk σ w u) 44 0 1 = some 47 := rR rfl rfl
theorem zr44_2 : rd_R (mk σ w u) 44 0 2 = some 49 := rR rfl rfl
theorem zr44_3 : rd_R (mk σ w u) 44 0 3 = some 51 := rR rfl rfl
theorem zi44_4 : rd_I (mk σ w u) 44 0 4 = some (σ 44 4) := rI rfl rfl
theorem zw44_4 : wr_I (mk σ w u) 44 0 4 v = some (mk (s2 σ 44 4 v) w u) := wI rfl rfl
theorem zg45 : gd (mk σ w u) 45 2 x = x := gdm rfl
theorem zr45_0 : rd_R (mk σ w u) 45 2 0 = some 46 := rR rfl rfl
theorem zC45 : isC 45 40 := ⟨rfl, rfl, by decide⟩
theorem zt45 (h : i < 40) : f_X2_at 45 (nI i) (mk σ w u) = some (σ 46 i, mk σ w u) := C_at zC45 h
theorem zs45 (h : i < 40) : f_X2_set 45 (nI i) v (mk σ w u) = some (mk (s2 σ 46 i v) w u) := C_set zC45 h
theorem zg47 : gd (mk σ w u) 47 2 x = x := gdm rfl
theorem zr47_0 : rd_R (mk σ w u) 47 2 0 = some 48 := rR rfl rfl
theorem zC47 : isC 47 40 := ⟨rfl, rfl, by decide⟩
theorem zt47 (h : i < 40) : f_X2_at 47 (nI i) (mk σ w u) = some (σ 48 i, mk σ w u) := C_at zC47 h
theorem zs47 (h : i < 40) : f_X2_set 47 (nI i) v (mk σ w u) = some (mk (s2 σ 48 i v) w u) := C_set zC47 h
theorem zg49 : gd (mk σ w u) 49 2 x = x := gdm rfl
theorem zr49_0 : rd_R (mk σ w u) 49 2 0 = some 50 := rR rfl rfl
theorem zC49 : isC 49 40 := ⟨rfl, rfl, by decide⟩
theorem zt49 (h : i < 40) : f_X2_at 49 (nI i) (mk σ w u) = some (σ 50 i, mk σ w u) := C_at zC49 h
theorem zs49 (h : i < 40) : f_X2_set 49 (nI i) v (mk σ w u) = some (mk (s2 σ 50 i v) w u) := C_set zC49 h
theorem zg51 : gd (mk σ w u) 51 2 x = x := gdm rfl
theorem zr51_0 : rd_R (mk σ w u) 51 2 0 = some 52 := rR rfl rfl
theorem zC51 : isC 51 320 := ⟨rfl, rfl, by decide⟩
theorem zt51 (h : i < 320) : f_X2_at 51 (nI i) (mk σ w u) = some (σ 52 i, mk σ w u) := C_at zC51 h
theorem zs51 (h : i < 320) : f_X2_set 51 (nI i) v (mk σ w u) = some (mk (s2 σ 52 i v) w u) := C_set zC51 h
theorem zg53 : gd (mk σ w u) 53 7 x = x := gdm rfl
theorem zr53_0 : rd_R (mk σ w u) 53 7 0 = some 54 := rR rfl rfl
theorem zr53_1 : rd_R (mk σ w u) 53 7 1 = some 56 := rR rfl rfl
theorem zr53_2 : rd_R (mk σ w u) 53 7 2 = some 58 := rR rfl rfl
theorem zr53_3 : rd_R (mk σ w u) 53 7 3 = some 60 := rR rfl rfl
theorem zi53_4 : rd_I (mk σ w u) 53 7 4 = some (σ 53 4) := rI rfl rfl
theorem zw53_4 : wr_I (mk σ w u) 53 7 4 v = some (mk (s2 σ 53 4 v) w u) := wI rfl rfl
theorem zg54 : gd (mk σ w u) 54 2 x = x := gdm rfl
theorem zr54_0 : rd_R (mk σ w u) 54 2 0 = some 55 := rR rfl rfl
theorem zC54 : isC 54 8 := ⟨rfl, rfl, by decide⟩
theorem zt54 (h : i < 8) : f_X2_at 54 (nI i) (mk σ w u) = some (σ 55 i, mk σ w u) := C_at zC54 h
theorem zs54 (h : i < 8) : f_X2_set 54 (nI i) v (mk σ w u) = some (mk (s2 σ 55 i v) w u) := C_set zC54 h
theorem zg56 : gd (mk σ w u) 56 2 x = x := gdm rfl
theorem zr56_0 : rd_R (mk σ w u) 56 2 0 = some 57 := rR rfl rfl
theorem zC56 : isC 56 8 := ⟨rfl, rfl, by decide⟩
theorem zt56 (h : i < 8) : f_X2_at 56 (nI i) (mk σ w u) = some (σ 57 i, mk σ w u) := C_at zC56 h
theorem zs56 (h : i < 8) : f_X2_set 56 (nI i) v (mk σ w u) = some (mk (s2 σ 57 i v) w u) := C_set zC56 h
theorem zg58 : gd (mk σ w u) 58 2 x = x := gdm rfl
theorem zr58_0 : rd_R (mk σ w u) 58 2 0 = some 59 := rR rfl rfl
theorem zC58 : isC 58 8 := ⟨rfl, rfl, by decide⟩
theorem zt58 (h : i < 8) : f_X2_at 58 (nI i) (mk σ w u) = some (σ 59 i, mk σ w u) := C_at zC58 h
theorem zs58 (h : i < 8) : f_X2_set 58 (nI i) v (mk σ w u) = some (mk (s2 σ 59 i v) w u) := C_set zC58 h
theorem zg60 : gd (mk σ w u) 60 2 x = x := gdm rfl
theorem zr60_0 : rd_R (mk σ w u) 60 2 0 = some 61 := rR rfl rfl
theorem zC60 : isC 60 8 := ⟨rfl, rfl, by decide⟩
theorem zt60 (h : i < 8) : f_X2_at 60 (nI i) (mk σ w u) = some (σ 61 i, mk σ w u) := C_at zC60 h
theorem zs60 (h : i < 8) : f_X2_set 60 (nI i) v (mk σ w u) = some (mk (s2 σ 61 i v) w u) := C_set zC60 h
theorem zg62 : gd (mk σ w u) 62 3 x = x := gdm rfl
theorem zr62_0 : rd_R (mk σ w u) 62 3 0 = some 5 := rR rfl rfl
theorem zi62_1 : rd_I (mk σ w u) 62 3 1 = some (σ 62 1) := rI rfl rfl
theorem zw62_1 : wr_I (mk σ w u) 62 3 1 v = some (mk (s2 σ 62 1 v) w u) := wI rfl rfl
theorem zr62_2 : rd_R (mk σ w u) 62 3 2 = some 63 := rR rfl rfl
theorem zr62_3 : rd_R (mk σ w u) 62 3 3 = some 65 := rR rfl rfl
theorem zr62_4 : rd_R (mk σ w u) 62 3 4 = some 67 := rR rfl rfl
theorem zr62_5 : rd_R (mk σ w u) 62 3 5 = some 69 := rR rfl rfl
theorem zg63 : gd (mk σ w u) 63 2 x = x := gdm rfl
theorem zr63_0 : rd_R (mk σ w u) 63 2 0 = some 64 := rR rfl rfl
theorem zC63 : isC 63 8 := ⟨rfl, rfl, by decide⟩
theorem zt63 (h : i < 8) : f_X2_at 63 (nI i) (mk σ w u) = some (σ 64 i, mk σ w u) := C_at zC63 h
theorem zs63 (h : i < 8) : f_X2_set 63 (nI i) v (mk σ w u) = some (mk (s2 σ 64 i v) w u) := C_set zC63 h
theorem zg65 : gd (mk σ w u) 65 2 x = x := gdm rfl
theorem zr65_0 : rd_R (mk σ w u) 65 2 0 = some 66 := rR rfl rfl
theorem zC65 : isC 65 8 := ⟨rfl, rfl, by decide⟩
theorem zt65 (h : i < 8) : f_X2_at 65 (nI i) (mk σ w u) = some (σ 66 i, mk σ w u) := C_at zC65 h
theorem zs65 (h : i < 8) : f_X2_set 65 (nI i) v (mk σ w u) = some (mk (s2 σ 66 i v) w u) := C_set zC65 h
theorem zg67 : gd (mk σ w u) 67 2 x = x := gdm rfl
theorem zr67_0 : rd_R (mk σ w u) 67 2 0 = some 68 := rR rfl rfl
theorem zC67 : isC 67 8 := ⟨rfl, rfl, by decide⟩
theorem zt67 (h : i < 8) : f_X2_at 67 (nI i) (mk σ w u) = some (σ 68 i, mk σ w u) := C_at zC67 h
theorem zs67 (h : i < 8) : f_X2_set 67 (nI i) v (mk σ w u) = some (mk (s2 σ 68 i v) w u) := C_set zC67 h
theorem zg69 : gd (mk σ w u) 69 2 x = x := gdm rfl
theorem zr69_0 : rd_R (mk σ w u) 69 2 0 = some 70 := rR rfl rfl
theorem zC69 : isC 69 8 := ⟨rfl, rfl, by decide⟩
theorem zt69 (h : i < 8) : f_X2_at 69 (nI i) (mk σ w u) = some (σ 70 i, mk σ w u) := C_at zC69 h
theorem zs69 (h : i < 8) : f_X2_set 69 (nI i) v (mk σ w u) = some (mk (s2 σ 70 i v) w u) := C_set zC69 h
theorem zg71 : gd (mk σ w u) 71 3 x = x := gdm rfl
theorem zr71_0 : rd_R (mk σ w u) 71 3 0 = some 5 := rR rfl rfl
theorem zi71_1 : rd_I (mk σ w u) 71 3 1 = some (σ 71 1) := rI rfl rfl
theorem zw71_1 : wr_I (mk σ w u) 71 3 1 v = some (mk (s2 σ 71 1 v) w u) := wI rfl rfl
theorem zr71_2 : rd_R (mk σ w u) 71 3 2 = some 72 := rR rfl rfl
theorem zr71_3 : rd_R (mk σ w u) 71 3 3 = some 74 := rR rfl rfl
theorem zr71_4 : rd_R (mk σ w u) 71 3 4 = some 76 := rR rfl rfl
theorem zr71_5 : rd_R (mk σ w u) 71 3 5 = some 78 := rR rfl rfl
theorem zg72 : gd (mk σ w u) 72 2 x = x := gdm rfl
theorem zr72_0 : rd_R (mk σ w u) 72 2 0 = some 73 := rR rfl rfl
theorem zC72 : isC 72 8 := ⟨rfl, rfl, by decide⟩
theorem zt72 (h : i < 8) : f_X2_at 72 (nI i) (mk σ w u) = some (σ 73 i, mk σ w u) := C_at zC72 h
theorem zs72 (h : i < 8) : f_X2_set 72 (nI i) v (mk σ w u) = some (mk (s2 σ 73 i v) w u) := C_set zC72 h
theorem zg74 : gd (mk σ w u) 74 2 x = x := gdm rfl
theorem zr74_0 : rd_R (mk σ w u) 74 2 0 = some 75 := rR rfl rfl
theorem zC74 : isC 74 8 := ⟨rfl, rfl, by decide⟩
theorem zt74 (h : i < 8) : f_X2_at 74 (nI i) (mk σ w u) = some (σ 75 i, mk σ w u) := C_at zC74 h
theorem zs74 (h : i < 8) : f_X2_set 74 (nI i) v (mk σ w u) = some (mk (s2 σ 75 i v) w u) := C_set zC74 h
theorem zg76 : gd (mk σ w u) 76 2 x = x := gdm rfl
theorem zr76_0 : rd_R (mk σ w u) 76 2 0 = some 77 := rR rfl rfl
theorem zC76 : isC 76 8 := ⟨rfl, rfl, by decide⟩
theorem zt76 (h : i < 8) : f_X2_at 76 (nI i) (mk σ w u) = some (σ 77 i, mk σ w u) := C_at zC76 h
theorem zs76 (h : i < 8) : f_X2_set 76 (nI i) v (mk σ w u) = some (mk (s2 σ 77 i v) w u) := C_set zC76 h
theorem zg78 : gd (mk σ w u) 78 2 x = x := gdm rfl
theorem zr78_0 : rd_R (mk σ w u) 78 2 0 = some 79 := rR rfl rfl
theorem zC78 : isC 78 8 := ⟨rfl, rfl, by decide⟩
theorem zt78 (h : i < 8) : f_X2_at 78 (nI i) (mk σ w u) = some (σ 79 i, mk σ w u) := C_at zC78 h
theorem zs78 (h : i < 8) : f_X2_set 78 (nI i) v (mk σ w u) = some (mk (s2 σ 79 i v) w u) := C_set zC78 h
theorem zg80 : gd (mk σ w u) 80 5 x = x := gdm rfl
theorem zr80_0 : rd_R (mk σ w u) 80 5 0 = some 81 := rR rfl rfl
theorem zr80_1 : rd_R (mk σ w u) 80 5 1 = some 91 := rR rfl rfl
theorem zi80_2 : rd_I (mk σ w u) 80 5 2 = some (σ 80 2) := rI rfl rfl
theorem zw80_2 : wr_I (mk σ w u) 80 5 2 v = some (mk (s2 σ 80 2 v) w u) := wI rfl rfl
theorem zi80_3 : rd_I (mk σ w u) 80 5 3 = some (σ 80 3) := rI rfl rfl
theorem zw80_3 : wr_I (mk σ w u) 80 5 3 v = some (mk (s2 σ 80 3 v) w u) := wI rfl rfl
theorem zr80_4 : rd_R (mk σ w u) 80 5 4 = some 1 := rR rfl rfl
theorem zi80_5 : rd_I (mk σ w u) 80 5 5 = some (σ 80 5) := rI rfl rfl
theorem zw80_5 : wr_I (mk σ w u) 80 5 5 v = some (mk (s2 σ 80 5 v) w u) := wI rfl rfl
theorem zi80_6 : rd_I (mk σ w u) 80 5 6 = some (σ 80 6) := rI rfl rfl
theorem zw80_6 : wr_I (mk σ w u) 80 5 6 v = some (mk (s2 σ 80 6 v) w u) := wI rfl rfl
theorem zi80_7 : rd_I (mk σ w u) 80 5 7 = some (σ 80 7) := rI rfl rfl
theorem zw80_7 : wr_I (mk σ w u) 80 5 7 v = some (mk (s2 σ 80 7 v) w u) := wI rfl rfl
theorem zi80_8 : rd_I (mk σ w u) 80 5 8 = some (σ 80 8) := rI rfl rfl
theorem zw80_8 : wr_I (mk σ w u) 80 5 8 v = some (mk (s2 σ 80 8 v) w u) := wI rfl rfl
theorem zi80_9 : rd_I (mk σ w u) 80 5 9 = some (σ 80 9) := rI rfl rfl
theorem zw80_9 : wr_I (mk σ w u) 80 5 9 v = some (mk (s2 σ 80 9 v) w u) := wI rfl rfl
theorem zi80_10 : rd_I (mk σ w u) 80 5 10 = some (σ 80 10) := rI rfl rfl
theorem zw80_10 : wr_I (mk σ w u) 80 5 10 v = some (mk (s2 σ 80 10 v) w u) := wI rfl rfl
theorem zi80_11 : rd_I (mk σ w u) 80 5 11 = some (σ 80 11) := rI rfl rfl
theorem zw80_11 : wr_I (mk σ w u) 80 5 11 v = some (mk (s2 σ 80 11 v) w u) := wI rfl rfl
theorem zg81 : gd (mk σ w u) 81 1 x = x := gdm rfl
theorem zi81_0 : rd_I (mk σ w u) 81 1 0 = some (σ 81 0) := rI rfl rfl
theorem zw81_0 : wr_I (mk σ w u) 81 1 0 v = some (mk (s2 σ 81 0 v) w u) := wI rfl rfl
theorem zi81_1 : rd_I (mk σ w u) 81 1 1 = some (σ 81 1) := rI rfl rfl
theorem zw81_1 : wr_I (mk σ w u) 81 1 1 v = some (mk (s2 σ 81 1 v) w u) := wI rfl rfl
theorem zi81_2 : rd_I (mk σ w u) 81 1 2 = some (σ 81 2) := rI rfl rfl
theorem zw81_2 : wr_I (mk σ w u) 81 1 2 v = some (mk (s2 σ 81 2 v) w u) := wI rfl rfl
theorem zi81_3 : rd_I (mk σ w u) 81 1 3 = some (σ 81 3) := rI rfl rfl
theorem zw81_3 : wr_I (mk σ w u) 81 1 3 v = some (mk (s2 σ 81 3 v) w u) := wI rfl rfl
theorem zi81_4 : rd_I (mk σ w u) 81 1 4 = some (σ 81 4) := rI rfl rfl
theorem zw81_4 : wr_I (mk σ w u) 81 1 4 v = some (mk (s2 σ 81 4 v) w u) := wI rfl rfl
theorem zr81_5 : rd_R (mk σ w u) 81 1 5 = some 82 := rR rfl rfl
theorem zr81_6 : rd_R (mk σ w u) 81 1 6 = some 84 := rR rfl rfl
theorem zg82 : gd (mk σ w u) 82 2 x = x := gdm rfl
theorem zr82_0 : rd_R (mk σ w u) 82 2 0 = some 83 := rR rfl rfl
theorem zC82 : isC 82 8 := ⟨rfl, rfl, by decide⟩
theorem zt82 (h : i < 8) : f_X2_at 82 (nI i) (mk σ w u) = some (σ 83 i, mk σ w u) := C_at zC82 h
theorem zs82 (h : i < 8) : f_X2_set 82 (nI i) v (mk σ w u) = some (mk (s2 σ 83 i v) w u) := C_set zC82 h
theorem zg84 : gd (mk σ w u) 84 6 x = x := gdm rfl
theorem zr84_0 : rd_R (mk σ w u) 84 6 0 = some 85 := rR rfl rfl
theorem zr84_1 : rd_R (mk σ w u) 84 6 1 = some 87 := rR rfl rfl
theorem zr84_2 : rd_R (mk σ w u) 84 6 2 = some 89 := rR rfl rfl
theorem zi84_3 : rd_I (mk σ w u) 84 6 3 = some (σ 84 3) := rI rfl rfl
theorem zw84_3 : wr_I (mk σ w u) 84 6 3 v = some (mk (s2 σ 84 3 v) w u) := wI rfl rfl
theorem zg85 : gd (mk σ w u) 85 2 x = x := gdm rfl
theorem zr85_0 : rd_R (mk σ w u) 85 2 0 = some 86 := rR rfl rfl
theorem zC85 : isC 85 64 := ⟨rfl, rfl, by decide⟩
theorem zt85 (h : i < 64) : f_X2_at 85 (nI i) (mk σ w u) = some (σ 86 i, mk σ w u) := C_at zC85 h
theorem zs85 (h : i < 64) : f_X2_set 85 (nI i) v (mk σ w u) = some (mk (s2 σ 86 i v) w u) := C_set zC85 h
theorem zg87 : gd (mk σ w u) 87 2 x = x := gdm rfl
theorem zr87_0 : rd_R (mk σ w u) 87 2 0 = some 88 := rR rfl rfl
theorem zC87 : isC 87 700 := ⟨rfl, rfl, by decide⟩
theorem zt87 (h : i < 700) : f_X2_at 87 (nI i) (mk σ w u) = some (σ 88 i, mk σ w u) := C_at zC87 h
theorem zs87 (h : i < 700) : f_X2_set 87 (nI i) v (mk σ w u) = some (mk (s2 σ 88 i v) w u) := C_set zC87 h
theorem zg89 : gd (mk σ w u) 89 2 x = x := gdm rfl
theorem zr89_0 : rd_R (mk σ w u) 89 2 0 = some 90 := rR rfl rfl
theorem zC89 : isC 89 6 := ⟨rfl, rfl, by decide⟩
theorem zt89 (h : i < 6) : f_X2_at 89 (nI i) (mk σ w u) = some (σ 90 i, mk σ w u) := C_at zC89 h
theorem zs89 (h : i < 6) : f_X2_set 89 (nI i) v (mk σ w u) = some (mk (s2 σ 90 i v) w u) := C_set zC89 h
theorem zg91 : gd (mk σ w u) 91 3 x = x := gdm rfl
theorem zr91_0 : rd_R (mk σ w u) 91 3 0 = some 81 := rR rfl rfl
theorem zi91_1 : rd_I (mk σ w u) 91 3 1 = some (σ 91 1) := rI rfl rfl
theorem zw91_1 : wr_I (mk σ w u) 91 3 1 v = some (mk (s2 σ 91 1 v) w u) := wI rfl rfl
theorem zr91_2 : rd_R (mk σ w u) 91 3 2 = some 92 := rR rfl rfl
theorem zr91_3 : rd_R (mk σ w u) 91 3 3 = some 94 := rR rfl rfl
theorem zr91_4 : rd_R (mk σ w u) 91 3 4 = some 96 := rR rfl rfl
theorem zr91_5 : rd_R (mk σ w u) 91 3 5 = some 98 := rR rfl rfl
theorem zg92 : gd (mk σ w u) 92 2 x = x := gdm rfl
theorem zr92_0 : rd_R (mk σ w u) 92 2 0 = some 93 := rR rfl rfl
theorem zC92 : isC 92 8 := ⟨rfl, rfl, by decide⟩
theorem zt92 (h : i < 8) : f_X2_at 92 (nI i) (mk σ w u) = some (σ 93 i, mk σ w u) := C_at zC92 h
theorem zs92 (h : i < 8) : f_X2_set 92 (nI i) v (mk σ w u) = some (mk (s2 σ 93 i v) w u) := C_set zC92 h
theorem zg94 : gd (mk σ w u) 94 2 x = x := gdm rfl
theorem zr94_0 : rd_R (mk σ w u) 94 2 0 = some 95 := rR rfl rfl
theorem zC94 : isC 94 8 := ⟨rfl, rfl, by decide⟩
theorem zt94 (h : i < 8) : f_X2_at 94 (nI i) (mk σ w u) = some (σ 95 i, mk σ w u) := C_at zC94 h
theorem zs94 (h : i < 8) : f_X2_set 94 (nI i) v (mk σ w u) = some (mk (s2 σ 95 i v) w u) := C_set zC94 h
theorem zg96 : gd (mk σ w u) 96 2 x = x := gdm rfl
theorem zr96_0 : rd_R (mk σ w u) 96 2 0 = some 97 := rR rfl rfl
theorem zC96 : isC 96 8 := ⟨rfl, rfl, by decide⟩
theorem zt96 (h : i < 8) : f_X2_at 96 (nI i) (mk σ w u) = some (σ 97 i, mk σ w u) := C_at zC96 h
theorem zs96 (h : i < 8) : f_X2_set 96 (nI i) v (mk σ w u) = some (mk (s2 σ 97 i v) w u) := C_set zC96 h
theorem zg98 : gd (mk σ w u) 98 2 x = x := gdm rfl
theorem zr98_0 : rd_R (mk σ w u) 98 2 0 = some 99 := rR rfl rfl
theorem zC98 : isC 98 8 := ⟨rfl, rfl, by decide⟩
theorem zt98 (h : i < 8) : f_X2_at 98 (nI i) (mk σ w u) = some (σ 99 i, mk σ w u) := C_at zC98 h
theorem zs98 (h : i < 8) : f_X2_set 98 (nI i) v (mk σ w u) = some (mk (s2 σ 99 i v) w u) := C_set zC98 h
theorem zg100 : gd (mk σ w u) 100 9 x = x := gdm rfl
theorem zr100_0 : rd_R (mk σ w u) 100 9 0 = some 101 := rR rfl rfl
theorem zr100_1 : rd_R (mk σ w u) 100 9 1 = some 103 := rR rfl rfl
theorem zr100_2 : rd_R (mk σ w u) 100 9 2 = some 105 := rR rfl rfl
theorem zi100_3 : rd_I (mk σ w u) 100 9 3 = some (σ 100 3) := rI rfl rfl
theorem zw100_3 : wr_I (mk σ w u) 100 9 3 v = some (mk (s2 σ 100 3 v) w u) := wI rfl rfl
theorem zg101 : gd (mk σ w u) 101 2 x = x := gdm rfl
theorem zr101_0 : rd_R (mk σ w u) 101 2 0 = some 102 := rR rfl rfl
theorem zC101 : isC 101 96 := ⟨rfl, rfl, by decide⟩
theorem zt101 (h : i < 96) : f_X2_at 101 (nI i) (mk σ w u) = some (σ 102 i, mk σ w u) := C_at zC101 h
theorem zs101 (h : i < 96) : f_X2_set 101 (nI i) v (mk σ w u) = some (mk (s2 σ 102 i v) w u) := C_set zC101 h
theorem zg103 : gd (mk σ w u) 103 2 x = x := gdm rfl
theorem zr103_0 : rd_R (mk σ w u) 103 2 0 = some 104 := rR rfl rfl
theorem zC103 : isC 103 96 := ⟨rfl, rfl, by decide⟩
theorem zt103 (h : i < 96) : f_X2_at 103 (nI i) (mk σ w u) = some (σ 104 i, mk σ w u) := C_at zC103 h
theorem zs103 (h : i < 96) : f_X2_set 103 (nI i) v (mk σ w u) = some (mk (s2 σ 104 i v) w u) := C_set zC103 h
theorem zg105 : gd (mk σ w u) 105 2 x = x := gdm rfl
theorem zr105_0 : rd_R (mk σ w u) 105 2 0 = some 106 := rR rfl rfl
theorem zC105 : isC 105 96 := ⟨rfl, rfl, by decide⟩
theorem zt105 (h : i < 96) : f_X2_at 105 (nI i) (mk σ w u) = some (σ 106 i, mk σ w u) := C_at zC105 h
theorem zs105 (h : i < 96) : f_X2_set 105 (nI i) v (mk σ w u) = some (mk (s2 σ 106 i v) w u) := C_set zC105 h
theorem zg107 : gd (mk σ w u) 107 4 x = x := gdm rfl
theorem zr107_0 : rd_R (mk σ w u) 107 4 0 = some 108 := rR rfl rfl
theorem zr107_1 : rd_R (mk σ w u) 107 4 1 = some 110 := rR rfl rfl
theorem zr107_2 : rd_R (mk σ w u) 107 4 2 = some 112 := rR rfl rfl
theorem zi107_3 : rd_I (mk σ w u) 107 4 3 = some (σ 107 3) := rI rfl rfl
theorem zw107_3 : wr_I (mk σ w u) 107 4 3 v = some (mk (s2 σ 107 3 v) w u) := wI rfl rfl
theorem zg108 : gd (mk σ w u) 108 2 x = x := gdm rfl
theorem zr108_0 : rd_R (mk σ w u) 108 2 0 = some 109 := rR rfl rfl
theorem zC108 : isC 108 384 := ⟨rfl, rfl, by decide⟩
theorem zt108 (h : i < 384) : f_X2_at 108 (nI i) (mk σ w u) = some (σ 109 i, mk σ w u) := C_at zC108 h
theorem zs108 (h : i < 384) : f_X2_set 108 (nI i) v (mk σ w u) = some (mk (s2 σ 109 i v) w u) := C_set zC108 h
theorem zg110 : gd (mk σ w u) 110 2 x = x := gdm rfl
theorem zr110_0 : rd_R (mk σ w u) 110 2 0 = some 111 := rR rfl rfl
theorem zC110 : isC 110 6 := ⟨rfl, rfl, by decide⟩
theorem zt110 (h : i < 6) : f_X2_at 110 (nI i) (mk σ w u) = some (σ 111 i, mk σ w u) := C_at zC110 h
theorem zs110 (h : i < 6) : f_X2_set 110 (nI i) v (mk σ w u) = some (mk (s2 σ 111 i v) w u) := C_set zC110 h
theorem zg112 : gd (mk σ w u) 112 2 x = x := gdm rfl
theorem zr112_0 : rd_R (mk σ w u) 112 2 0 = some 113 := rR rfl rfl
theorem zC112 : isC 112 6 := ⟨rfl, rfl, by decide⟩
theorem zt112 (h : i < 6) : f_X2_at 112 (nI i) (mk σ w u) = some (σ 113 i, mk σ w u) := C_at zC112 h
theorem zs112 (h : i < 6) : f_X2_set 112 (nI i) v (mk σ w u) = some (mk (s2 σ 113 i v) w u) := C_set zC112 h
theorem zg114 : gd (mk σ w u) 114 2 x = x := gdm rfl
theorem zr114_0 : rd_R (mk σ w u) 114 2 0 = some 115 := rR rfl rfl
theorem zC114 : isC 114 8 := ⟨rfl, rfl, by decide⟩
theorem zt114 (h : i < 8) : f_X2_at 114 (nI i) (mk σ w u) = some (σ 115 i, mk σ w u) := C_at zC114 h
theorem zs114 (h : i < 8) : f_X2_set 114 (nI i) v (mk σ w u) = some (mk (s2 σ 115 i v) w u) := C_set zC114 h
theorem zg116 : gd (mk σ w u) 116 2 x = x := gdm rfl
theorem zr116_0 : rd_R (mk σ w u) 116 2 0 = some 117 := rR rfl rfl
theorem zC116 : isC 116 48 := ⟨rfl, rfl, by decide⟩
theorem zt116 (h : i < 48) : f_X2_at 116 (nI i) (mk σ w u) = some (σ 117 i, mk σ w u) := C_at zC116 h
theorem zs116 (h : i < 48) : f_X2_set 116 (nI i) v (mk σ w u) = some (mk (s2 σ 117 i v) w u) := C_set zC116 h
theorem zg118 : gd (mk σ w u) 118 11 x = x := gdm rfl
theorem zi118_0 : rd_I (mk σ w u) 118 11 0 = some (σ 118 0) := rI rfl rfl
theorem zw118_0 : wr_I (mk σ w u) 118 11 0 v = some (mk (s2 σ 118 0 v) w u) := wI rfl rfl
theorem zi118_1 : rd_I (mk σ w u) 118 11 1 = some (σ 118 1) := rI rfl rfl
theorem zw118_1 : wr_I (mk σ w u) 118 11 1 v = some (mk (s2 σ 118 1 v) w u) := wI rfl rfl
theorem zi118_2 : rd_I (mk σ w u) 118 11 2 = some (σ 118 2) := rI rfl rfl
theorem zw118_2 : wr_I (mk σ w u) 118 11 2 v = some (mk (s2 σ 118 2 v) w u) := wI rfl rfl
theorem zi118_3 : rd_I (mk σ w u) 118 11 3 = some (σ 118 3) := rI rfl rfl
theorem zw118_3 : wr_I (mk σ w u) 118 11 3 v = some (mk (s2 σ 118 3 v) w u) := wI rfl rfl
theorem zi118_4 : rd_I (mk σ w u) 118 11 4 = some (σ 118 4) := rI rfl rfl
theorem zw118_4 : wr_I (mk σ w u) 118 11 4 v = some (mk (s2 σ 118 4 v) w u) := wI rfl rfl
theorem zi118_5 : rd_I (mk σ w u) 118 11 5 = some (σ 118 5) := rI rfl rfl
theorem zw118_5 : wr_I (mk σ w u) 118 11 5 v = some (mk (s2 σ 118 5 v) w u) := wI rfl rfl
theorem zi118_6 : rd_I (mk σ w u) 118 11 6 = some (σ 118 6) := rI rfl rfl
theorem zw118_6 : wr_I (mk σ w u) 118 11 6 v = some (mk (s2 σ 118 6 v) w u) := wI rfl rfl
theorem zr118_7 : rd_R (mk σ w u) 118 11 7 = some 119 := rR rfl rfl
theorem zr118_8 : rd_R (mk σ w u) 118 11 8 = some 120 := rR rfl rfl
theorem zr118_9 : rd_R (mk σ w u) 118 11 9 = some 121 := rR rfl rfl
theorem zi118_10 : rd_I (mk σ w u) 118 11 10 = some (σ 118 10) := rI rfl rfl
theorem zw118_10 : wr_I (mk σ w u) 118 11 10 v = some (mk (s2 σ 118 10 v) w u) := wI rfl rfl
theorem zi118_11 : rd_I (mk σ w u) 118 11 11 = some (σ 118 11) := rI rfl rfl
theorem zw118_11 : wr_I (mk σ w u) 118 11 11 v = some (mk (s2 σ 118 11 v) w u) := wI rfl rfl
theorem zi118_12 : rd_I (mk σ w u) 118 11 12 = some (σ 118 12) := rI rfl rfl
theorem zw118_12 : wr_I (mk σ w u) 118 11 12 v = some (mk (s2 σ 118 12 v) w u) := wI rfl rfl
theorem zr118_13 : rd_R (mk σ w u) 118 11 13 = some 122 := rR rfl rfl
theorem zi118_14 : rd_I (mk σ w u) 118 11 14 = some (σ 118 14) := rI rfl rfl
theorem zw118_14 : wr_I (mk σ w u) 118 11 14 v = some (mk (s2 σ 118 14 v) w u) := wI rfl rfl
theorem zi118_15 : rd_I (mk σ w u) 118 11 15 = some (σ 118 15) := rI rfl rfl
theorem zw118_15 : wr_I (mk σ w u) 118 11 15 v = some (mk (s2 σ 118 15 v) w u) := wI rfl rfl
theorem zi118_16 : rd_I (mk σ w u) 118 11 16 = some (σ 118 16) := rI rfl rfl
theorem zw118_16 : wr_I (mk σ w u) 118 11 16 v = some (mk (s2 σ 118 16 v) w u) := wI rfl rfl
theorem zi118_17 : rd_I (mk σ w u) 118 11 17 = some (σ 118 17) := rI rfl rfl
theorem zw118_17 : wr_I (mk σ w u) 118 11 17 v = some (mk (s2 σ 118 17 v) w u) := wI rfl rfl
theorem zi118_18 : rd_I (mk σ w u) 118 11 18 = some (σ 118 18) := rI rfl rfl
theorem zw118_18 : wr_I (mk σ w u) 118 11 18 v = some (mk (s2 σ 118 18 v) w u) := wI rfl rfl
theorem zi118_19 : rd_I (mk σ w u) 118 11 19 = some (σ 118 19) := rI rfl rfl
theorem zw118_19 : wr_I (mk σ w u) 118 11 19 v = some (mk (s2 σ 118 19 v) w u) := wI rfl rfl
theorem zi118_20 : rd_I (mk σ w u) 118 11 20 = some (σ 118 20) := rI rfl rfl
theorem zw118_20 : wr_I (mk σ w u) 118 11 20 v = some (mk (s2 σ 118 20 v) w u) := wI rfl rfl
theorem zi118_21 : rd_J (mk σ w u) 118 11 21 = some w := rJ rfl rfl
theorem zi118_22 : rd_I (mk σ w u) 118 11 22 = some (σ 118 22) := rI rfl rfl
theorem zw118_22 : wr_I (mk σ w u) 118 11 22 v = some (mk (s2 σ 118 22 v) w u) := wI rfl rfl
theorem zi118_23 : rd_I (mk σ w u) 118 11 23 = some (σ 118 23) := rI rfl rfl
theorem zw118_23 : wr_I (mk σ w u) 118 11 23 v = some (mk (s2 σ 118 23 v) w u) := wI rfl rfl
theorem zi118_24 : rd_I (mk σ w u) 118 11 24 = some (σ 118 24) := rI rfl rfl
theorem zw118_24 : wr_I (mk σ w u) 118 11 24 v = some (mk (s2 σ 118 24 v) w u) := wI rfl rfl
theorem zi118_25 : rd_I (mk σ w u) 118 11 25 = some (σ 118 25) := rI rfl rfl
theorem zw118_25 : wr_I (mk σ w u) 118 11 25 v = some (mk (s2 σ 118 25 v) w u) := wI rfl rfl
theorem zi118_26 : rd_I (mk σ w u) 118 11 26 = some (σ 118 26) := rI rfl rfl
theorem zw118_26 : wr_I (mk σ w u) 118 11 26 v = some (mk (s2 σ 118 26 v) w u) := wI rfl rfl
theorem zi118_27 : rd_I (mk σ w u) 118 11 27 = some (σ 118 27) := rI rfl rfl
theorem zw118_27 : wr_I (mk σ w u) 118 11 27 v = some (mk (s2 σ 118 27 v) w u) := wI rfl rfl
theorem zi118_28 : rd_I (mk σ w u) 118 11 28 = some (σ 118 28) := rI rfl rfl
theorem zw118_28 : wr_I (mk σ w u) 118 11 28 v = some (mk (s2 σ 118 28 v) w u) := wI rfl rfl
theorem zi118_29 : rd_I (mk σ w u) 118 11 29 = some (σ 118 29) := rI rfl rfl
theorem zw118_29 : wr_I (mk σ w u) 118 11 29 v = some (mk (s2 σ 118 29 v) w u) := wI rfl rfl
theorem zi118_30 : rd_I (mk σ w u) 118 11 30 = some (σ 118 30) := rI rfl rfl
theorem zw118_30 : wr_I (mk σ w u) 118 11 30 v = some (mk (s2 σ 118 30 v) w u) := wI rfl rfl
theorem zr118_31 : rd_R (mk σ w u) 118 11 31 = some 123 := rR rfl rfl
theorem zr118_32 : rd_R (mk σ w u) 118 11 32 = some 124 := rR rfl rfl
theorem zr118_33 : rd_R (mk σ w u) 118 11 33 = some 125 := rR rfl rfl
theorem zr118_34 : rd_R (mk σ w u) 118 11 34 = some 126 := rR rfl rfl
theorem zr118_35 : rd_R (mk σ w u) 118 11 35 = some 127 := rR rfl rfl
theorem zr118_36 : rd_R (mk σ w u) 118 11 36 = some 128 := rR rfl rfl
theorem zr118_37 : rd_R (mk σ w u) 118 11 37 = some 129 := rR rfl rfl
theorem zi118_38 : rd_I (mk σ w u) 118 11 38 = some (σ 118 38) := rI rfl rfl
theorem zw118_38 : wr_I (mk σ w u) 118 11 38 v = some (mk (s2 σ 118 38 v) w u) := wI rfl rfl
theorem zr118_39 : rd_R (mk σ w u) 118 11 39 = some 130 := rR rfl rfl
theorem zr118_40 : rd_R (mk σ w u) 118 11 40 = some 131 := rR rfl rfl
theorem zi118_41 : rd_I (mk σ w u) 118 11 41 = some (σ 118 41) := rI rfl rfl
theorem zw118_41 : wr_I (mk σ w u) 118 11 41 v = some (mk (s2 σ 118 41 v) w u) := wI rfl rfl
theorem zi118_42 : rd_I (mk σ w u) 118 11 42 = some (σ 118 42) := rI rfl rfl
theorem zw118_42 : wr_I (mk σ w u) 118 11 42 v = some (mk (s2 σ 118 42 v) w u) := wI rfl rfl
theorem zi118_43 : rd_I (mk σ w u) 118 11 43 = some (σ 118 43) := rI rfl rfl
theorem zw118_43 : wr_I (mk σ w u) 118 11 43 v = some (mk (s2 σ 118 43 v) w u) := wI rfl rfl
theorem zr118_44 : rd_R (mk σ w u) 118 11 44 = some 132 := rR rfl rfl
theorem zi118_45 : rd_I (mk σ w u) 118 11 45 = some (σ 118 45) := rI rfl rfl
theorem zw118_45 : wr_I (mk σ w u) 118 11 45 v = some (mk (s2 σ 118 45 v) w u) := wI rfl rfl
theorem zr118_46 : rd_R (mk σ w u) 118 11 46 = some 133 := rR rfl rfl
theorem zr118_47 : rd_R (mk σ w u) 118 11 47 = some 134 := rR rfl rfl
theorem zi118_48 : rd_I (mk σ w u) 118 11 48 = some (σ 118 48) := rI rfl rfl
theorem zw118_48 : wr_I (mk σ w u) 118 11 48 v = some (mk (s2 σ 118 48 v) w u) := wI rfl rfl
theorem zi118_49 : rd_I (mk σ w u) 118 11 49 = some (σ 118 49) := rI rfl rfl
theorem zw118_49 (h : v = 0 ∨ v = 1) : wr_Z (mk σ w u) 118 11 49 v = some (mk (s2 σ 118 49 v) w u) := wZ rfl rfl h
theorem zi118_50 : rd_I (mk σ w u) 118 11 50 = some (σ 118 50) := rI rfl rfl
theorem zw118_50 : wr_I (mk σ w u) 118 11 50 v = some (mk (s2 σ 118 50 v) w u) := wI rfl rfl
theorem zi118_51 : rd_I (mk σ w u) 118 11 51 = some (σ 118 51) := rI rfl rfl
theorem zw118_51 : wr_I (mk σ w u) 118 11 51 v = some (mk (s2 σ 118 51 v) w u) := wI rfl rfl
theorem zr118_52 : rd_R (mk σ w u) 118 11 52 = some 135 := rR rfl rfl
theorem zr118_53 : rd_R (mk σ w u) 118 11 53 = some 136 := rR rfl rfl
theorem zr118_54 : rd_R (mk σ w u) 118 11 54 = some 137 := rR rfl rfl
theorem za119 (h : i < 8) : rd_A (mk σ w u) 0 119 (nI i) = some (σ 119 i) := by
  rw [rA (t := 0) (n := 8) rfl (by decide) (nI_in h (by decide)), nI_clamp (by omega)]
theorem zb119 (h : i < 8) : wr_A (mk σ w u) 119 (nI i) v = some (mk (s2 σ 119 i v) w u) := by
  rw [wA (n := 8) rfl (nI_in h (by decide)), nI_clamp (by omega)]
theorem za120 (h : i < 1400) : rd_A (mk σ w u) 0 120 (nI i) = some (σ 120 i) := by
  rw [rA (t := 0) (n := 1400) rfl (by decide) (nI_in h (by decide)), nI_clamp (by omega)]
theorem zb120 (h : i < 1400) : wr_A (mk σ w u) 120 (nI i) v = some (mk (s2 σ 120 i v) w u) := by
  rw [wA (n := 1400) rfl (nI_in h (by decide)), nI_clamp (by omega)]
theorem za121 (h : i < 700) : rd_A (mk σ w u) 0 121 (nI i) = some (σ 121 i) := by
  rw [rA (t := 0) (n := 700) rfl (by decide) (nI_in h (by decide)), nI_clamp (by omega)]
theorem zb121 (h : i < 700) : wr_A (mk σ w u) 121 (nI i) v = some (mk (s2 σ 121 i v) w u) := by
  rw [wA (n := 700) rfl (nI_in h (by decide)), nI_clamp (by omega)]
theorem za122 (h : i < 3) : rd_A (mk σ w u) 0 122 (nI i) = some (σ 122 i) := by
  rw [rA (t := 0) (n := 3) rfl (by decide) (nI_in h (by decide)), nI_clamp (by omega)]
theorem zb122 (h : i < 3) : wr_A (mk σ w u) 122 (nI i) v = some (mk (s2 σ 122 i v) w u) := by
  rw [wA (n := 3) rfl (nI_in h (by decide)), nI_clamp (by omega)]
theorem za123 (h : i < 8) : rd_A (mk σ w u) 0 123 (nI i) = some (σ 123 i) := by
  rw [rA (t := 0) (n := 8) rfl (by decide) (nI_in h (by decide)), nI_clamp (by omega)]
theorem zb123 (h : i < 8) : wr_A (mk σ w u) 123 (nI i) v = some (mk (s2 σ 123 i v) w u) := by
  rw [wA (n := 8) rfl (nI_in h (by decide)), nI_clamp (by omega)]
theorem za124 (h : i < 33) : rd_A (mk σ w u) 0 124 (nI i) = some (σ 124 i) := by
  rw [rA (t := 0) (n := 33) rfl (by decide) (nI_in h (by decide)), nI_clamp (by omega)]
theorem zb124 (h : i < 33) : wr_A (mk σ w u) 124 (nI i) v = some (mk (s2 σ 124 i v) w u) := by
  rw [wA (n := 33) rfl (nI_in h (by decide)), nI_clamp (by omega)]
theorem za125 (h : i < 1400) : rd_A (mk σ w u) 0 125 (nI i) = some (σ 125 i) := by
  rw [rA (t := 0) (n := 1400) rfl (by decide) (nI_in h (by decide)), nI_clamp (by omega)]
theorem zb125 (h : i < 1400) : wr_A (mk σ w u) 125 (nI i) v = some (mk (s2 σ 125 i v) w u) := by
  rw [wA (n := 1400) rfl (nI_in h (by decide)), nI_clamp (by omega)]
theorem za126 (h : i < 950) : rd_A (mk σ w u) 0 126 (nI i) = some (σ 126 i) := by
  rw [rA (t := 0) (n := 950) rfl (by decide) (nI_in h (by decide)), nI_clamp (by omega)]
theorem zb126 (h : i < 950) : wr_A (mk σ w u) 126 (nI i) v = some (mk (s2 σ 126 i v) w u) := by
  rw [wA (n := 950) rfl (nI_in h (by decide)), nI_clamp (by omega)]
theorem za127 (h : i < 9) : rd_A (mk σ w u) 1 127 (nI i) = some (σ 127 i) := by
  rw [rA (t := 1) (n := 9) rfl (by decide) (nI_in h (by decide)), nI_clamp (by omega)]
theorem zb127 (h : i < 9) : wr_AZ (mk σ w u) 127 (nI i) v = some (mk (s2 σ 127 i (vp_nar .boolean v)) w u) := by
  rw [wAZ (n := 9) rfl (nI_in h (by decide)), nI_clamp (by omega)]
theorem za128 (h : i < 66) : rd_A (mk σ w u) 0 128 (nI i) = some (σ 128 i) := by
  rw [rA (t := 0) (n := 66) rfl (by decide) (nI_in h (by decide)), nI_clamp (by omega)]
theorem zb128 (h : i < 66) : wr_A (mk σ w u) 128 (nI i) v = some (mk (s2 σ 128 i v) w u) := by
  rw [wA (n := 66) rfl (nI_in h (by decide)), nI_clamp (by omega)]
theorem za129 (h : i < 1320) : rd_A (mk σ w u) 0 129 (nI i) = some (σ 129 i) := by
  rw [rA (t := 0) (n := 1320) rfl (by decide) (nI_in h (by decide)), nI_clamp (by omega)]
theorem zb129 (h : i < 1320) : wr_A (mk σ w u) 129 (nI i) v = some (mk (s2 σ 129 i v) w u) := by
  rw [wA (n := 1320) rfl (nI_in h (by decide)), nI_clamp (by omega)]
theorem za130 (h : i < 6) : rd_A (mk σ w u) 0 130 (nI i) = some (σ 130 i) := by
  rw [rA (t := 0) (n := 6) rfl (by decide) (nI_in h (by decide)), nI_clamp (by omega)]
theorem zb130 (h : i < 6) : wr_A (mk σ w u) 130 (nI i) v = some (mk (s2 σ 130 i v) w u) := by
  rw [wA (n := 6) rfl (nI_in h (by decide)), nI_clamp (by omega)]
theorem za131 (h : i < 950) : rd_A (mk σ w u) 0 131 (nI i) = some (σ 131 i) := by
  rw [rA (t := 0) (n := 950) rfl (by decide) (nI_in h (by decide)), nI_clamp (by omega)]
theorem zb131 (h : i < 950) : wr_A (mk σ w u) 131 (nI i) v = some (mk (s2 σ 131 i v) w u) := by
  rw [wA (n := 950) rfl (nI_in h (by decide)), nI_clamp (by omega)]
theorem za132 (h : i < 8) : rd_A (mk σ w u) 0 132 (nI i) = some (σ 132 i) := by
  rw [rA (t := 0) (n := 8) rfl (by decide) (nI_in h (by decide)), nI_clamp (by omega)]
theorem zb132 (h : i < 8) : wr_A (mk σ w u) 132 (nI i) v = some (mk (s2 σ 132 i v) w u) := by
  rw [wA (n := 8) rfl (nI_in h (by decide)), nI_clamp (by omega)]
theorem za133 (h : i < 32) : rd_A (mk σ w u) 0 133 (nI i) = some (σ 133 i) := by
  rw [rA (t := 0) (n := 32) rfl (by decide) (nI_in h (by decide)), nI_clamp (by omega)]
theorem zb133 (h : i < 32) : wr_A (mk σ w u) 133 (nI i) v = some (mk (s2 σ 133 i v) w u) := by
  rw [wA (n := 32) rfl (nI_in h (by decide)), nI_clamp (by omega)]
theorem za134 (h : i < 768) : rd_A (mk σ w u) 0 134 (nI i) = some (σ 134 i) := by
  rw [rA (t := 0) (n := 768) rfl (by decide) (nI_in h (by decide)), nI_clamp (by omega)]
theorem zb134 (h : i < 768) : wr_A (mk σ w u) 134 (nI i) v = some (mk (s2 σ 134 i v) w u) := by
  rw [wA (n := 768) rfl (nI_in h (by decide)), nI_clamp (by omega)]
theorem za135 (h : i < 33) : rd_A (mk σ w u) 0 135 (nI i) = some (σ 135 i) := by
  rw [rA (t := 0) (n := 33) rfl (by decide) (nI_in h (by decide)), nI_clamp (by omega)]
theorem zb135 (h : i < 33) : wr_A (mk σ w u) 135 (nI i) v = some (mk (s2 σ 135 i v) w u) := by
  rw [wA (n := 33) rfl (nI_in h (by decide)), nI_clamp (by omega)]
theorem za136 (h : i < 1320) : rd_A (mk σ w u) 0 136 (nI i) = some (σ 136 i) := by
  rw [rA (t := 0) (n := 1320) rfl (by decide) (nI_in h (by decide)), nI_clamp (by omega)]
theorem zb136 (h : i < 1320) : wr_A (mk σ w u) 136 (nI i) v = some (mk (s2 σ 136 i v) w u) := by
  rw [wA (n := 1320) rfl (nI_in h (by decide)), nI_clamp (by omega)]
theorem za137 (h : i < 32) : rd_A (mk σ w u) 0 137 (nI i) = some (σ 137 i) := by
  rw [rA (t := 0) (n := 32) rfl (by decide) (nI_in h (by decide)), nI_clamp (by omega)]
theorem zb137 (h : i < 32) : wr_A (mk σ w u) 137 (nI i) v = some (mk (s2 σ 137 i v) w u) := by
  rw [wA (n := 32) rfl (nI_in h (by decide)), nI_clamp (by omega)]
end AC
