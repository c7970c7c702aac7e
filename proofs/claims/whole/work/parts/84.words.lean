/-! L3: words -/
def Wd (k : UInt32) (l : List Nat) : Prop := ∀ h : hp_H, f_J0_length_8abf5 k h = some (nI l.length, h) ∧ ∀ i, i < l.length → f_J0_charAt_5068e k (nI i) h = some (nI (l.getD i 0), h)
theorem char_f {k v : UInt32} {L b x c : Int32} {h : hp_H} (g : ∀ y : Option (Int32 × hp_H), gs k y = y) (h0 : f_J0_isLatin1_aae02 k h = some (1, h)) (h1 : js_V k = some v) (h2 : js_L v = some L) (hx : ¬ x < 0) (hx2 : x < L) (h3 : js_B v x = some b) (hc : hp_i2c (b &&& 255) = c) (hc2 : hp_i2c c = c) : f_J0_charAt_5068e k x h = some (c, h) := by
  have e : f_J0_checkIndex_df160 x L h = some h := by
    unfold f_J0_checkIndex_df160
    rw [show f_J3_checkIndex_8e157 x L _ h = some (x, h) from by unfold f_J3_checkIndex_8e157; rw [if_neg hx, if_pos hx2], Option.bind_some]
  unfold f_J0_charAt_5068e
  rw [g, h0, Option.bind_some]
  dsimp only
  rw [if_neg (by decide), h1, Option.bind_some]
  unfold f_J1_charAt_3b067
  rw [h2, Option.bind_some, e, Option.bind_some, h3, Option.bind_some, hc, if_pos hc2, Option.bind_some]
  dsimp only
  rw [if_pos hc2]
theorem wd_man : Wd 2 [109, 97, 110] := by
  intro h
  refine ⟨len_f (L := 3) (fun x => rfl) rfl rfl rfl, fun i hi => ?_⟩
  have hi : i < 3 := hi
  have hh : i = 0 ∨ i = 1 ∨ i = 2 := by omega
  rcases hh with e | e | e
  · subst e; exact char_f (v := 27) (L := 3) (b := 109) (fun x => rfl) rfl rfl rfl (by decide) (by decide) rfl (by decide) (by decide)
  · subst e; exact char_f (v := 27) (L := 3) (b := 97) (fun x => rfl) rfl rfl rfl (by decide) (by decide) rfl (by decide) (by decide)
  · subst e; exact char_f (v := 27) (L := 3) (b := 110) (fun x => rfl) rfl rfl rfl (by decide) (by decide) rfl (by decide) (by decide)
theorem wd_row : Wd 3 [114, 111, 119] := by
  intro h
  refine ⟨len_f (L := 3) (fun x => rfl) rfl rfl rfl, fun i hi => ?_⟩
  have hi : i < 3 := hi
  have hh : i = 0 ∨ i = 1 ∨ i = 2 := by omega
  rcases hh with e | e | e
  · subst e; exact char_f (v := 28) (L := 3) (b := 114) (fun x => rfl) rfl rfl rfl (by decide) (by decide) rfl (by decide) (by decide)
  · subst e; exact char_f (v := 28) (L := 3) (b := 111) (fun x => rfl) rfl rfl rfl (by decide) (by decide) rfl (by decide) (by decide)
  · subst e; exact char_f (v := 28) (L := 3) (b := 119) (fun x => rfl) rfl rfl rfl (by decide) (by decide) rfl (by decide) (by decide)
theorem wd_beats : Wd 4 [98, 101, 97, 116, 115] := by
  intro h
  refine ⟨len_f (L := 5) (fun x => rfl) rfl rfl rfl, fun i hi => ?_⟩
  have hi : i < 5 := hi
  have hh : i = 0 ∨ i = 1 ∨ i = 2 ∨ i = 3 ∨ i = 4 := by omega
  rcases hh with e | e | e | e | e
  · subst e; exact char_f (v := 29) (L := 5) (b := 98) (fun x => rfl) rfl rfl rfl (by decide) (by decide) rfl (by decide) (by decide)
  · subst e; exact char_f (v := 29) (L := 5) (b := 101) (fun x => rfl) rfl rfl rfl (by decide) (by decide) rfl (by decide) (by decide)
  · subst e; exact char_f (v := 29) (L := 5) (b := 97) (fun x => rfl) rfl rfl rfl (by decide) (by decide) rfl (by decide) (by decide)
  · subst e; exact char_f (v := 29) (L := 5) (b := 116) (fun x => rfl) rfl rfl rfl (by decide) (by decide) rfl (by decide) (by decide)
  · subst e; exact char_f (v := 29) (L := 5) (b := 115) (fun x => rfl) rfl rfl rfl (by decide) (by decide) rfl (by decide) (by decide)
theorem wd_slack : Wd 5 [115, 108, 97, 99, 107] := by
  intro h
  refine ⟨len_f (L := 5) (fun x => rfl) rfl rfl rfl, fun i hi => ?_⟩
  have hi : i < 5 := hi
  have hh : i = 0 ∨ i = 1 ∨ i = 2 ∨ i = 3 ∨ i = 4 := by omega
  rcases hh with e | e | e | e | e
  · subst e; exact char_f (v := 30) (L := 5) (b := 115) (fun x => rfl) rfl rfl rfl (by decide) (by decide) rfl (by decide) (by decide)
  · subst e; exact char_f (v := 30) (L := 5) (b := 108) (fun x => rfl) rfl rfl rfl (by decide) (by decide) rfl (by decide) (by decide)
  · subst e; exact char_f (v := 30) (L := 5) (b := 97) (fun x => rfl) rfl rfl rfl (by decide) (by decide) rfl (by decide) (by decide)
  · subst e; exact char_f (v := 30) (L := 5) (b := 99) (fun x => rfl) rfl rfl rfl (by decide) (by decide) rfl (by decide) (by decide)
  · subst e; exact char_f (v := 30) (L := 5) (b := 107) (fun x => rfl) rfl rfl rfl (by decide) (by decide) rfl (by decide) (by decide)
theorem wd_mud : Wd 6 [109, 117, 100] := by
  intro h
  refine ⟨len_f (L := 3) (fun x => rfl) rfl rfl rfl, fun i hi => ?_⟩
  have hi : i < 3 := hi
  have hh : i = 0 ∨ i = 1 ∨ i = 2 := by omega
  rcases hh with e | e | e
  · subst e; exact char_f (v := 31) (L := 3) (b := 109) (fun x => rfl) rfl rfl rfl (by decide) (by decide) rfl (by decide) (by decide)
  · subst e; exact char_f (v := 31) (L := 3) (b := 117) (fun x => rfl) rfl rfl rfl (by decide) (by decide) rfl (by decide) (by decide)
  · subst e; exact char_f (v := 31) (L := 3) (b := 100) (fun x => rfl) rfl rfl rfl (by decide) (by decide) rfl (by decide) (by decide)
theorem wd_hears : Wd 7 [104, 101, 97, 114, 115] := by
  intro h
  refine ⟨len_f (L := 5) (fun x => rfl) rfl rfl rfl, fun i hi => ?_⟩
  have hi : i < 5 := hi
  have hh : i = 0 ∨ i = 1 ∨ i = 2 ∨ i = 3 ∨ i = 4 := by omega
  rcases hh with e | e | e | e | e
  · subst e; exact char_f (v := 32) (L := 5) (b := 104) (fun x => rfl) rfl rfl rfl (by decide) (by decide) rfl (by decide) (by decide)
  · subst e; exact char_f (v := 32) (L := 5) (b := 101) (fun x => rfl) rfl rfl rfl (by decide) (by decide) rfl (by decide) (by decide)
  · subst e; exact char_f (v := 32) (L := 5) (b := 97) (fun x => rfl) rfl rfl rfl (by decide) (by decide) rfl (by decide) (by decide)
  · subst e; exact char_f (v := 32) (L := 5) (b := 114) (fun x => rfl) rfl rfl rfl (by decide) (by decide) rfl (by decide) (by decide)
  · subst e; exact char_f (v := 32) (L := 5) (b := 115) (fun x => rfl) rfl rfl rfl (by decide) (by decide) rfl (by decide) (by decide)
theorem wd_not : Wd 8 [110, 111, 116] := by
  intro h
  refine ⟨len_f (L := 3) (fun x => rfl) rfl rfl rfl, fun i hi => ?_⟩
  have hi : i < 3 := hi
  have hh : i = 0 ∨ i = 1 ∨ i = 2 := by omega
  rcases hh with e | e | e
  · subst e; exact char_f (v := 33) (L := 3) (b := 110) (fun x => rfl) rfl rfl rfl (by decide) (by decide) rfl (by decide) (by decide)
  · subst e; exact char_f (v := 33) (L := 3) (b := 111) (fun x => rfl) rfl rfl rfl (by decide) (by decide) rfl (by decide) (by decide)
  · subst e; exact char_f (v := 33) (L := 3) (b := 116) (fun x => rfl) rfl rfl rfl (by decide) (by decide) rfl (by decide) (by decide)
theorem wd_sum : Wd 9 [115, 117, 109] := by
  intro h
  refine ⟨len_f (L := 3) (fun x => rfl) rfl rfl rfl, fun i hi => ?_⟩
  have hi : i < 3 := hi
  have hh : i = 0 ∨ i = 1 ∨ i = 2 := by omega
  rcases hh with e | e | e
  · subst e; exact char_f (v := 34) (L := 3) (b := 115) (fun x => rfl) rfl rfl rfl (by decide) (by decide) rfl (by decide) (by decide)
  · subst e; exact char_f (v := 34) (L := 3) (b := 117) (fun x => rfl) rfl rfl rfl (by decide) (by decide) rfl (by decide) (by decide)
  · subst e; exact char_f (v := 34) (L := 3) (b := 109) (fun x => rfl) rfl rfl rfl (by decide) (by decide) rfl (by decide) (by decide)
theorem wd_others : Wd 10 [111, 116, 104, 101, 114, 115] := by
  intro h
  refine ⟨len_f (L := 6) (fun x => rfl) rfl rfl rfl, fun i hi => ?_⟩
  have hi : i < 6 := hi
  have hh : i = 0 ∨ i = 1 ∨ i = 2 ∨ i = 3 ∨ i = 4 ∨ i = 5 := by omega
  rcases hh with e | e | e | e | e | e
  · subst e; exact char_f (v := 35) (L := 6) (b := 111) (fun x => rfl) rfl rfl rfl (by decide) (by decide) rfl (by decide) (by decide)
  · subst e; exact char_f (v := 35) (L := 6) (b := 116) (fun x => rfl) rfl rfl rfl (by decide) (by decide) rfl (by decide) (by decide)
  · subst e; exact char_f (v := 35) (L := 6) (b := 104) (fun x => rfl) rfl rfl rfl (by decide) (by decide) rfl (by decide) (by decide)
  · subst e; exact char_f (v := 35) (L := 6) (b := 101) (fun x => rfl) rfl rfl rfl (by decide) (by decide) rfl (by decide) (by decide)
  · subst e; exact char_f (v := 35) (L := 6) (b := 114) (fun x => rfl) rfl rfl rfl (by decide) (by decide) rfl (by decide) (by decide)
  · subst e; exact char_f (v := 35) (L := 6) (b := 115) (fun x => rfl) rfl rfl rfl (by decide) (by decide) rfl (by decide) (by decide)
theorem wd_beat : Wd 11 [98, 101, 97, 116] := by
  intro h
  refine ⟨len_f (L := 4) (fun x => rfl) rfl rfl rfl, fun i hi => ?_⟩
  have hi : i < 4 := hi
  have hh : i = 0 ∨ i = 1 ∨ i = 2 ∨ i = 3 := by omega
  rcases hh with e | e | e | e
  · subst e; exact char_f (v := 36) (L := 4) (b := 98) (fun x => rfl) rfl rfl rfl (by decide) (by decide) rfl (by decide) (by decide)
  · subst e; exact char_f (v := 36) (L := 4) (b := 101) (fun x => rfl) rfl rfl rfl (by decide) (by decide) rfl (by decide) (by decide)
  · subst e; exact char_f (v := 36) (L := 4) (b := 97) (fun x => rfl) rfl rfl rfl (by decide) (by decide) rfl (by decide) (by decide)
  · subst e; exact char_f (v := 36) (L := 4) (b := 116) (fun x => rfl) rfl rfl rfl (by decide) (by decide) rfl (by decide) (by decide)
theorem wd_many : Wd 12 [109, 97, 110, 121] := by
  intro h
  refine ⟨len_f (L := 4) (fun x => rfl) rfl rfl rfl, fun i hi => ?_⟩
  have hi : i < 4 := hi
  have hh : i = 0 ∨ i = 1 ∨ i = 2 ∨ i = 3 := by omega
  rcases hh with e | e | e | e
  · subst e; exact char_f (v := 37) (L := 4) (b := 109) (fun x => rfl) rfl rfl rfl (by decide) (by decide) rfl (by decide) (by decide)
  · subst e; exact char_f (v := 37) (L := 4) (b := 97) (fun x => rfl) rfl rfl rfl (by decide) (by decide) rfl (by decide) (by decide)
  · subst e; exact char_f (v := 37) (L := 4) (b := 110) (fun x => rfl) rfl rfl rfl (by decide) (by decide) rfl (by decide) (by decide)
  · subst e; exact char_f (v := 37) (L := 4) (b := 121) (fun x => rfl) rfl rfl rfl (by decide) (by decide) rfl (by decide) (by decide)
theorem wd_last : Wd 13 [108, 97, 115, 116] := by
  intro h
  refine ⟨len_f (L := 4) (fun x => rfl) rfl rfl rfl, fun i hi => ?_⟩
  have hi : i < 4 := hi
  have hh : i = 0 ∨ i = 1 ∨ i = 2 ∨ i = 3 := by omega
  rcases hh with e | e | e | e
  · subst e; exact char_f (v := 38) (L := 4) (b := 108) (fun x => rfl) rfl rfl rfl (by decide) (by decide) rfl (by decide) (by decide)
  · subst e; exact char_f (v := 38) (L := 4) (b := 97) (fun x => rfl) rfl rfl rfl (by decide) (by decide) rfl (by decide) (by decide)
  · subst e; exact char_f (v := 38) (L := 4) (b := 115) (fun x => rfl) rfl rfl rfl (by decide) (by decide) rfl (by decide) (by decide)
  · subst e; exact char_f (v := 38) (L := 4) (b := 116) (fun x => rfl) rfl rfl rfl (by decide) (by decide) rfl (by decide) (by decide)
theorem wd_and : Wd 14 [97, 110, 100] := by
  intro h
  refine ⟨len_f (L := 3) (fun x => rfl) rfl rfl rfl, fun i hi => ?_⟩
  have hi : i < 3 := hi
  have hh : i = 0 ∨ i = 1 ∨ i = 2 := by omega
  rcases hh with e | e | e
  · subst e; exact char_f (v := 39) (L := 3) (b := 97) (fun x => rfl) rfl rfl rfl (by decide) (by decide) rfl (by decide) (by decide)
  · subst e; exact char_f (v := 39) (L := 3) (b := 110) (fun x => rfl) rfl rfl rfl (by decide) (by decide) rfl (by decide) (by decide)
  · subst e; exact char_f (v := 39) (L := 3) (b := 100) (fun x => rfl) rfl rfl rfl (by decide) (by decide) rfl (by decide) (by decide)
theorem wd_or : Wd 15 [111, 114] := by
  intro h
  refine ⟨len_f (L := 2) (fun x => rfl) rfl rfl rfl, fun i hi => ?_⟩
  have hi : i < 2 := hi
  have hh : i = 0 ∨ i = 1 := by omega
  rcases hh with e | e
  · subst e; exact char_f (v := 40) (L := 2) (b := 111) (fun x => rfl) rfl rfl rfl (by decide) (by decide) rfl (by decide) (by decide)
  · subst e; exact char_f (v := 40) (L := 2) (b := 114) (fun x => rfl) rfl rfl rfl (by decide) (by decide) rfl (by decide) (by decide)
