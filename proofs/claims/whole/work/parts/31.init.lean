def in_A : hp_H := [.inr (10, [.ref 1, .int 0, .int (-1), .ref 3, .ref 5, .ref 15, .ref 43, .int 0, .ref 34, .ref 71, .ref 80, .ref 100, .ref 107, .ref 114, .ref 116]), .inr (2, [.ref 2]), na_C 0 700, .inr (2, [.ref 4]), na_C 0 3, .inr (1, [.int 8, .int 0, .int 0, .int 2, .int 0, .ref 6, .ref 8]), .inr (2, [.ref 7]), na_C 0 8, .inr (6, [.ref 9, .ref 11, .ref 13, .int 0]), .inr (2, [.ref 10]), na_C 0 64, .inr (2, [.ref 12]), na_C 0 700, .inr (2, [.ref 14]), na_C 0 6, .inr (8, [.ref 34, .ref 16, .ref 25]), .inr (0, [.ref 17, .ref 19, .ref 21, .ref 23, .int 0]), .inr (2, [.ref 18]), na_C 0 40, .inr (2, [.ref 20]), na_C 0 40, .inr (2, [.ref 22]), na_C 0 40, .inr (2, [.ref 24]), na_C 0 320, .inr (7, [.ref 26, .ref 28, .ref 30, .ref 32, .int 0]), .inr (2, [.ref 27]), na_C 0 8, .inr (2, [.ref 29]), na_C 0 8, .inr (2, [.ref 31]), na_C 0 8, .inr (2, [.ref 33]), na_C 0 8, .inr (3, [.ref 5, .int 0, .ref 35, .ref 37, .ref 39, .ref 41]), .inr (2, [.ref 36]), na_C 0 8, .inr (2, [.ref 38]), na_C 0 8, .inr (2, [.ref 40]), na_C 0 8, .inr (2, [.ref 42]), na_C 0 8, .inr (8, [.ref 62, .ref 44, .ref 53]), .inr (0, [.ref 45, .ref 47, .ref 49, .ref 51, .int 0]), .inr (2, [.ref 46]), na_C 0 40, .inr (2, [.ref 48]), na_C 0 40, .inr (2, [.ref 50]), na_C 0 40, .inr (2, [.ref 52]), na_C 0 320, .inr (7, [.ref 54, .ref 56, .ref 58, .ref 60, .int 0]), .inr (2, [.ref 55]), na_C 0 8, .inr (2, [.ref 57]), na_C 0 8, .inr (2, [.ref 59]), na_C 0 8, .inr (2, [.ref 61]), na_C 0 8, .inr (3, [.ref 5, .int 0, .ref 63, .ref 65, .ref 67, .ref 69]), .inr (2, [.ref 64]), na_C 0 8, .inr (2, [.ref 66]), na_C 0 8, .inr (2, [.ref 68]), na_C 0 8, .inr (2, [.ref 70]), na_C 0 8, .inr (3, [.ref 5, .int 0, .ref 72, .ref 74, .ref 76, .ref 78]), .inr (2, [.ref 73]), na_C 0 8, .inr (2, [.ref 75]), na_C 0 8, .inr (2, [.ref 77]), na_C 0 8, .inr (2, [.ref 79]), na_C 0 8, .inr (5, [.ref 81, .ref 91, .int 0, .int (-1), .ref 1, .int 0, .int 0, .int 0, .int 0, .int 0, .int 0, .int 0]), .inr (1, [.int 8, .int 0, .int 0, .int 2, .int 0, .ref 82, .ref 84]), .inr (2, [.ref 83]), na_C 0 8, .inr (6, [.ref 85, .ref 87, .ref 89, .int 0]), .inr (2, [.ref 86]), na_C 0 64, .inr (2, [.ref 88]), na_C 0 700, .inr (2, [.ref 90]), na_C 0 6, .inr (3, [.ref 81, .int 0, .ref 92, .ref 94, .ref 96, .ref 98]), .inr (2, [.ref 93]), na_C 0 8, .inr (2, [.ref 95]), na_C 0 8, .inr (2, [.ref 97]), na_C 0 8, .inr (2, [.ref 99]), na_C 0 8, .inr (9, [.ref 101, .ref 103, .ref 105, .int 0]), .inr (2, [.ref 102]), na_C 0 96, .inr (2, [.ref 104]), na_C 0 96, .inr (2, [.ref 106]), na_C 0 96, .inr (4, [.ref 108, .ref 110, .ref 112, .int (-1)]), .inr (2, [.ref 109]), na_C 0 384, .inr (2, [.ref 111]), na_C 0 6, .inr (2, [.ref 113]), na_C 0 6, .inr (2, [.ref 115]), na_C 0 8, .inr (2, [.ref 117]), na_C 0 48]
def in_B : hp_H := [.inr (11, [.int 0, .int 8, .int 0, .int 0, .int 0, .int 2, .int (-1), .ref 119, .ref 120, .ref 121, .int 0, .int 0, .int (-1), .ref 122, .int 0, .int 0, .int 0, .int 0, .int 0, .int 0, .int 0, .long 0, .int 0, .int 0, .int 0, .int 0, .int 0, .int 0, .int 0, .int 0, .int 0, .ref 123, .ref 124, .ref 125, .ref 126, .ref 127, .ref 128, .ref 129, .int 0, .ref 130, .ref 131, .int (-1), .int 0, .int 0, .ref 132, .int 0, .ref 133, .ref 134, .int 0, .int 0, .int 0, .int 0, .ref 135, .ref 136, .ref 137]), na_C 0 8, na_C 0 1400, na_C 0 700, na_C 0 3, na_C 0 8, na_C 0 33, na_C 0 1400, na_C 0 950, na_C 1 9, na_C 0 66, na_C 0 1320, na_C 0 6, na_C 0 950, na_C 0 8, na_C 0 32, na_C 0 768, na_C 0 33, na_C 0 1320, na_C 0 32]
set_option maxRecDepth 1000000 in
set_option maxHeartbeats 4000000 in
theorem in_1 : f_X10_init 0 [.inr (10, [.null, .int 0, .int 0, .null, .null, .null, .null, .int 0, .null, .null, .null, .null, .null, .null, .null])] = some in_A := by rfl
set_option maxRecDepth 1000000 in
set_option maxHeartbeats 4000000 in
theorem in_2 : f_X11_init 118 (in_A ++ [.inr (11, [.int 0, .int 0, .int 0, .int 0, .int 0, .int 0, .int 0, .null, .null, .null, .int 0, .int 0, .int 0, .null, .int 0, .int 0, .int 0, .int 0, .int 0, .int 0, .int 0, .long 0, .int 0, .int 0, .int 0, .int 0, .int 0, .int 0, .int 0, .int 0, .int 0, .null, .null, .null, .null, .null, .null, .null, .int 0, .null, .null, .int 0, .int 0, .int 0, .null, .int 0, .null, .null, .int 0, .int 0, .int 0, .int 0, .null, .null, .null])]) = some (in_A ++ in_B) := by rfl
set_option maxRecDepth 1000000 in
set_option maxHeartbeats 4000000 in
theorem in_3 : mk σ0 0 0 = (in_A ++ in_B) ++ [.inl (2, 1, .inr (.inl (fun j : Nat => if j = 0 then (0 : Int64) else 0)))] := by rfl
set_option maxRecDepth 1000000 in
set_option maxHeartbeats 4000000 in
theorem in_len : (in_A ++ in_B).length = 138 := by rfl
theorem in_4 : na_C 2 1 = .inl (2, 1, .inr (.inl (fun j : Nat => if j = 0 then (0 : Int64) else 0))) := by
  have e : (fun j : Nat => if j = 0 then (0 : Int64) else 0) = fun _ => 0 := by
    funext j
    split <;> rfl
  rw [e]
  rfl
theorem nw_bO {β : Type} {h : hp_H} {ci : Nat} {fs : List Value} {F : Nat × hp_H → Option β} : (nw_O h ci fs).bind F = F (h.length, h ++ [.inr (ci, fs)]) := rfl
theorem nw_bA {β : Type} {h : hp_H} {t n : Nat} {F : Nat × hp_H → Option β} : (nw_A h t n).bind F = F (h.length, h ++ [na_C t n]) := rfl
/-- the law's picture from the constructors' heap on -/
theorem law_init (L : Nat) (xs : Nat → Int32) : f_L_law L xs = l_L_law_23 L xs 0 118 138 0 (mk σ0 0 0) := by
  unfold f_L_law
  rw [nw_bO]
  dsimp only
  rw [show f_X10_init ([] : hp_H).length ([] ++ [.inr (10, [.null, .int 0, .int 0, .null, .null, .null, .null, .int 0, .null, .null, .null, .null, .null, .null, .null])]) = some in_A from in_1, Option.bind_some, nw_bO]
  dsimp only
  rw [show f_X11_init in_A.length (in_A ++ [.inr (11, [.int 0, .int 0, .int 0, .int 0, .int 0, .int 0, .int 0, .null, .null, .null, .int 0, .int 0, .int 0, .null, .int 0, .int 0, .int 0, .int 0, .int 0, .int 0, .int 0, .long 0, .int 0, .int 0, .int 0, .int 0, .int 0, .int 0, .int 0, .int 0, .int 0, .null, .null, .null, .null, .null, .null, .null, .int 0, .null, .null, .int 0, .int 0, .int 0, .null, .int 0, .null, .null, .int 0, .int 0, .int 0, .int 0, .null, .null, .null])]) = some (in_A ++ in_B) from in_2, Option.bind_some, nw_bA]
  dsimp only
  rw [in_3, in_4, in_len, show in_A.length = 118 from rfl]
  rfl
