/-! L3: the known words of the reference -/
section KW
variable {σ : Nat → Nat → Int32} {w u : Int64}
theorem lt_sum (h : hp_H) : f_X11_letters 0 h = some (Int64.ofNat 20141, h) := by
  have e : f_X11_spelled 115 117 109 0 0 0 h = some (Int64.ofNat 20141, h) := by
    unfold f_X11_spelled f_X11_spelled_32 f_X11_spelled_48 f_X11_spelled_66 f_X11_spelled_84
    rw [if_neg (show ¬ (109 : Int32) = 0 by decide), if_pos (show (0 : Int32) = 0 from rfl), if_pos (show (0 : Int32) = 0 from rfl), if_pos (show (0 : Int32) = 0 from rfl), show (((((Int32.toInt64 115) - 96) <<< (Int32.toInt64 5 &&& 63)) ||| (Int32.toInt64 (117 - 96))) <<< (Int32.toInt64 5 &&& 63)) ||| (Int32.toInt64 (109 - 96)) = Int64.ofNat 20141 by decide]
  unfold f_X11_letters
  rw [if_pos (show (0 : Int32) = 0 from rfl), e, Option.bind_some]
theorem lt_others (h : hp_H) : f_X11_letters 1 h = some (Int64.ofNat 524555859, h) := by
  have e : f_X11_spelled 111 116 104 101 114 115 h = some (Int64.ofNat 524555859, h) := by
    unfold f_X11_spelled f_X11_spelled_32 f_X11_spelled_48 f_X11_spelled_66 f_X11_spelled_84
    rw [if_neg (show ¬ (104 : Int32) = 0 by decide), if_neg (show ¬ (101 : Int32) = 0 by decide), if_neg (show ¬ (114 : Int32) = 0 by decide), if_neg (show ¬ (115 : Int32) = 0 by decide), show (((((((((((Int32.toInt64 111) - 96) <<< (Int32.toInt64 5 &&& 63)) ||| (Int32.toInt64 (116 - 96))) <<< (Int32.toInt64 5 &&& 63)) ||| (Int32.toInt64 (104 - 96))) <<< (Int32.toInt64 5 &&& 63)) ||| (Int32.toInt64 (101 - 96))) <<< (Int32.toInt64 5 &&& 63)) ||| (Int32.toInt64 (114 - 96))) <<< (Int32.toInt64 5 &&& 63)) ||| (Int32.toInt64 (115 - 96)) = Int64.ofNat 524555859 by decide]
  unfold f_X11_letters
  rw [if_neg (show ¬ (1 : Int32) = 0 by decide), if_pos (show (1 : Int32) = 1 from rfl), e, Option.bind_some]
theorem lt_mud (h : hp_H) : f_X11_letters 2 h = some (Int64.ofNat 13988, h) := by
  have e : f_X11_spelled 109 117 100 0 0 0 h = some (Int64.ofNat 13988, h) := by
    unfold f_X11_spelled f_X11_spelled_32 f_X11_spelled_48 f_X11_spelled_66 f_X11_spelled_84
    rw [if_neg (show ¬ (100 : Int32) = 0 by decide), if_pos (show (0 : Int32) = 0 from rfl), if_pos (show (0 : Int32) = 0 from rfl), if_pos (show (0 : Int32) = 0 from rfl), show (((((Int32.toInt64 109) - 96) <<< (Int32.toInt64 5 &&& 63)) ||| (Int32.toInt64 (117 - 96))) <<< (Int32.toInt64 5 &&& 63)) ||| (Int32.toInt64 (100 - 96)) = Int64.ofNat 13988 by decide]
  unfold f_X11_letters
  rw [if_neg (show ¬ (2 : Int32) = 0 by decide), if_neg (show ¬ (2 : Int32) = 1 by decide), if_pos (show (2 : Int32) = 2 from rfl), e, Option.bind_some]
theorem lt_beat (h : hp_H) : f_X11_letters 3 h = some (Int64.ofNat 70708, h) := by
  have e : f_X11_spelled 98 101 97 116 0 0 h = some (Int64.ofNat 70708, h) := by
    unfold f_X11_spelled f_X11_spelled_32 f_X11_spelled_48 f_X11_spelled_66 f_X11_spelled_84
    rw [if_neg (show ¬ (97 : Int32) = 0 by decide), if_neg (show ¬ (116 : Int32) = 0 by decide), if_pos (show (0 : Int32) = 0 from rfl), if_pos (show (0 : Int32) = 0 from rfl), show (((((((Int32.toInt64 98) - 96) <<< (Int32.toInt64 5 &&& 63)) ||| (Int32.toInt64 (101 - 96))) <<< (Int32.toInt64 5 &&& 63)) ||| (Int32.toInt64 (97 - 96))) <<< (Int32.toInt64 5 &&& 63)) ||| (Int32.toInt64 (116 - 96)) = Int64.ofNat 70708 by decide]
  unfold f_X11_letters
  rw [if_neg (show ¬ (3 : Int32) = 0 by decide), if_neg (show ¬ (3 : Int32) = 1 by decide), if_neg (show ¬ (3 : Int32) = 2 by decide), if_pos (show (3 : Int32) = 3 from rfl), e, Option.bind_some]
theorem lt_many (h : hp_H) : f_X11_letters 4 h = some (Int64.ofNat 427481, h) := by
  have e : f_X11_spelled 109 97 110 121 0 0 h = some (Int64.ofNat 427481, h) := by
    unfold f_X11_spelled f_X11_spelled_32 f_X11_spelled_48 f_X11_spelled_66 f_X11_spelled_84
    rw [if_neg (show ¬ (110 : Int32) = 0 by decide), if_neg (show ¬ (121 : Int32) = 0 by decide), if_pos (show (0 : Int32) = 0 from rfl), if_pos (show (0 : Int32) = 0 from rfl), show (((((((Int32.toInt64 109) - 96) <<< (Int32.toInt64 5 &&& 63)) ||| (Int32.toInt64 (97 - 96))) <<< (Int32.toInt64 5 &&& 63)) ||| (Int32.toInt64 (110 - 96))) <<< (Int32.toInt64 5 &&& 63)) ||| (Int32.toInt64 (121 - 96)) = Int64.ofNat 427481 by decide]
  unfold f_X11_letters
  rw [if_neg (show ¬ (4 : Int32) = 0 by decide), if_neg (show ¬ (4 : Int32) = 1 by decide), if_neg (show ¬ (4 : Int32) = 2 by decide), if_neg (show ¬ (4 : Int32) = 3 by decide), if_pos (show (4 : Int32) = 4 from rfl), e, Option.bind_some]
theorem lt_last (h : hp_H) : f_X11_letters 5 h = some (Int64.ofNat 394868, h) := by
  have e : f_X11_spelled 108 97 115 116 0 0 h = some (Int64.ofNat 394868, h) := by
    unfold f_X11_spelled f_X11_spelled_32 f_X11_spelled_48 f_X11_spelled_66 f_X11_spelled_84
    rw [if_neg (show ¬ (115 : Int32) = 0 by decide), if_neg (show ¬ (116 : Int32) = 0 by decide), if_pos (show (0 : Int32) = 0 from rfl), if_pos (show (0 : Int32) = 0 from rfl), show (((((((Int32.toInt64 108) - 96) <<< (Int32.toInt64 5 &&& 63)) ||| (Int32.toInt64 (97 - 96))) <<< (Int32.toInt64 5 &&& 63)) ||| (Int32.toInt64 (115 - 96))) <<< (Int32.toInt64 5 &&& 63)) ||| (Int32.toInt64 (116 - 96)) = Int64.ofNat 394868 by decide]
  unfold f_X11_letters
  rw [if_neg (show ¬ (5 : Int32) = 0 by decide), if_neg (show ¬ (5 : Int32) = 1 by decide), if_neg (show ¬ (5 : Int32) = 2 by decide), if_neg (show ¬ (5 : Int32) = 3 by decide), if_neg (show ¬ (5 : Int32) = 4 by decide), if_pos (show (5 : Int32) = 5 from rfl), e, Option.bind_some]
theorem lt_beats (h : hp_H) : f_X11_letters 6 h = some (Int64.ofNat 2262675, h) := by
  have e : f_X11_spelled 98 101 97 116 115 0 h = some (Int64.ofNat 2262675, h) := by
    unfold f_X11_spelled f_X11_spelled_32 f_X11_spelled_48 f_X11_spelled_66 f_X11_spelled_84
    rw [if_neg (show ¬ (97 : Int32) = 0 by decide), if_neg (show ¬ (116 : Int32) = 0 by decide), if_neg (show ¬ (115 : Int32) = 0 by decide), if_pos (show (0 : Int32) = 0 from rfl), show (((((((((Int32.toInt64 98) - 96) <<< (Int32.toInt64 5 &&& 63)) ||| (Int32.toInt64 (101 - 96))) <<< (Int32.toInt64 5 &&& 63)) ||| (Int32.toInt64 (97 - 96))) <<< (Int32.toInt64 5 &&& 63)) ||| (Int32.toInt64 (116 - 96))) <<< (Int32.toInt64 5 &&& 63)) ||| (Int32.toInt64 (115 - 96)) = Int64.ofNat 2262675 by decide]
  unfold f_X11_letters
  rw [if_neg (show ¬ (6 : Int32) = 0 by decide), if_neg (show ¬ (6 : Int32) = 1 by decide), if_neg (show ¬ (6 : Int32) = 2 by decide), if_neg (show ¬ (6 : Int32) = 3 by decide), if_neg (show ¬ (6 : Int32) = 4 by decide), if_neg (show ¬ (6 : Int32) = 5 by decide), if_pos (show (6 : Int32) = 6 from rfl), e, Option.bind_some]
theorem lt_man (h : hp_H) : f_X11_letters 7 h = some (Int64.ofNat 13358, h) := by
  have e : f_X11_spelled 109 97 110 0 0 0 h = some (Int64.ofNat 13358, h) := by
    unfold f_X11_spelled f_X11_spelled_32 f_X11_spelled_48 f_X11_spelled_66 f_X11_spelled_84
    rw [if_neg (show ¬ (110 : Int32) = 0 by decide), if_pos (show (0 : Int32) = 0 from rfl), if_pos (show (0 : Int32) = 0 from rfl), if_pos (show (0 : Int32) = 0 from rfl), show (((((Int32.toInt64 109) - 96) <<< (Int32.toInt64 5 &&& 63)) ||| (Int32.toInt64 (97 - 96))) <<< (Int32.toInt64 5 &&& 63)) ||| (Int32.toInt64 (110 - 96)) = Int64.ofNat 13358 by decide]
  unfold f_X11_letters
  rw [if_neg (show ¬ (7 : Int32) = 0 by decide), if_neg (show ¬ (7 : Int32) = 1 by decide), if_neg (show ¬ (7 : Int32) = 2 by decide), if_neg (show ¬ (7 : Int32) = 3 by decide), if_neg (show ¬ (7 : Int32) = 4 by decide), if_neg (show ¬ (7 : Int32) = 5 by decide), if_neg (show ¬ (7 : Int32) = 6 by decide), if_pos (show (7 : Int32) = 7 from rfl), e, Option.bind_some]
theorem lt_row (h : hp_H) : f_X11_letters 8 h = some (Int64.ofNat 18935, h) := by
  have e : f_X11_spelled 114 111 119 0 0 0 h = some (Int64.ofNat 18935, h) := by
    unfold f_X11_spelled f_X11_spelled_32 f_X11_spelled_48 f_X11_spelled_66 f_X11_spelled_84
    rw [if_neg (show ¬ (119 : Int32) = 0 by decide), if_pos (show (0 : Int32) = 0 from rfl), if_pos (show (0 : Int32) = 0 from rfl), if_pos (show (0 : Int32) = 0 from rfl), show (((((Int32.toInt64 114) - 96) <<< (Int32.toInt64 5 &&& 63)) ||| (Int32.toInt64 (111 - 96))) <<< (Int32.toInt64 5 &&& 63)) ||| (Int32.toInt64 (119 - 96)) = Int64.ofNat 18935 by decide]
  unfold f_X11_letters
  rw [if_neg (show ¬ (8 : Int32) = 0 by decide), if_neg (show ¬ (8 : Int32) = 1 by decide), if_neg (show ¬ (8 : Int32) = 2 by decide), if_neg (show ¬ (8 : Int32) = 3 by decide), if_neg (show ¬ (8 : Int32) = 4 by decide), if_neg (show ¬ (8 : Int32) = 5 by decide), if_neg (show ¬ (8 : Int32) = 6 by decide), if_neg (show ¬ (8 : Int32) = 7 by decide), if_pos (show (8 : Int32) = 8 from rfl), e, Option.bind_some]
theorem lt_slack (h : hp_H) : f_X11_letters 9 h = some (Int64.ofNat 20317291, h) := by
  have e : f_X11_spelled 115 108 97 99 107 0 h = some (Int64.ofNat 20317291, h) := by
    unfold f_X11_spelled f_X11_spelled_32 f_X11_spelled_48 f_X11_spelled_66 f_X11_spelled_84
    rw [if_neg (show ¬ (97 : Int32) = 0 by decide), if_neg (show ¬ (99 : Int32) = 0 by decide), if_neg (show ¬ (107 : Int32) = 0 by decide), if_pos (show (0 : Int32) = 0 from rfl), show (((((((((Int32.toInt64 115) - 96) <<< (Int32.toInt64 5 &&& 63)) ||| (Int32.toInt64 (108 - 96))) <<< (Int32.toInt64 5 &&& 63)) ||| (Int32.toInt64 (97 - 96))) <<< (Int32.toInt64 5 &&& 63)) ||| (Int32.toInt64 (99 - 96))) <<< (Int32.toInt64 5 &&& 63)) ||| (Int32.toInt64 (107 - 96)) = Int64.ofNat 20317291 by decide]
  unfold f_X11_letters
  rw [if_neg (show ¬ (9 : Int32) = 0 by decide), if_neg (show ¬ (9 : Int32) = 1 by decide), if_neg (show ¬ (9 : Int32) = 2 by decide), if_neg (show ¬ (9 : Int32) = 3 by decide), if_neg (show ¬ (9 : Int32) = 4 by decide), if_neg (show ¬ (9 : Int32) = 5 by decide), if_neg (show ¬ (9 : Int32) = 6 by decide), if_neg (show ¬ (9 : Int32) = 7 by decide), if_neg (show ¬ (9 : Int32) = 8 by decide), if_pos (show (9 : Int32) = 9 from rfl), e, Option.bind_some]
theorem lt_hears (h : hp_H) : f_X11_letters 10 h = some (Int64.ofNat 8554067, h) := by
  have e : f_X11_spelled 104 101 97 114 115 0 h = some (Int64.ofNat 8554067, h) := by
    unfold f_X11_spelled f_X11_spelled_32 f_X11_spelled_48 f_X11_spelled_66 f_X11_spelled_84
    rw [if_neg (show ¬ (97 : Int32) = 0 by decide), if_neg (show ¬ (114 : Int32) = 0 by decide), if_neg (show ¬ (115 : Int32) = 0 by decide), if_pos (show (0 : Int32) = 0 from rfl), show (((((((((Int32.toInt64 104) - 96) <<< (Int32.toInt64 5 &&& 63)) ||| (Int32.toInt64 (101 - 96))) <<< (Int32.toInt64 5 &&& 63)) ||| (Int32.toInt64 (97 - 96))) <<< (Int32.toInt64 5 &&& 63)) ||| (Int32.toInt64 (114 - 96))) <<< (Int32.toInt64 5 &&& 63)) ||| (Int32.toInt64 (115 - 96)) = Int64.ofNat 8554067 by decide]
  unfold f_X11_letters
  rw [if_neg (show ¬ (10 : Int32) = 0 by decide), if_neg (show ¬ (10 : Int32) = 1 by decide), if_neg (show ¬ (10 : Int32) = 2 by decide), if_neg (show ¬ (10 : Int32) = 3 by decide), if_neg (show ¬ (10 : Int32) = 4 by decide), if_neg (show ¬ (10 : Int32) = 5 by decide), if_neg (show ¬ (10 : Int32) = 6 by decide), if_neg (show ¬ (10 : Int32) = 7 by decide), if_neg (show ¬ (10 : Int32) = 8 by decide), if_neg (show ¬ (10 : Int32) = 9 by decide), if_pos (show (10 : Int32) = 10 from rfl), e, Option.bind_some]
theorem lt_and (h : hp_H) : f_X11_letters 11 h = some (Int64.ofNat 1476, h) := by
  have e : f_X11_spelled 97 110 100 0 0 0 h = some (Int64.ofNat 1476, h) := by
    unfold f_X11_spelled f_X11_spelled_32 f_X11_spelled_48 f_X11_spelled_66 f_X11_spelled_84
    rw [if_neg (show ¬ (100 : Int32) = 0 by decide), if_pos (show (0 : Int32) = 0 from rfl), if_pos (show (0 : Int32) = 0 from rfl), if_pos (show (0 : Int32) = 0 from rfl), show (((((Int32.toInt64 97) - 96) <<< (Int32.toInt64 5 &&& 63)) ||| (Int32.toInt64 (110 - 96))) <<< (Int32.toInt64 5 &&& 63)) ||| (Int32.toInt64 (100 - 96)) = Int64.ofNat 1476 by decide]
  unfold f_X11_letters
  rw [if_neg (show ¬ (11 : Int32) = 0 by decide), if_neg (show ¬ (11 : Int32) = 1 by decide), if_neg (show ¬ (11 : Int32) = 2 by decide), if_neg (show ¬ (11 : Int32) = 3 by decide), if_neg (show ¬ (11 : Int32) = 4 by decide), if_neg (show ¬ (11 : Int32) = 5 by decide), if_neg (show ¬ (11 : Int32) = 6 by decide), if_neg (show ¬ (11 : Int32) = 7 by decide), if_neg (show ¬ (11 : Int32) = 8 by decide), if_neg (show ¬ (11 : Int32) = 9 by decide), if_neg (show ¬ (11 : Int32) = 10 by decide), if_pos (show (11 : Int32) = 11 from rfl), e, Option.bind_some]
theorem lt_or (h : hp_H) : f_X11_letters 12 h = some (Int64.ofNat 498, h) := by
  have e : f_X11_spelled 111 114 0 0 0 0 h = some (Int64.ofNat 498, h) := by
    unfold f_X11_spelled f_X11_spelled_32 f_X11_spelled_48 f_X11_spelled_66 f_X11_spelled_84
    rw [if_pos (show (0 : Int32) = 0 from rfl), if_pos (show (0 : Int32) = 0 from rfl), if_pos (show (0 : Int32) = 0 from rfl), if_pos (show (0 : Int32) = 0 from rfl), show (((Int32.toInt64 111) - 96) <<< (Int32.toInt64 5 &&& 63)) ||| (Int32.toInt64 (114 - 96)) = Int64.ofNat 498 by decide]
  unfold f_X11_letters
  rw [if_neg (show ¬ (12 : Int32) = 0 by decide), if_neg (show ¬ (12 : Int32) = 1 by decide), if_neg (show ¬ (12 : Int32) = 2 by decide), if_neg (show ¬ (12 : Int32) = 3 by decide), if_neg (show ¬ (12 : Int32) = 4 by decide), if_neg (show ¬ (12 : Int32) = 5 by decide), if_neg (show ¬ (12 : Int32) = 6 by decide), if_neg (show ¬ (12 : Int32) = 7 by decide), if_neg (show ¬ (12 : Int32) = 8 by decide), if_neg (show ¬ (12 : Int32) = 9 by decide), if_neg (show ¬ (12 : Int32) = 10 by decide), if_neg (show ¬ (12 : Int32) = 11 by decide), if_pos (show (12 : Int32) = 12 from rfl), e, Option.bind_some]
theorem lt_not (h : hp_H) : f_X11_letters 13 h = some (Int64.ofNat 14836, h) := by
  have e : f_X11_spelled 110 111 116 0 0 0 h = some (Int64.ofNat 14836, h) := by
    unfold f_X11_spelled f_X11_spelled_32 f_X11_spelled_48 f_X11_spelled_66 f_X11_spelled_84
    rw [if_neg (show ¬ (116 : Int32) = 0 by decide), if_pos (show (0 : Int32) = 0 from rfl), if_pos (show (0 : Int32) = 0 from rfl), if_pos (show (0 : Int32) = 0 from rfl), show (((((Int32.toInt64 110) - 96) <<< (Int32.toInt64 5 &&& 63)) ||| (Int32.toInt64 (111 - 96))) <<< (Int32.toInt64 5 &&& 63)) ||| (Int32.toInt64 (116 - 96)) = Int64.ofNat 14836 by decide]
  unfold f_X11_letters
  rw [if_neg (show ¬ (13 : Int32) = 0 by decide), if_neg (show ¬ (13 : Int32) = 1 by decide), if_neg (show ¬ (13 : Int32) = 2 by decide), if_neg (show ¬ (13 : Int32) = 3 by decide), if_neg (show ¬ (13 : Int32) = 4 by decide), if_neg (show ¬ (13 : Int32) = 5 by decide), if_neg (show ¬ (13 : Int32) = 6 by decide), if_neg (show ¬ (13 : Int32) = 7 by decide), if_neg (show ¬ (13 : Int32) = 8 by decide), if_neg (show ¬ (13 : Int32) = 9 by decide), if_neg (show ¬ (13 : Int32) = 10 by decide), if_neg (show ¬ (13 : Int32) = 11 by decide), if_neg (show ¬ (13 : Int32) = 12 by decide), e, Option.bind_some]
end KW
