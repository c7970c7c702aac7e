/-! L3: tokens -/
def bDig (b : Nat) : Bool := decide (48 ≤ b ∧ b ≤ 57)
def bLet (b : Nat) : Bool := decide (97 ≤ b ∧ b ≤ 122)
def bBlk (b : Nat) : Bool := decide (b = 32 ∨ b = 10)
def bSgn (b : Nat) : Bool := decide (b = 59 ∨ b = 40 ∨ b = 41 ∨ b = 43 ∨ b = 45 ∨ b = 42 ∨ b = 47 ∨ b = 60 ∨ b = 61)
/-- so far as bytes are such -/
def rn (p : Nat → Bool) (T : Nat → Nat) (n : Nat) : Nat → Nat → Nat
  | 0, i => i
  | d + 1, i => if i < n ∧ p (T i) = true then rn p T n d (i + 1) else i
theorem rn_ge (p : Nat → Bool) (T : Nat → Nat) (n : Nat) : ∀ d i, i ≤ rn p T n d i := by
  intro d
  induction d with
  | zero => intro i; exact Nat.le_refl _
  | succ d ih =>
    intro i
    unfold rn
    split
    · have := ih (i + 1); omega
    · exact Nat.le_refl _
theorem rn_le (p : Nat → Bool) (T : Nat → Nat) (n : Nat) : ∀ d i, i ≤ n → rn p T n d i ≤ n := by
  intro d
  induction d with
  | zero => intro i h; exact h
  | succ d ih =>
    intro i h
    unfold rn
    split
    · next c => exact ih (i + 1) (by omega)
    · exact h
/-- enough turns: where it ends, and what lies between -/
theorem rn_end (p : Nat → Bool) (T : Nat → Nat) (n : Nat) : ∀ d i, n ≤ i + d → ¬ (rn p T n d i < n ∧ p (T (rn p T n d i)) = true) := by
  intro d
  induction d with
  | zero => intro i h c; have : rn p T n 0 i = i := rfl; rw [this] at c; omega
  | succ d ih =>
    intro i h
    unfold rn
    split
    · exact ih (i + 1) (by omega)
    · next c => exact c
theorem rn_in (p : Nat → Bool) (T : Nat → Nat) (n : Nat) : ∀ d i j, i ≤ j → j < rn p T n d i → j < n ∧ p (T j) = true := by
  intro d
  induction d with
  | zero => intro i j h1 h2; have : rn p T n 0 i = i := rfl; rw [this] at h2; omega
  | succ d ih =>
    intro i j h1 h2
    unfold rn at h2
    split at h2
    · next c =>
      by_cases e : j = i
      · rw [e]; exact c
      · exact ih (i + 1) j (by omega) h2
    · omega
theorem rn_st {p : Nat → Bool} {T : Nat → Nat} {n d i : Nat} (h : i < n ∧ p (T i) = true) (hd : n ≤ i + 1 + d) : rn p T n (d + 1) i = rn p T n (d + 1) (i + 1) := by
  have key : ∀ d e i, n ≤ i + d → n ≤ i + e → rn p T n d i = rn p T n e i := by
    intro d
    induction d with
    | zero =>
      intro e i h1 h2
      cases e with
      | zero => rfl
      | succ e => show i = if i < n ∧ _ then _ else i; rw [if_neg (by omega)]
    | succ d ih =>
      intro e i h1 h2
      cases e with
      | zero => show (if i < n ∧ _ then _ else i) = i; rw [if_neg (by omega)]
      | succ e =>
        unfold rn
        by_cases c : i < n ∧ p (T i) = true
        · rw [if_pos c, if_pos c]; exact ih e (i + 1) (by omega) (by omega)
        · rw [if_neg c, if_neg c]
  have e1 : rn p T n (d + 1) i = rn p T n d (i + 1) := by
    show (if i < n ∧ p (T i) = true then rn p T n d (i + 1) else i) = _
    rw [if_pos h]
  rw [e1]
  exact key d (d + 1) (i + 1) hd (by omega)
/-- the token at a place: start, end, kind (0 none, 1 number, 2 word, 3 sign, 4 what is no token) -/
def tok (T : Nat → Nat) (n i : Nat) : Nat × Nat × Nat :=
  let s := rn bBlk T n 701 i
  if n ≤ s then (s, s, 0) else if bDig (T s) = true then (s, rn bDig T n 701 s, 1) else if bLet (T s) = true then (s, rn bLet T n 701 s, 2) else (s, s + 1, if bSgn (T s) = true then 3 else 4)
def nm (T : Nat → Nat) (s : Nat) : Nat → Nat := it (fun j v => min (10 * v + (T (s + j) - 48)) 10000) 0
def vl (T : Nat → Nat) (s : Nat) : Nat → Nat := it (fun j v => if j < 4 then 10 * v + (T (s + j) - 48) else v) 0
def wd (T : Nat → Nat) (s : Nat) : Nat → Int64 := it (fun j v => if j < 6 then (v <<< (Int32.toInt64 5 &&& 63)) ||| Int32.toInt64 (nI (T (s + j)) - 96) else v) 0
section TK
variable {σ τ : Nat → Nat → Int32} {w u : Int64}
def notW : ((Nat × Nat) ⊕ (Nat × List Nat)) → Bool
  | .inl _ => true
  | .inr (_, cs) => cs.all (fun c => c != 1)
theorem sh_notW : (List.range 139).all (fun k => k == 118 || (sh[k]?).all notW) = true := by decide +kernel
theorem fv_w {q k c : Nat} {v : Int64} (h : c ≠ 1) : fv σ w q k c = fv σ v q k c := by
  unfold fv
  by_cases h0 : c = 0
  · rw [if_pos h0, if_pos h0]
  · rw [if_neg h0, if_neg h0, if_neg h, if_neg h]
theorem mkc_w {k : Nat} {x : (Nat × Nat) ⊕ (Nat × List Nat)} {v : Int64} (h : notW x = true) : mkc σ w u k x = mkc σ v u k x := by
  match x with
  | .inl (t, n) => rfl
  | .inr (ci, cs) =>
    show Sum.inr (ci, cs.mapIdx (fun j c => fv σ w k j c)) = Sum.inr (ci, cs.mapIdx (fun j c => fv σ v k j c))
    refine congrArg (fun z => Sum.inr (ci, z)) ?_
    apply List.ext_getElem?
    intro i
    rw [List.getElem?_mapIdx, List.getElem?_mapIdx]
    cases hc : cs[i]? with
    | none => rfl
    | some c =>
      have h2 := List.all_eq_true.mp h c (List.mem_of_getElem? hc)
      exact congrArg some (fv_w (by simpa using h2))
def cs118 : List Nat := match (sh[118]? : Option ((Nat × Nat) ⊕ (Nat × List Nat))) with
  | some (.inr (_, cs)) => cs
  | _ => []
theorem cs118_c : (List.range 55).all (fun i => i == 21 || (cs118[i]?).all (fun c => c != 1)) = true := by decide +kernel
theorem wJ {v : Int64} : wr_J (mk σ w u) 118 11 21 v = some (mk σ v u) := by
  have h : sh[118]? = some (.inr (11, cs118)) := rfl
  have hk : cs118[21]? = some 1 := rfl
  have hln : cs118.length = 55 := rfl
  have hl : 21 < cs118.length := by omega
  unfold wr_J wr_O
  rw [mk_O h]
  show (if 11 = 11 ∧ _ then _ else _) = _
  rw [if_pos ⟨rfl, by simpa using hl⟩]
  refine congrArg some ?_
  apply mk_ext
  intro j
  rw [List.getElem?_set]
  by_cases hj : 118 = j
  · subst hj
    rw [if_pos rfl, if_pos (by rw [mk_len]; have : sh.length = 139 := rfl; omega), h]
    show some (Sum.inr (11, _)) = some (Sum.inr (11, cs118.mapIdx (fun j c => fv σ v 118 j c)))
    refine congrArg (fun z => some (Sum.inr (11, z))) ?_
    apply List.ext_getElem?
    intro i
    rw [List.getElem?_set, List.getElem?_mapIdx, List.getElem?_mapIdx]
    by_cases hi : 21 = i
    · subst hi
      rw [if_pos rfl, if_pos (by simpa using hl), hk]
      rfl
    · rw [if_neg hi]
      cases hc : cs118[i]? with
      | none => rfl
      | some c =>
        have hil : i < 55 := by rw [← hln]; exact (List.getElem?_eq_some_iff.mp hc).1
        have h2 := List.all_eq_true.mp cs118_c i (List.mem_range.mpr hil)
        rw [hc] at h2
        have h3 : (i == 21) = false := by simp; omega
        rw [h3, Bool.false_or] at h2
        exact congrArg some (fv_w (by simpa using h2))
  · rw [if_neg hj, mk_at]
    by_cases h2 : j < 139
    · have h3 := List.all_eq_true.mp sh_notW j (List.mem_range.mpr h2)
      have h4 : (j == 118) = false := by simp; omega
      rw [h4, Bool.false_or] at h3
      cases hs : sh[j]? with
      | none => rfl
      | some x =>
        rw [hs] at h3
        exact congrArg some (mkc_w h3)
    · rw [List.getElem?_eq_none (by have : sh.length = 139 := rfl; omega)]
      rfl
theorem isBlank_f {b : Nat} (hb : b < 256) (h : hp_H) : f_X5_isBlank (nI b) h = some (nI (if bBlk b = true then 1 else 0), h) := by
  unfold f_X5_isBlank f_X5_isBlank_12 f_X5_isBlank_17 bBlk
  by_cases c1 : b = 32
  · rw [if_pos (show nI b = 32 by rw [c1]; rfl), if_pos (by decide), if_pos (by simp [c1])]; rfl
  · rw [if_neg (show ¬ nI b = 32 from fun e => c1 ((nI_eq (b := 32) (by omega) (by decide)).mp e))]
    by_cases c2 : b = 10
    · rw [if_pos (show nI b = 10 by rw [c2]; rfl), if_pos (by decide), if_pos (by simp [c2])]; rfl
    · rw [if_neg (show ¬ nI b = 10 from fun e => c2 ((nI_eq (b := 10) (by omega) (by decide)).mp e)), if_pos (by decide), if_neg (by simp [c1, c2])]; rfl
theorem isDigit_f {b : Nat} (hb : b < 256) (h : hp_H) : f_X5_isDigit (nI b) h = some (nI (if bDig b = true then 1 else 0), h) := by
  unfold f_X5_isDigit f_X5_isDigit_16 f_X5_isDigit_17 bDig
  by_cases c1 : b < 48
  · rw [if_pos (show nI b < 48 from (nI_ltI (b := 48) (by omega) (by decide)).mpr c1), if_pos (by decide), if_neg (by simp; omega)]; rfl
  · rw [if_neg (show ¬ nI b < 48 from nI_nlt (b := 48) (by omega) (by omega))]
    by_cases c2 : 57 < b
    · rw [if_pos (show (57 : Int32) < nI b from (nI_ltI (a := 57) (by decide) (by omega)).mpr c2), if_pos (by decide), if_neg (by simp; omega)]; rfl
    · rw [if_neg (show ¬ (57 : Int32) < nI b from nI_nlt (a := 57) (by omega) (by decide)), if_pos (by decide), if_pos (by simp; omega)]; rfl
theorem isLetter_f {b : Nat} (hb : b < 256) (h : hp_H) : f_X5_isLetter (nI b) h = some (nI (if bLet b = true then 1 else 0), h) := by
  unfold f_X5_isLetter f_X5_isLetter_16 f_X5_isLetter_17 bLet
  by_cases c1 : b < 97
  · rw [if_pos (show nI b < 97 from (nI_ltI (b := 97) (by omega) (by decide)).mpr c1), if_pos (by decide), if_neg (by simp; omega)]; rfl
  · rw [if_neg (show ¬ nI b < 97 from nI_nlt (b := 97) (by omega) (by omega))]
    by_cases c2 : 122 < b
    · rw [if_pos (show (122 : Int32) < nI b from (nI_ltI (a := 122) (by decide) (by omega)).mpr c2), if_pos (by decide), if_neg (by simp; omega)]; rfl
    · rw [if_neg (show ¬ (122 : Int32) < nI b from nI_nlt (a := 122) (by omega) (by decide)), if_pos (by decide), if_pos (by simp; omega)]; rfl
theorem isDigit_R {b : Nat} (hb : b < 256) (h : hp_H) : f_X11_isDigit (nI b) h = some (nI (if bDig b = true then 1 else 0), h) := isDigit_f hb h
theorem isLetter_R {b : Nat} (hb : b < 256) (h : hp_H) : f_X11_isLetter (nI b) h = some (nI (if bLet b = true then 1 else 0), h) := isLetter_f hb h
theorem sh_0 (L : Int32) : L >>> (0 &&& 31) = L := by
  apply Int32.toBitVec_inj.mp
  rw [Int32.toBitVec_shiftRight]
  have e : ((0 : Int32) &&& 31).toBitVec.smod 32 = 0#32 := by decide
  rw [e]
  show L.toBitVec.sshiftRight (0#32).toNat = _
  rw [show (0#32).toNat = 0 from rfl, BitVec.sshiftRight_zero]
theorem len_f {k v : UInt32} {L : Int32} {h : hp_H} (g : ∀ x : Option (Int32 × hp_H), gs k x = x) (h1 : js_V k = some v) (h2 : js_L v = some L) (h3 : f_J0_coder_7d493 k h = some (0, h)) : f_J0_length_8abf5 k h = some (L, h) := by
  unfold f_J0_length_8abf5
  rw [g, h1, Option.bind_some, h2, Option.bind_some, h3, Option.bind_some]
  dsimp only
  rw [sh_0]
/-- the sign's number in the row of signs -/
theorem signs_f {b : Nat} (hb : b < 256) (h : hp_H) : ∃ r, f_J0_indexOf_0f7a4 1 (hp_i2c (nI b)) h = some (r, h) ∧ (r < 0 ↔ ¬ bSgn b = true) := by
  have hi : ∀ b, b < 256 → hp_i2c (nI b) = nI b := by decide +kernel
  have hc : ∀ x : Int32, ∃ r, (l_J1_indexOfChar_4cfef_7 26 9 x 0 h = some (r, h)) ∧ (r < 0 ↔ ¬ (x = 59 ∨ x = 40 ∨ x = 41 ∨ x = 43 ∨ x = 45 ∨ x = 42 ∨ x = 47 ∨ x = 60 ∨ x = 61)) := by
    intro x
    have e : l_J1_indexOfChar_4cfef_7 26 9 x 0 h = (if 59 = x then some (0, h) else if 40 = x then some (1, h) else if 41 = x then some (2, h) else if 43 = x then some (3, h) else if 45 = x then some (4, h) else if 42 = x then some (5, h) else if 47 = x then some (6, h) else if 60 = x then some (7, h) else if 61 = x then some (8, h) else some (-1, h)) := by rfl
    rw [e]
    by_cases c0 : 59 = x
    · exact ⟨0, by rw [if_pos c0], by simp [← c0]⟩
    · by_cases c1 : 40 = x
      · exact ⟨1, by rw [if_neg c0, if_pos c1], by simp [← c1]⟩
      · by_cases c2 : 41 = x
        · exact ⟨2, by rw [if_neg c0, if_neg c1, if_pos c2], by simp [← c2]⟩
        · by_cases c3 : 43 = x
          · exact ⟨3, by rw [if_neg c0, if_neg c1, if_neg c2, if_pos c3], by simp [← c3]⟩
          · by_cases c4 : 45 = x
            · exact ⟨4, by rw [if_neg c0, if_neg c1, if_neg c2, if_neg c3, if_pos c4], by simp [← c4]⟩
            · by_cases c5 : 42 = x
              · exact ⟨5, by rw [if_neg c0, if_neg c1, if_neg c2, if_neg c3, if_neg c4, if_pos c5], by simp [← c5]⟩
              · by_cases c6 : 47 = x
                · exact ⟨6, by rw [if_neg c0, if_neg c1, if_neg c2, if_neg c3, if_neg c4, if_neg c5, if_pos c6], by simp [← c6]⟩
                · by_cases c7 : 60 = x
                  · exact ⟨7, by rw [if_neg c0, if_neg c1, if_neg c2, if_neg c3, if_neg c4, if_neg c5, if_neg c6, if_pos c7], by simp [← c7]⟩
                  · by_cases c8 : 61 = x
                    · exact ⟨8, by rw [if_neg c0, if_neg c1, if_neg c2, if_neg c3, if_neg c4, if_neg c5, if_neg c6, if_neg c7, if_pos c8], by simp [← c8]⟩
                    · refine ⟨-1, by rw [if_neg c0, if_neg c1, if_neg c2, if_neg c3, if_neg c4, if_neg c5, if_neg c6, if_neg c7, if_neg c8], ⟨fun _ => ?_, fun _ => by decide⟩⟩
                      rintro (e | e | e | e | e | e | e | e | e)
                      · exact c0 e.symm
                      · exact c1 e.symm
                      · exact c2 e.symm
                      · exact c3 e.symm
                      · exact c4 e.symm
                      · exact c5 e.symm
                      · exact c6 e.symm
                      · exact c7 e.symm
                      · exact c8 e.symm
  have hs : ∀ b, b < 256 → ((hp_i2b (nI b) = 59 ∨ hp_i2b (nI b) = 40 ∨ hp_i2b (nI b) = 41 ∨ hp_i2b (nI b) = 43 ∨ hp_i2b (nI b) = 45 ∨ hp_i2b (nI b) = 42 ∨ hp_i2b (nI b) = 47 ∨ hp_i2b (nI b) = 60 ∨ hp_i2b (nI b) = 61) ↔ bSgn b = true) := by decide +kernel
  obtain ⟨r, e1, e2⟩ := hc (hp_i2b (nI b))
  refine ⟨r, ?_, by rw [e2, hs b hb]⟩
  rw [hi b hb]
  have c1 : ¬ nI b < 0 := nI_pos (by omega)
  have c2 : ¬ (255 : Int32) < nI b := nI_nlt (a := 255) (by omega) (by decide)
  have e3 : f_J1_indexOf_4cfef 26 (nI b) 0 9 h = some (r, h) := by
    unfold f_J1_indexOf_4cfef f_J1_canEncode_9a6ad f_J1_canEncode_9a6ad_16
    rw [if_neg c1, if_neg c2, if_pos (by decide), Option.bind_some]
    dsimp only
    rw [if_neg (by decide), show js_L 26 = some 9 from rfl, Option.bind_some, if_pos (by decide)]
    unfold f_J1_indexOfChar_4cfef
    rw [show hp_max 0 0 = (0 : Int32) from rfl, show hp_min 9 9 = (9 : Int32) from rfl, e1, Option.bind_some]
  unfold f_J0_indexOf_0f7a4 f_J0_indexOf_7cf53
  rw [show ∀ x : Option (Int32 × hp_H), gs 1 x = x from fun x => rfl, show ∀ x : Option (Int32 × hp_H), gs 1 x = x from fun x => rfl, show f_J0_isLatin1_aae02 1 h = some (1, h) from rfl, Option.bind_some]
  dsimp only
  rw [if_neg (by decide), show js_V 1 = some 26 from rfl, Option.bind_some, show f_J0_length_8abf5 1 h = some (9, h) from by rw [len_f (L := 9) (fun x => rfl) rfl rfl rfl], Option.bind_some]
  dsimp only
  rw [e3, Option.bind_some, Option.bind_some]
end TK
