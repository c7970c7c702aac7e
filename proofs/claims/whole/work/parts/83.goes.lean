/-! L3: the reference's next token -/
section GO
variable {σ τ : Nat → Nat → Int32} {w u : Int64} {T : Nat → Nat} {n : Nat}
def RW (Q : (Nat → Nat → Int32) → Int64 → Prop) (u : Int64) (x : Option hp_H) : Prop := ∃ τ w, Q τ w ∧ x = some (mk τ w u)
def srt (kd : Nat) : Nat := if kd = 1 then 2 else if kd = 2 then 1 else kd
def RT (τ : Nat → Nat → Int32) (w : Int64) (T : Nat → Nat) (n : Nat) (K : Nat × Nat × Nat) : Prop := τ 118 15 = nI K.2.1 ∧ τ 118 16 = nI (srt K.2.2) ∧ τ 118 17 = nI K.1 ∧ τ 118 18 = nI (K.2.1 - K.1) ∧ τ 118 19 = nI (if K.2.2 = 1 then vl T K.1 (K.2.1 - K.1) else 0) ∧ τ 118 20 = nI (if K.1 < n then T K.1 else 0) ∧ w = (if K.2.2 = 2 then wd T K.1 (K.2.1 - K.1) else 0)
def Wgo (q k : Nat) : Prop := q = 118 ∧ 15 ≤ k ∧ k ≤ 20
theorem byteAt_f (tp : Tp τ 121 T) (h14 : τ 118 14 = nI n) (hn : n ≤ 700) {i : Nat} (hi : i ≤ 700) : f_X11_byteAt 118 (nI i) (mk τ w u) = some (nI (if i < n then T i else 0), mk τ w u) := by
  unfold f_X11_byteAt f_X11_byteAt_18
  rw [zg118, zi118_14, Option.bind_some, h14]
  by_cases c : i < n
  · rw [if_neg (nI_ge c (by omega)), if_pos c, zr118_9, Option.bind_some, za121 (by omega), Option.bind_some, (tp i (by omega)).2]
  · rw [if_pos (nI_le (by omega) (by omega)), if_neg c]
    rfl
theorem vl_le (T : Nat → Nat) (s : Nat) (hT : ∀ j, T (s + j) < 256) : ∀ j, vl T s j ≤ 10000000 := by
  have h0 : vl T s 0 = 0 := rfl
  have hS : ∀ j, vl T s (j + 1) = if j < 4 then 10 * vl T s j + (T (s + j) - 48) else vl T s j := fun _ => rfl
  have h1 : vl T s 1 ≤ 256 := by rw [hS, if_pos (by omega), h0]; have := hT 0; omega
  have h2 : vl T s 2 ≤ 3000 := by rw [hS, if_pos (by omega)]; have := hT 1; omega
  have h3 : vl T s 3 ≤ 31000 := by rw [hS, if_pos (by omega)]; have := hT 2; omega
  have h4 : vl T s 4 ≤ 320000 := by rw [hS, if_pos (by omega)]; have := hT 3; omega
  intro j
  by_cases c : j ≤ 4
  · have : j = 0 ∨ j = 1 ∨ j = 2 ∨ j = 3 ∨ j = 4 := by omega
    rcases this with e | e | e | e | e <;> subst e <;> omega
  · have key : ∀ d, vl T s (4 + d) = vl T s 4 := by
      intro d
      induction d with
      | zero => rfl
      | succ d ih => rw [← Nat.add_assoc, hS, if_neg (by omega), ih]
    have := key (j - 4)
    rw [show 4 + (j - 4) = j by omega] at this
    omega
def m15 (n : Nat) (h : hp_H) : Nat := match rd_I h 118 11 15 with
  | some v => n - v.toNatClampNeg
  | none => 0
theorem m15_e {j : Nat} (h : τ 118 15 = nI j) (hj : j < 2 ^ 31) : m15 n (mk τ w u) = n - j := by
  unfold m15
  rw [zi118_15, h]
  show n - (nI j).toNatClampNeg = n - j
  rw [nI_clamp hj]
theorem m15_l (h : hp_H) : m15 n h ≤ n := by
  unfold m15
  split
  · omega
  · omega
theorem goes_f (tp : Tp σ 121 T) (hn : n ≤ 700) (h14 : σ 118 14 = nI n) {e : Nat} (h15 : σ 118 15 = nI e) (he : e ≤ n) : RW (fun τ w => Fr Wgo σ τ ∧ RT τ w T n (tok T n e)) u (f_X11_goes 118 (mk σ w u)) := by
  unfold f_X11_goes
  rw [zg118]
  obtain ⟨K, hK⟩ : ∃ K, K = tok T n e := ⟨_, rfl⟩
  rw [← hK]
  unfold l_X11_goes_0
  refine lp_W (RW (fun τ w => Fr Wgo σ τ ∧ RT τ w T n K) u) (fun st => ∃ i τ w, st = (118, mk τ w u) ∧ Fr Wgo σ τ ∧ τ 118 15 = nI i ∧ i ≤ n ∧ rn bBlk T n 701 i = rn bBlk T n 701 e) (fun st => m15 n st.2) ?_ _ _ ⟨e, σ, w, rfl, Fr_r _ _, h15, he, rfl⟩ ?_
  · intro k st ⟨i, τ, w, est, fr, k15, hi, hr⟩ hk
    subst est
    have tp1 : Tp τ 121 T := Tp_F tp fr (fun k e => by unfold Wgo at e; omega)
    have k14 : τ 118 14 = nI n := by rw [fr 118 14 (by unfold Wgo; omega)]; exact h14
    have fin : ¬ (i < n ∧ bBlk (T i) = true) → RW (fun τ w => Fr Wgo σ τ ∧ RT τ w T n K) u (f_X11_goes_50 118 (mk τ w u)) := by
      intro hne
      have es : rn bBlk T n 701 e = i := by
        rw [← hr]
        show (if i < n ∧ bBlk (T i) = true then _ else i) = i
        rw [if_neg hne]
      obtain ⟨b, hb⟩ : ∃ b, b = if i < n then T i else 0 := ⟨_, rfl⟩
      have fr4 : Fr Wgo σ (s2 (s2 τ 118 17 (nI i)) 118 19 0) := Fr_st (Fr_st fr (by unfold Wgo; omega)) (by unfold Wgo; omega)
      have tp4 : Tp (s2 (s2 τ 118 17 (nI i)) 118 19 0) 121 T := Tp_F tp fr4 (fun k e => by unfold Wgo at e; omega)
      have q14 : (s2 (s2 τ 118 17 (nI i)) 118 19 0) 118 14 = nI n := by rw [s2_off (by omega), s2_off (by omega)]; exact k14
      have q15 : (s2 (s2 τ 118 17 (nI i)) 118 19 0) 118 15 = nI i := by rw [s2_off (by omega), s2_off (by omega)]; exact k15
      have eb := byteAt_f (w := 0) (u := u) tp4 q14 hn (i := i) (by omega)
      rw [← hb] at eb
      unfold f_X11_goes_50
      rw [zi118_15, Option.bind_some, k15, zw118_17, Option.bind_some, wJ, Option.bind_some, zw118_19, Option.bind_some, zi118_15, Option.bind_some, q15, eb, Option.bind_some]
      dsimp only
      rw [zw118_20, Option.bind_some, zi118_15, Option.bind_some, s2_off (by omega), q15, zi118_14, Option.bind_some, s2_off (by omega), q14]
      obtain ⟨τ9, h9⟩ : ∃ τ9, τ9 = s2 (s2 (s2 τ 118 17 (nI i)) 118 19 0) 118 20 (nI b) := ⟨_, rfl⟩
      have fr9 : Fr Wgo σ τ9 := by rw [h9]; exact Fr_st fr4 (by unfold Wgo; omega)
      have g14 : τ9 118 14 = nI n := by rw [h9, s2_off (by omega)]; exact q14
      have g15 : τ9 118 15 = nI i := by rw [h9, s2_off (by omega)]; exact q15
      have g17 : τ9 118 17 = nI i := by rw [h9, s2_off (by omega), s2_off (by omega), s2_at rfl rfl]
      have g19 : τ9 118 19 = nI 0 := by rw [h9, s2_off (by omega), s2_at rfl rfl]; rfl
      have g20 : τ9 118 20 = nI b := by rw [h9, s2_at rfl rfl]
      rw [← h9]
      have tp9 : Tp τ9 121 T := Tp_F tp fr9 (fun k e => by unfold Wgo at e; omega)
      by_cases cn : i < n
      · have ebT : b = T i := by rw [hb, if_pos cn]
        have hb9 : T i < 256 := (tp9 i (by omega)).1
        have eK : K = (if bDig (T i) = true then (i, rn bDig T n 701 i, 1) else if bLet (T i) = true then (i, rn bLet T n 701 i, 2) else (i, i + 1, if bSgn (T i) = true then 3 else 4)) := by
          rw [hK]
          unfold tok
          dsimp only
          rw [es, if_neg (by omega)]
        rw [if_pos ((nI_ltI (by omega) (by omega)).mpr cn), ebT, isLetter_R hb9, Option.bind_some]
        dsimp only
        by_cases cl : bLet (T i) = true
        · have cd : ¬ bDig (T i) = true := fun c => by have h1 := of_decide_eq_true cl; have h2 := of_decide_eq_true c; omega
          rw [if_neg cd, if_pos cl] at eK
          rw [if_pos cl, if_neg (show ¬ nI 1 = 0 by decide)]
          unfold l_X11_goes_108
          refine lp_W (RW (fun τ w => Fr Wgo σ τ ∧ RT τ w T n K) u) (fun st => ∃ j τ, st = (118, mk τ (wd T i (j - i)) u) ∧ Fr Wgo σ τ ∧ τ 118 15 = nI j ∧ i ≤ j ∧ j ≤ n ∧ rn bLet T n 701 j = rn bLet T n 701 i ∧ τ 118 17 = nI i ∧ τ 118 19 = nI 0 ∧ τ 118 20 = nI b) (fun st => m15 n st.2) ?_ _ _ ⟨i, τ9, by rw [Nat.sub_self]; rfl, fr9, g15, Nat.le_refl _, hi, rfl, g17, g19, g20⟩ ?_
          · intro k2 st ⟨j, τ2, est, fr2, j15, hj1, hj2, hr2, j17, j19, j20⟩ hk2
            subst est
            have tp2 : Tp τ2 121 T := Tp_F tp fr2 (fun k e => by unfold Wgo at e; omega)
            have j14 : τ2 118 14 = nI n := by rw [fr2 118 14 (by unfold Wgo; omega)]; exact h14
            have ebj := fun w => byteAt_f (w := w) (u := u) tp2 j14 hn (i := j) (by omega)
            dsimp only
            unfold f_X11_goes_108 f_X11_goes_159 f_X11_goes_172 f_X11_goes_331
            rw [zi118_15, Option.bind_some, j15, ebj, Option.bind_some]
            dsimp only
            by_cases cj : j < n ∧ bLet (T j) = true
            · rw [if_pos cj.1, isLetter_R (tp2 j (by omega)).1, Option.bind_some]
              dsimp only
              rw [if_pos cj.2, if_neg (show ¬ nI 1 = 0 by decide), zi118_15, Option.bind_some, j15, zi118_17, Option.bind_some, j17, pk_sub hj1]
              have ew : wd T i (j + 1 - i) = if j - i < 6 then ((wd T i (j - i)) <<< (Int32.toInt64 5 &&& 63)) ||| Int32.toInt64 (nI (T j) - 96) else wd T i (j - i) := by
                rw [show j + 1 - i = j - i + 1 by omega]
                show (if j - i < 6 then ((wd T i (j - i)) <<< (Int32.toInt64 5 &&& 63)) ||| Int32.toInt64 (nI (T (i + (j - i))) - 96) else wd T i (j - i)) = _
                rw [show i + (j - i) = j by omega]
              have h := hk2 (118, mk (s2 τ2 118 15 (nI (j + 1))) (wd T i (j + 1 - i)) u) ⟨j + 1, _, rfl, Fr_st fr2 (by unfold Wgo; omega), by rw [s2_at rfl rfl], by omega, by omega, by rw [← hr2]; exact (rn_st cj (by omega)).symm, by rw [s2_off (by omega)]; exact j17, by rw [s2_off (by omega)]; exact j19, by rw [s2_off (by omega)]; exact j20⟩ (by dsimp only; rw [m15_e (s2_at rfl rfl) (by omega), m15_e j15 (by omega)]; omega)
              rw [ew] at h
              by_cases c6 : j - i < 6
              · rw [if_pos c6] at h
                rw [if_neg (show ¬ (6 : Int32) ≤ nI (j - i) from nI_ge (b := 6) c6 (by decide)), zi118_21, Option.bind_some, Option.bind_some, ebj, Option.bind_some]
                dsimp only
                rw [if_pos cj.1, wJ, Option.bind_some, zi118_15, Option.bind_some, j15, zw118_15, Option.bind_some, nI_1]
                exact h
              · rw [if_neg c6] at h
                rw [if_pos (show (6 : Int32) ≤ nI (j - i) from nI_le (a := 6) (by omega) (by omega)), Option.bind_some, zw118_15, Option.bind_some, nI_1]
                exact h
            · have ej : rn bLet T n 701 i = j := by
                rw [← hr2]
                show (if j < n ∧ bLet (T j) = true then _ else j) = j
                rw [if_neg cj]
              have hl0 : f_X11_isLetter (nI (if j < n then T j else 0)) (mk τ2 (wd T i (j - i)) u) = some (nI 0, mk τ2 (wd T i (j - i)) u) := by
                by_cases c : j < n
                · rw [if_pos c, isLetter_R (tp2 j (by omega)).1, if_neg (fun h => cj ⟨c, h⟩)]
                · rw [if_neg c, isLetter_R (by omega), if_neg (by decide)]
              rw [hl0, Option.bind_some]
              dsimp only
              rw [if_pos (show nI 0 = 0 from rfl), zw118_16, Option.bind_some, zi118_15, Option.bind_some, s2_off (by omega), j15, zi118_17, Option.bind_some, s2_off (by omega), j17, pk_sub hj1, zw118_18, Option.bind_some]
              refine ⟨_, _, ⟨Fr_st (Fr_st fr2 (by unfold Wgo; omega)) (by unfold Wgo; omega), ?_⟩, rfl⟩
              rw [eK, ej]
              refine ⟨?_, ?_, ?_, ?_, ?_, ?_, ?_⟩
              · rw [s2_off (by omega), s2_off (by omega)]; exact j15
              · rw [s2_off (by omega), s2_at rfl rfl]; rfl
              · rw [s2_off (by omega), s2_off (by omega)]; exact j17
              · rw [s2_at rfl rfl]
              · rw [s2_off (by omega), s2_off (by omega)]; exact j19
              · rw [s2_off (by omega), s2_off (by omega), j20, hb]
              · rfl
          · exact Nat.lt_of_le_of_lt (m15_l _) (by omega)
        · rw [if_neg cl, if_pos (show nI 0 = 0 from rfl), isDigit_R hb9, Option.bind_some]
          dsimp only
          by_cases cd : bDig (T i) = true
          · rw [if_pos cd] at eK
            rw [if_pos cd, if_neg (show ¬ nI 1 = 0 by decide)]
            unfold l_X11_goes_187
            refine lp_W (RW (fun τ w => Fr Wgo σ τ ∧ RT τ w T n K) u) (fun st => ∃ j τ, st = (118, mk τ 0 u) ∧ Fr Wgo σ τ ∧ τ 118 15 = nI j ∧ i ≤ j ∧ j ≤ n ∧ rn bDig T n 701 j = rn bDig T n 701 i ∧ τ 118 17 = nI i ∧ τ 118 19 = nI (vl T i (j - i)) ∧ τ 118 20 = nI b) (fun st => m15 n st.2) ?_ _ _ ⟨i, τ9, rfl, fr9, g15, Nat.le_refl _, hi, rfl, g17, by rw [g19, Nat.sub_self]; rfl, g20⟩ ?_
            · intro k2 st ⟨j, τ2, est, fr2, j15, hj1, hj2, hr2, j17, j19, j20⟩ hk2
              subst est
              have tp2 : Tp τ2 121 T := Tp_F tp fr2 (fun k e => by unfold Wgo at e; omega)
              have j14 : τ2 118 14 = nI n := by rw [fr2 118 14 (by unfold Wgo; omega)]; exact h14
              have ebj := byteAt_f (w := 0) (u := u) tp2 j14 hn (i := j) (by omega)
              dsimp only
              unfold f_X11_goes_187 f_X11_goes_237 f_X11_goes_250 f_X11_goes_331
              rw [zi118_15, Option.bind_some, j15, ebj, Option.bind_some]
              dsimp only
              by_cases cj : j < n ∧ bDig (T j) = true
              · have h48 : 48 ≤ T j ∧ T j ≤ 57 := of_decide_eq_true cj.2
                rw [if_pos cj.1, isDigit_R (tp2 j (by omega)).1, Option.bind_some]
                dsimp only
                rw [if_pos cj.2, if_neg (show ¬ nI 1 = 0 by decide), zi118_15, Option.bind_some, j15, zi118_17, Option.bind_some, j17, pk_sub hj1]
                have ew : vl T i (j + 1 - i) = if j - i < 4 then 10 * vl T i (j - i) + (T j - 48) else vl T i (j - i) := by
                  rw [show j + 1 - i = j - i + 1 by omega]
                  show (if j - i < 4 then 10 * vl T i (j - i) + (T (i + (j - i)) - 48) else vl T i (j - i)) = _
                  rw [show i + (j - i) = j by omega]
                by_cases c4 : j - i < 4
                · rw [if_pos c4] at ew
                  have h := hk2 (118, mk (s2 (s2 τ2 118 19 (nI (10 * vl T i (j - i) + (T j - 48)))) 118 15 (nI (j + 1))) 0 u) ⟨j + 1, _, rfl, Fr_st (Fr_st fr2 (by unfold Wgo; omega)) (by unfold Wgo; omega), by rw [s2_at rfl rfl], by omega, by omega, by rw [← hr2]; exact (rn_st cj (by omega)).symm, by rw [s2_off (by omega), s2_off (by omega)]; exact j17, by rw [s2_off (by omega), s2_at rfl rfl, ew], by rw [s2_off (by omega), s2_off (by omega)]; exact j20⟩ (by dsimp only; rw [m15_e (s2_at rfl rfl) (by omega), m15_e j15 (by omega)]; omega)
                  rw [if_neg (show ¬ (4 : Int32) ≤ nI (j - i) from nI_ge (b := 4) c4 (by decide)), zi118_19, Option.bind_some, j19, Option.bind_some, ebj, Option.bind_some]
                  dsimp only
                  rw [if_pos cj.1, show (10 : Int32) * nI (vl T i (j - i)) = nI (10 * vl T i (j - i)) from pk_mul 10 _, nI_add, show nI (10 * vl T i (j - i) + T j) - (48 : Int32) = nI (10 * vl T i (j - i) + (T j - 48)) from by rw [show 10 * vl T i (j - i) + (T j - 48) = 10 * vl T i (j - i) + T j - 48 by omega]; exact pk_sub (b := 48) (by omega), zw118_19, Option.bind_some, zi118_15, Option.bind_some, s2_off (by omega), j15, zw118_15, Option.bind_some, nI_1]
                  exact h
                · rw [if_neg c4] at ew
                  have h := hk2 (118, mk (s2 τ2 118 15 (nI (j + 1))) 0 u) ⟨j + 1, _, rfl, Fr_st fr2 (by unfold Wgo; omega), by rw [s2_at rfl rfl], by omega, by omega, by rw [← hr2]; exact (rn_st cj (by omega)).symm, by rw [s2_off (by omega)]; exact j17, by rw [s2_off (by omega), ew]; exact j19, by rw [s2_off (by omega)]; exact j20⟩ (by dsimp only; rw [m15_e (s2_at rfl rfl) (by omega), m15_e j15 (by omega)]; omega)
                  rw [if_pos (show (4 : Int32) ≤ nI (j - i) from nI_le (a := 4) (by omega) (by omega)), Option.bind_some, zw118_15, Option.bind_some, nI_1]
                  exact h
              · have ej : rn bDig T n 701 i = j := by
                  rw [← hr2]
                  show (if j < n ∧ bDig (T j) = true then _ else j) = j
                  rw [if_neg cj]
                have hl0 : f_X11_isDigit (nI (if j < n then T j else 0)) (mk τ2 0 u) = some (nI 0, mk τ2 0 u) := by
                  by_cases c : j < n
                  · rw [if_pos c, isDigit_R (tp2 j (by omega)).1, if_neg (fun h => cj ⟨c, h⟩)]
                  · rw [if_neg c, isDigit_R (by omega), if_neg (by decide)]
                rw [hl0, Option.bind_some]
                dsimp only
                rw [if_pos (show nI 0 = 0 from rfl), zw118_16, Option.bind_some, zi118_15, Option.bind_some, s2_off (by omega), j15, zi118_17, Option.bind_some, s2_off (by omega), j17, pk_sub hj1, zw118_18, Option.bind_some]
                refine ⟨_, _, ⟨Fr_st (Fr_st fr2 (by unfold Wgo; omega)) (by unfold Wgo; omega), ?_⟩, rfl⟩
                rw [eK, ej]
                refine ⟨?_, ?_, ?_, ?_, ?_, ?_, ?_⟩
                · rw [s2_off (by omega), s2_off (by omega)]; exact j15
                · rw [s2_off (by omega), s2_at rfl rfl]; rfl
                · rw [s2_off (by omega), s2_off (by omega)]; exact j17
                · rw [s2_at rfl rfl]
                · rw [s2_off (by omega), s2_off (by omega)]; exact j19
                · rw [s2_off (by omega), s2_off (by omega), j20, hb]
                · rfl
            · exact Nat.lt_of_le_of_lt (m15_l _) (by omega)
          · rw [if_neg cd, if_neg cl] at eK
            have go : ∀ kd, (kd = 3 ∧ bSgn (T i) = true ∨ kd = 4 ∧ ¬ bSgn (T i) = true) → RW (fun τ w => Fr Wgo σ τ ∧ RT τ w T n K) u (f_X11_goes_328 118 118 (nI kd) (mk (s2 τ9 118 15 (nI (i + 1))) 0 u)) := by
              intro kd hkd
              unfold f_X11_goes_328 f_X11_goes_331
              rw [zw118_16, Option.bind_some, zi118_15, Option.bind_some, s2_off (by omega), s2_at rfl rfl, zi118_17, Option.bind_some, s2_off (by omega), s2_off (by omega), g17, pk_sub (by omega), zw118_18, Option.bind_some]
              refine ⟨_, _, ⟨Fr_st (Fr_st (Fr_st fr9 (by unfold Wgo; omega)) (by unfold Wgo; omega)) (by unfold Wgo; omega), ?_⟩, rfl⟩
              have eK2 : K = (i, i + 1, kd) := by
                rw [eK]
                rcases hkd with ⟨h1, h2⟩ | ⟨h1, h2⟩
                · rw [if_pos h2, h1]
                · rw [if_neg h2, h1]
              have h34 : kd = 3 ∨ kd = 4 := by rcases hkd with h | h; exact Or.inl h.1; exact Or.inr h.1
              rw [eK2]
              refine ⟨?_, ?_, ?_, ?_, ?_, ?_, ?_⟩
              · rw [s2_off (by omega), s2_off (by omega), s2_at rfl rfl]
              · rw [s2_off (by omega), s2_at rfl rfl]
                unfold srt
                dsimp only
                rw [if_neg (by omega), if_neg (by omega)]
              · rw [s2_off (by omega), s2_off (by omega), s2_off (by omega)]; exact g17
              · rw [s2_at rfl rfl]
              · dsimp only
                rw [s2_off (by omega), s2_off (by omega), s2_off (by omega), if_neg (by omega)]; exact g19
              · rw [s2_off (by omega), s2_off (by omega), s2_off (by omega), g20, hb]
              · dsimp only
                rw [if_neg (by omega)]
            have ne : ∀ c : Nat, c < 256 → T i ≠ c → ¬ nI (T i) = nI c := fun c hc h e => h ((nI_eq (by omega) (by omega)).mp e)
            have sg : ∀ c : Nat, T i = c → bSgn c = true → RW (fun τ w => Fr Wgo σ τ ∧ RT τ w T n K) u (f_X11_goes_323 118 118 (mk (s2 τ9 118 15 (nI (i + 1))) 0 u)) := fun c h1 h2 => go 3 (Or.inl ⟨rfl, by rw [h1]; exact h2⟩)
            rw [if_neg cd, if_pos (show nI 0 = 0 from rfl), zi118_15, Option.bind_some, g15, zw118_15, Option.bind_some, nI_1]
            by_cases c1 : T i = 59
            · rw [if_pos (show nI (T i) = 59 by rw [c1]; rfl)]; exact sg _ c1 (by decide)
            rw [if_neg (show ¬ nI (T i) = 59 from ne 59 (by omega) c1)]
            by_cases c2 : T i = 40
            · rw [if_pos (show nI (T i) = 40 by rw [c2]; rfl)]; exact sg _ c2 (by decide)
            rw [if_neg (show ¬ nI (T i) = 40 from ne 40 (by omega) c2)]
            by_cases c3 : T i = 41
            · rw [if_pos (show nI (T i) = 41 by rw [c3]; rfl)]; exact sg _ c3 (by decide)
            rw [if_neg (show ¬ nI (T i) = 41 from ne 41 (by omega) c3)]
            by_cases c4 : T i = 43
            · rw [if_pos (show nI (T i) = 43 by rw [c4]; rfl)]; exact sg _ c4 (by decide)
            rw [if_neg (show ¬ nI (T i) = 43 from ne 43 (by omega) c4)]
            by_cases c5 : T i = 45
            · rw [if_pos (show nI (T i) = 45 by rw [c5]; rfl)]; exact sg _ c5 (by decide)
            rw [if_neg (show ¬ nI (T i) = 45 from ne 45 (by omega) c5)]
            by_cases c6 : T i = 42
            · rw [if_pos (show nI (T i) = 42 by rw [c6]; rfl)]; exact sg _ c6 (by decide)
            rw [if_neg (show ¬ nI (T i) = 42 from ne 42 (by omega) c6)]
            by_cases c7 : T i = 47
            · rw [if_pos (show nI (T i) = 47 by rw [c7]; rfl)]; exact sg _ c7 (by decide)
            rw [if_neg (show ¬ nI (T i) = 47 from ne 47 (by omega) c7)]
            by_cases c8 : T i = 60
            · rw [if_pos (show nI (T i) = 60 by rw [c8]; rfl)]; exact sg _ c8 (by decide)
            rw [if_neg (show ¬ nI (T i) = 60 from ne 60 (by omega) c8)]
            by_cases c9 : T i = 61
            · rw [if_pos (show nI (T i) = 61 by rw [c9]; rfl)]; exact sg _ c9 (by decide)
            rw [if_neg (show ¬ nI (T i) = 61 from ne 61 (by omega) c9)]
            exact go 4 (Or.inr ⟨rfl, fun h => by have := of_decide_eq_true h; omega⟩)
      · have eK : K = (i, i, 0) := by
          rw [hK]
          unfold tok
          dsimp only
          rw [es, if_pos (by omega)]
        unfold f_X11_goes_331
        rw [if_neg (fun e => cn ((nI_ltI (by omega) (by omega)).mp e)), zw118_16, Option.bind_some, zi118_15, Option.bind_some, s2_off (by omega), g15, zi118_17, Option.bind_some, s2_off (by omega), g17, pk_sub (Nat.le_refl _), zw118_18, Option.bind_some]
        refine ⟨_, _, ⟨Fr_st (Fr_st fr9 (by unfold Wgo; omega)) (by unfold Wgo; omega), ?_⟩, rfl⟩
        rw [eK]
        refine ⟨?_, ?_, ?_, ?_, ?_, ?_, ?_⟩
        · rw [s2_off (by omega), s2_off (by omega)]; exact g15
        · rw [s2_off (by omega), s2_at rfl rfl]; rfl
        · rw [s2_off (by omega), s2_off (by omega)]; exact g17
        · rw [s2_at rfl rfl]
        · rw [s2_off (by omega), s2_off (by omega)]; exact g19
        · rw [s2_off (by omega), s2_off (by omega), g20, hb]
        · rfl
    have ebi := byteAt_f (w := w) (u := u) tp1 k14 hn (i := i) (by omega)
    dsimp only
    unfold f_X11_goes_0 f_X11_goes_37
    rw [zi118_15, Option.bind_some, zi118_14, Option.bind_some, k15, k14]
    have adv : i < n ∧ bBlk (T i) = true → RW (fun τ w => Fr Wgo σ τ ∧ RT τ w T n K) u (k (118, mk (s2 τ 118 15 (nI (i + 1))) w u)) := fun c => by
      refine hk _ ⟨i + 1, _, w, rfl, Fr_st fr (by unfold Wgo; omega), by rw [s2_at rfl rfl], by omega, by rw [← hr]; exact (rn_st c (by omega)).symm⟩ ?_
      dsimp only
      rw [m15_e (s2_at rfl rfl) (by omega), m15_e k15 (by omega)]
      omega
    by_cases cn : i < n
    · rw [if_pos cn] at ebi
      rw [if_neg (nI_ge cn (by omega)), Option.bind_some, ebi, Option.bind_some]
      dsimp only
      have hTi := (tp1 i (by omega)).1
      by_cases c32 : T i = 32
      · rw [if_pos (show nI (T i) = 32 by rw [c32]; rfl), zi118_15, Option.bind_some, k15, zw118_15, Option.bind_some, nI_1]
        exact adv ⟨cn, by rw [c32]; decide⟩
      · rw [if_neg (show ¬ nI (T i) = 32 from fun e => c32 ((nI_eq (b := 32) (by omega) (by decide)).mp e)), zi118_15, Option.bind_some, k15, ebi, Option.bind_some]
        dsimp only
        by_cases c10 : T i = 10
        · rw [if_pos (show nI (T i) = 10 by rw [c10]; rfl), zi118_15, Option.bind_some, k15, zw118_15, Option.bind_some, nI_1]
          exact adv ⟨cn, by rw [c10]; decide⟩
        · rw [if_neg (show ¬ nI (T i) = 10 from fun e => c10 ((nI_eq (b := 10) (by omega) (by decide)).mp e))]
          exact fin (fun c => by have := of_decide_eq_true c.2; omega)
    · rw [if_pos (nI_le (by omega) (by omega))]
      exact fin (fun c => cn c.1)
  · exact Nat.lt_of_le_of_lt (m15_l _) (by omega)
end GO
