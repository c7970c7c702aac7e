/-! L3: the class's next token -/
section AV
variable {σ τ : Nat → Nat → Int32} {w u : Int64} {T : Nat → Nat} {n : Nat}
def Tp (τ : Nat → Nat → Int32) (q : Nat) (T : Nat → Nat) : Prop := ∀ i, i < 700 → T i < 256 ∧ τ q i = nI (T i)
def CT (τ : Nat → Nat → Int32) (T : Nat → Nat) (K : Nat × Nat × Nat) : Prop := τ 80 6 = nI K.2.1 ∧ τ 80 7 = nI K.2.2 ∧ τ 80 8 = nI K.1 ∧ τ 80 9 = nI (if K.2.2 = 1 then nm T K.1 (K.2.1 - K.1) else 0)
def Wad (q k : Nat) : Prop := q = 80 ∧ 6 ≤ k ∧ k ≤ 9
theorem nm_le (T : Nat → Nat) (s : Nat) : ∀ j, nm T s j ≤ 10000 := by
  intro j
  cases j with
  | zero => exact Nat.zero_le _
  | succ j => exact Nat.min_le_right _ _
theorem tape_at (tp : Tp τ 2 T) {i : Nat} (hi : i ≤ 700) : ∃ b, b < 256 ∧ (i < 700 → b = T i) ∧ f_X2_at 1 (nI i) (mk τ w u) = some (nI b, mk τ w u) := by
  by_cases c : i < 700
  · exact ⟨T i, (tp i c).1, fun _ => rfl, by rw [zt1 c, (tp i c).2]⟩
  · exact ⟨0, by omega, fun h => absurd h c, C_atB zC1 (by omega) (by omega)⟩
theorem Tp_F {W : Nat → Nat → Prop} {q : Nat} (tp : Tp σ q T) (fr : Fr W σ τ) (hw : ∀ k, ¬ W q k) : Tp τ q T := fun i hi => ⟨(tp i hi).1, by rw [fr q i (hw i)]; exact (tp i hi).2⟩
theorem advance_f (tp : Tp σ 2 T) (hn : n ≤ 700) (h2 : σ 80 2 = nI 0) (h5 : σ 80 5 = nI n) {e : Nat} (h6 : σ 80 6 = nI e) (he : e ≤ n) : RN (fun τ => Fr Wad σ τ ∧ CT τ T (tok T n e)) w u (f_X5_advance 80 (mk σ w u)) := by
  unfold f_X5_advance
  rw [zg80, zi80_2, Option.bind_some, h2, if_pos (show nI 0 = 0 from rfl)]
  obtain ⟨K, hK⟩ : ∃ K, K = tok T n e := ⟨_, rfl⟩
  rw [← hK]
  unfold l_X5_advance_8
  refine lp_W (RN (fun τ => Fr Wad σ τ ∧ CT τ T K) w u) (fun st => ∃ i τ, st = (80, mk τ w u) ∧ Fr Wad σ τ ∧ τ 80 6 = nI i ∧ i ≤ n ∧ rn bBlk T n 701 i = rn bBlk T n 701 e) (fun st => match rd_I st.2 80 5 6 with | some v => n - v.toNatClampNeg | none => 0) ?_ _ _ ⟨e, σ, rfl, Fr_r _ _, h6, he, rfl⟩ ?_
  · intro k st ⟨i, τ, est, fr, k6, hi, hr⟩ hk
    subst est
    have tp1 : Tp τ 2 T := Tp_F tp fr (fun k e => by unfold Wad at e; omega)
    have k5 : τ 80 5 = nI n := by rw [fr 80 5 (by unfold Wad; omega)]; exact h5
    have fin : ¬ (i < n ∧ bBlk (T i) = true) → RN (fun τ => Fr Wad σ τ ∧ CT τ T K) w u (f_X5_advance_49 80 (mk τ w u)) := by
      intro hne
      have es : rn bBlk T n 701 e = i := by
        rw [← hr]
        show (if i < n ∧ bBlk (T i) = true then _ else i) = i
        rw [if_neg hne]
      obtain ⟨b, hb, hbT, eb⟩ := tape_at (w := w) (u := u) (Tp_F (τ := s2 (s2 τ 80 8 (nI i)) 80 9 0) tp1 (Fr_st (Fr_s (W := fun q _ => q = 80) rfl) rfl) (fun k e => by omega)) (i := i) (by omega)
      have g6 : (s2 (s2 τ 80 8 (nI i)) 80 9 0) 80 6 = nI i := by rw [s2_off (by omega), s2_off (by omega)]; exact k6
      have g5 : (s2 (s2 τ 80 8 (nI i)) 80 9 0) 80 5 = nI n := by rw [s2_off (by omega), s2_off (by omega)]; exact k5
      have fr9 : Fr Wad σ (s2 (s2 τ 80 8 (nI i)) 80 9 0) := Fr_st (Fr_st fr (by unfold Wad; omega)) (by unfold Wad; omega)
      unfold f_X5_advance_49 f_X5_advance_260
      rw [zi80_6, Option.bind_some, k6, zw80_8, Option.bind_some, zw80_9, Option.bind_some, zr80_4, Option.bind_some, zi80_6, Option.bind_some, g6, eb, Option.bind_some]
      dsimp only
      rw [zi80_6, Option.bind_some, g6, zi80_5, Option.bind_some, g5]
      obtain ⟨τ9, h9⟩ : ∃ τ9, τ9 = s2 (s2 τ 80 8 (nI i)) 80 9 0 := ⟨_, rfl⟩
      have g8 : τ9 80 8 = nI i := by rw [h9, s2_off (by omega), s2_at rfl rfl]
      have g9 : τ9 80 9 = nI 0 := by rw [h9, s2_at rfl rfl]; rfl
      rw [← h9] at g6 g5 fr9 ⊢
      have tp9 : Tp τ9 2 T := Tp_F tp fr9 (fun k e => by unfold Wad at e; omega)
      by_cases cn : i < n
      · have ebT : b = T i := hbT (by omega)
        have eK : K = (if bDig (T i) = true then (i, rn bDig T n 701 i, 1) else if bLet (T i) = true then (i, rn bLet T n 701 i, 2) else (i, i + 1, if bSgn (T i) = true then 3 else 4)) := by
          rw [hK]
          unfold tok
          dsimp only
          rw [es, if_neg (by omega)]
        rw [if_pos ((nI_ltI (by omega) (by omega)).mpr cn), isDigit_f hb, Option.bind_some]
        dsimp only
        rw [ebT]
        by_cases cd : bDig (T i) = true
        · rw [if_pos cd] at eK
          rw [if_pos cd, if_neg (show ¬ nI 1 = 0 by decide), zw80_7, Option.bind_some]
          unfold l_X5_advance_105
          refine lp_W (RN (fun τ => Fr Wad σ τ ∧ CT τ T K) w u) (fun st => ∃ j τ, st = (80, mk τ w u) ∧ Fr Wad σ τ ∧ τ 80 6 = nI j ∧ i ≤ j ∧ j ≤ n ∧ rn bDig T n 701 j = rn bDig T n 701 i ∧ τ 80 7 = nI 1 ∧ τ 80 8 = nI i ∧ τ 80 9 = nI (nm T i (j - i))) (fun st => match rd_I st.2 80 5 6 with | some v => n - v.toNatClampNeg | none => 0) ?_ _ _ ⟨i, s2 τ9 80 7 1, rfl, Fr_st fr9 (by unfold Wad; omega), by rw [s2_off (by omega)]; exact g6, Nat.le_refl _, hi, rfl, by rw [s2_at rfl rfl]; rfl, by rw [s2_off (by omega)]; exact g8, by rw [s2_off (by omega), g9, Nat.sub_self]; rfl⟩ ?_
          · intro k2 st ⟨j, τ2, est, fr2, j6, hj1, hj2, hr2, j7, j8, j9⟩ hk2
            subst est
            have tp2 : Tp τ2 2 T := Tp_F tp fr2 (fun k e => by unfold Wad at e; omega)
            have j5 : τ2 80 5 = nI n := by rw [fr2 80 5 (by unfold Wad; omega)]; exact h5
            have done : ¬ (j < n ∧ bDig (T j) = true) → RN (fun τ => Fr Wad σ τ ∧ CT τ T K) w u (some (mk τ2 w u)) := by
              intro hne2
              have ej : rn bDig T n 701 i = j := by
                rw [← hr2]
                show (if j < n ∧ bDig (T j) = true then _ else j) = j
                rw [if_neg hne2]
              refine ⟨τ2, ⟨fr2, ?_⟩, rfl⟩
              rw [eK, ej]
              exact ⟨j6, j7, j8, by rw [if_pos rfl]; exact j9⟩
            dsimp only
            unfold f_X5_advance_105 f_X5_advance_260
            rw [zi80_6, Option.bind_some, zi80_5, Option.bind_some, j6, j5]
            by_cases cj : j < n
            · rw [if_neg (nI_ge cj (by omega)), zr80_4, Option.bind_some, Option.bind_some, zt1 (by omega), (tp2 j (by omega)).2, Option.bind_some]
              dsimp only
              rw [isDigit_f (tp2 j (by omega)).1, Option.bind_some]
              dsimp only
              by_cases cd2 : bDig (T j) = true
              · have h48 : 48 ≤ T j ∧ T j ≤ 57 := of_decide_eq_true cd2
                have hml := nm_le T i (j - i)
                rw [if_pos cd2, if_neg (show ¬ nI 1 = 0 by decide), zi80_9, Option.bind_some, j9, zr80_4, Option.bind_some, zi80_6, Option.bind_some, j6, zt1 (by omega), (tp2 j (by omega)).2, Option.bind_some]
                dsimp only
                rw [show (10 : Int32) * nI (nm T i (j - i)) = nI (10 * nm T i (j - i)) from pk_mul 10 _, nI_add, show nI (10 * nm T i (j - i) + T j) - (48 : Int32) = nI (10 * nm T i (j - i) + T j - 48) from pk_sub (b := 48) (by omega), show hp_min (nI (10 * nm T i (j - i) + T j - 48)) 10000 = nI (min (10 * nm T i (j - i) + T j - 48) 10000) from hp_min_nI (b := 10000) (by omega) (by decide), zw80_9, Option.bind_some, zi80_6, Option.bind_some, s2_off (by omega), j6, zw80_6, Option.bind_some, nI_1]
                have en : nm T i (j + 1 - i) = min (10 * nm T i (j - i) + T j - 48) 10000 := by
                  rw [show j + 1 - i = j - i + 1 by omega]
                  show min (10 * nm T i (j - i) + (T (i + (j - i)) - 48)) 10000 = _
                  rw [show i + (j - i) = j by omega, show 10 * nm T i (j - i) + (T j - 48) = 10 * nm T i (j - i) + T j - 48 by omega]
                refine hk2 _ ⟨j + 1, _, rfl, Fr_st (Fr_st fr2 (by unfold Wad; omega)) (by unfold Wad; omega), by rw [s2_at rfl rfl], by omega, by omega, by rw [← hr2]; exact (rn_st ⟨cj, cd2⟩ (by omega)).symm, by rw [s2_off (by omega), s2_off (by omega)]; exact j7, by rw [s2_off (by omega), s2_off (by omega)]; exact j8, by rw [s2_off (by omega), s2_at rfl rfl, en]⟩ ?_
                dsimp only
                rw [zi80_6, zi80_6, s2_at rfl rfl, j6]
                dsimp only
                rw [nI_clamp (by omega), nI_clamp (by omega)]
                omega
              · rw [if_neg cd2, if_pos (show nI 0 = 0 from rfl)]
                exact done (fun c => cd2 c.2)
            · rw [if_pos (nI_le (by omega) (by omega))]
              exact done (fun c => cj c.1)
          · dsimp only
            rw [zi80_6]
            dsimp only
            omega
        · rw [if_neg cd] at eK
          rw [if_neg cd, if_pos (show nI 0 = 0 from rfl), isLetter_f (by rw [← ebT]; exact hb), Option.bind_some]
          dsimp only
          by_cases cl : bLet (T i) = true
          · rw [if_pos cl] at eK
            rw [if_pos cl, if_neg (show ¬ nI 1 = 0 by decide), zw80_7, Option.bind_some]
            unfold l_X5_advance_190
            refine lp_W (RN (fun τ => Fr Wad σ τ ∧ CT τ T K) w u) (fun st => ∃ j τ, st = (80, mk τ w u) ∧ Fr Wad σ τ ∧ τ 80 6 = nI j ∧ i ≤ j ∧ j ≤ n ∧ rn bLet T n 701 j = rn bLet T n 701 i ∧ τ 80 7 = nI 2 ∧ τ 80 8 = nI i ∧ τ 80 9 = nI 0) (fun st => match rd_I st.2 80 5 6 with | some v => n - v.toNatClampNeg | none => 0) ?_ _ _ ⟨i, s2 τ9 80 7 2, rfl, Fr_st fr9 (by unfold Wad; omega), by rw [s2_off (by omega)]; exact g6, Nat.le_refl _, hi, rfl, by rw [s2_at rfl rfl]; rfl, by rw [s2_off (by omega)]; exact g8, by rw [s2_off (by omega)]; exact g9⟩ ?_
            · intro k2 st ⟨j, τ2, est, fr2, j6, hj1, hj2, hr2, j7, j8, j9⟩ hk2
              subst est
              have tp2 : Tp τ2 2 T := Tp_F tp fr2 (fun k e => by unfold Wad at e; omega)
              have j5 : τ2 80 5 = nI n := by rw [fr2 80 5 (by unfold Wad; omega)]; exact h5
              have done : ¬ (j < n ∧ bLet (T j) = true) → RN (fun τ => Fr Wad σ τ ∧ CT τ T K) w u (some (mk τ2 w u)) := by
                intro hne2
                have ej : rn bLet T n 701 i = j := by
                  rw [← hr2]
                  show (if j < n ∧ bLet (T j) = true then _ else j) = j
                  rw [if_neg hne2]
                refine ⟨τ2, ⟨fr2, ?_⟩, rfl⟩
                rw [eK, ej]
                exact ⟨j6, j7, j8, by dsimp only; rw [if_neg (by decide)]; exact j9⟩
              dsimp only
              unfold f_X5_advance_190 f_X5_advance_260
              rw [zi80_6, Option.bind_some, zi80_5, Option.bind_some, j6, j5]
              by_cases cj : j < n
              · rw [if_neg (nI_ge cj (by omega)), zr80_4, Option.bind_some, Option.bind_some, zt1 (by omega), (tp2 j (by omega)).2, Option.bind_some]
                dsimp only
                rw [isLetter_f (tp2 j (by omega)).1, Option.bind_some]
                dsimp only
                by_cases cd2 : bLet (T j) = true
                · rw [if_pos cd2, if_neg (show ¬ nI 1 = 0 by decide), zi80_6, Option.bind_some, j6, zw80_6, Option.bind_some, nI_1]
                  refine hk2 _ ⟨j + 1, _, rfl, Fr_st fr2 (by unfold Wad; omega), by rw [s2_at rfl rfl], by omega, by omega, by rw [← hr2]; exact (rn_st ⟨cj, cd2⟩ (by omega)).symm, by rw [s2_off (by omega)]; exact j7, by rw [s2_off (by omega)]; exact j8, by rw [s2_off (by omega)]; exact j9⟩ ?_
                  dsimp only
                  rw [zi80_6, zi80_6, s2_at rfl rfl, j6]
                  dsimp only
                  rw [nI_clamp (by omega), nI_clamp (by omega)]
                  omega
                · rw [if_neg cd2, if_pos (show nI 0 = 0 from rfl)]
                  exact done (fun c => cd2 c.2)
              · rw [if_pos (nI_le (by omega) (by omega))]
                exact done (fun c => cj c.1)
            · dsimp only
              rw [zi80_6]
              dsimp only
              omega
          · rw [if_neg cl] at eK
            obtain ⟨r, er, hr3⟩ := signs_f (b := T i) (by rw [← ebT]; exact hb) (mk τ9 w u)
            rw [if_neg cl, if_pos (show nI 0 = 0 from rfl), er, Option.bind_some]
            dsimp only
            unfold f_X5_advance_247 f_X5_advance_260
            by_cases cs : bSgn (T i) = true
            · rw [if_pos cs] at eK
              rw [if_neg (fun e => (hr3.mp e) cs), zw80_7, Option.bind_some, zi80_6, Option.bind_some, s2_off (by omega), g6, zw80_6, Option.bind_some, nI_1]
              refine ⟨_, ⟨Fr_st (Fr_st fr9 (by unfold Wad; omega)) (by unfold Wad; omega), ?_⟩, rfl⟩
              rw [eK]
              exact ⟨by rw [s2_at rfl rfl], by rw [s2_off (by omega), s2_at rfl rfl]; rfl, by rw [s2_off (by omega), s2_off (by omega)]; exact g8, by dsimp only; rw [s2_off (by omega), s2_off (by omega), if_neg (by decide)]; exact g9⟩
            · rw [if_neg cs] at eK
              rw [if_pos (hr3.mpr cs), zw80_7, Option.bind_some, zi80_6, Option.bind_some, s2_off (by omega), g6, zw80_6, Option.bind_some, nI_1]
              refine ⟨_, ⟨Fr_st (Fr_st fr9 (by unfold Wad; omega)) (by unfold Wad; omega), ?_⟩, rfl⟩
              rw [eK]
              exact ⟨by rw [s2_at rfl rfl], by rw [s2_off (by omega), s2_at rfl rfl]; rfl, by rw [s2_off (by omega), s2_off (by omega)]; exact g8, by dsimp only; rw [s2_off (by omega), s2_off (by omega), if_neg (by decide)]; exact g9⟩
      · have eK : K = (i, i, 0) := by
          rw [hK]
          unfold tok
          dsimp only
          rw [es, if_pos (by omega)]
        rw [if_neg (fun e => cn ((nI_ltI (by omega) (by omega)).mp e)), zw80_7, Option.bind_some]
        refine ⟨_, ⟨Fr_st fr9 (by unfold Wad; omega), ?_⟩, rfl⟩
        rw [eK]
        exact ⟨by rw [s2_off (by omega)]; exact g6, by rw [s2_at rfl rfl]; rfl, by rw [s2_off (by omega)]; exact g8, by dsimp only; rw [s2_off (by omega), if_neg (by decide)]; exact g9⟩
    dsimp only
    unfold f_X5_advance_8
    rw [zi80_6, Option.bind_some, zi80_5, Option.bind_some, k6, k5]
    by_cases cn : i < n
    · rw [if_neg (nI_ge cn (by omega)), zr80_4, Option.bind_some, Option.bind_some, zt1 (by omega), (tp1 i (by omega)).2, Option.bind_some]
      dsimp only
      rw [isBlank_f (tp1 i (by omega)).1, Option.bind_some]
      dsimp only
      by_cases cb : bBlk (T i) = true
      · rw [if_pos cb, if_neg (show ¬ nI 1 = 0 by decide), zi80_6, Option.bind_some, k6, zw80_6, Option.bind_some, nI_1]
        refine hk _ ⟨i + 1, _, rfl, Fr_st fr (by unfold Wad; omega), by rw [s2_at rfl rfl], by omega, by rw [← hr]; exact (rn_st ⟨cn, cb⟩ (by omega)).symm⟩ ?_
        dsimp only
        rw [zi80_6, zi80_6, s2_at rfl rfl, k6]
        dsimp only
        rw [nI_clamp (by omega), nI_clamp (by omega)]
        omega
      · rw [if_neg cb, if_pos (show nI 0 = 0 from rfl)]
        exact fin (fun c => cb c.2)
    · rw [if_pos (nI_le (by omega) (by omega))]
      exact fin (fun c => cn c.1)
  · dsimp only
    rw [zi80_6]
    dsimp only
    omega
end AV
