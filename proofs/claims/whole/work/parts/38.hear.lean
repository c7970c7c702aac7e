/-! L3: what is heard in the class -/
section MB
variable {σ : Nat → Nat → Int32} {w u : Int64} {m i : Nat} {A X : Nat → Nat} {P : List (Nat × Nat)} {v : Int32}
theorem W10_c {σ σ' : Nat → Nat → Int32} (h : Fr W10 σ σ') : Fr Wc σ σ' := Fr_m h (fun _ _ e => Or.inl e)
theorem hearsBeat_f (cv : CV σ m A P X) {beat ab bs mud last : Nat} (hb1 : beat < 12) (hab : ab < 256) (hbs : bs < 256) (hmu : mud < 1000) : ∃ σ', Fr Wc σ σ' ∧ f_X3_hearsBeat m (nI beat) (nI ab) (nI bs) (nI mud) (nI last) (mk σ w u) = some (nI (hb A P X ab bs mud beat last), mk σ' w u) := by
  have hM := CV_M cv; have hT := CV_b cv; have cv2 := cv; obtain ⟨hm, ⟨⟨hA0, hA1, hA2, hA3, hA4⟩, hA7, hrl, hrn, hrc⟩, ⟨hN, hX⟩, ⟨hB1, hB2, hM8, hR8, hS12, hnm, hmd⟩, ⟨hN2, hW, hD⟩, hP⟩ := cv2
  have hls : ls X beat ab (A 1) ≤ 72 := Nat.le_trans (ls_le (fun i hi => (hT i (by omega)).2.1)) (by omega)
  unfold hb
  by_cases h0 : P = []
  · refine ⟨σ, Fr_r _ _, ?_⟩
    rw [if_pos h0]
    have hl0 : σ 8 3 = nI 0 := by rw [hrl, h0]; rfl
    by_cases h1 : ls X beat ab (A 1) ≤ mud
    · simp (disch := omega) only [f_X3_hearsBeat_109, f_X3_hearsBeat_37, f_X3_hearsBeat, l0, l1, l2, l3, l4, l5, l6, l7, l8, l9, l10, l11, l12, l13, l14, l15, l16, l17, l18, l19, l20, l21, l22, l23, l24, l25, l33, l34, l40, l42, l50, l58, l99, l100, l700, l999, l4095, l9999, l10000, x_neg1, nI_add, x_pred, x_m1, x_J1, pk_sub, nJ_pos, Nat.add_sub_cancel, nI_leI, nI_ltI, nI_eq, q_leJ, q_Jle, q_ltJ, q_Jlt, q_eqJ, q_Jeq, q_JJ, q_JJle, q_JJlt, Option.bind_some, if_pos, if_neg, ↓reduceIte, M_a hM, M_n hM, M_wn hM, M_t hM, M_l hM, M_o hM, M_s hM, M_g hM, M_tt hM, M_tl hM, M_to hM, M_ts hM, M_st hM, M_sl hM, M_so hM, M_ss hM, zi5_0, zi5_1, zi5_2, zi5_3, zi5_4, zr5_5, zr5_6, zt6, zg5, zg8, hA0, hA1, hA2, hA3, hA4, CV_t cv, CV_l cv, CV_o cv, CV_s cv, loudAt_f cv, zi8_3, hl0]
    · simp (disch := omega) only [f_X3_hearsBeat_109, f_X3_hearsBeat_37, f_X3_hearsBeat, l0, l1, l2, l3, l4, l5, l6, l7, l8, l9, l10, l11, l12, l13, l14, l15, l16, l17, l18, l19, l20, l21, l22, l23, l24, l25, l33, l34, l40, l42, l50, l58, l99, l100, l700, l999, l4095, l9999, l10000, x_neg1, nI_add, x_pred, x_m1, x_J1, pk_sub, nJ_pos, Nat.add_sub_cancel, nI_leI, nI_ltI, nI_eq, q_leJ, q_Jle, q_ltJ, q_Jlt, q_eqJ, q_Jeq, q_JJ, q_JJle, q_JJlt, Option.bind_some, if_pos, if_neg, ↓reduceIte, M_a hM, M_n hM, M_wn hM, M_t hM, M_l hM, M_o hM, M_s hM, M_g hM, M_tt hM, M_tl hM, M_to hM, M_ts hM, M_st hM, M_sl hM, M_so hM, M_ss hM, zi5_0, zi5_1, zi5_2, zi5_3, zi5_4, zr5_5, zr5_6, zt6, zg5, zg8, hA0, hA1, hA2, hA3, hA4, CV_t cv, CV_l cv, CV_o cv, CV_s cv, loudAt_f cv, zi8_3, hl0]
  · rw [if_neg h0]
    have hok : okP P 0 := by
      rcases hP with h | h
      · exact absurd h h0
      · exact h
    have hlen : 0 < P.length := by
      cases P with
      | nil => exact absurd rfl h0
      | cons a b => exact Nat.succ_pos _
    have cv1 : CV (s2 σ 14 0 (nI (ls X beat ab (A 1)))) m A P X := CV_fr cv (Fr_s (Or.inr rfl))
    have f6 : Fr Wc σ (s2 (s2 (s2 (s2 (s2 (s2 σ 14 0 (nI (ls X beat ab (A 1)))) 14 1 (nI (ls X beat bs (A 1)))) 14 2 (nI mud)) 14 3 (nI beat)) 14 4 (nI (pc ab 12))) 14 5 (nI last)) := Fr_st (Fr_st (Fr_st (Fr_st (Fr_st (Fr_s (Or.inr rfl)) (Or.inr rfl)) (Or.inr rfl)) (Or.inr rfl)) (Or.inr rfl)) (Or.inr rfl)
    obtain ⟨-, ⟨-, -, r1, r2, r3⟩, -⟩ := CV_fr cv f6
    obtain ⟨σ', h1, h2⟩ := answer_f (w := w) (u := u) (vl := vals A X ab bs mud beat last) r1 r2 r3 hok (by
      intro k hk
      unfold vals
      rcases (show k = 0 ∨ k = 1 ∨ k = 2 ∨ k = 3 ∨ k = 4 ∨ k = 5 by omega) with e | e | e | e | e | e <;> subst e <;> simp (disch := omega) only [s2_at, s2_off, if_pos, if_neg, ↓reduceIte])
    refine ⟨σ', Fr_t f6 (W10_c h1), ?_⟩
    unfold f_X3_hearsBeat
    rw [M_g hM, loudAt_f cv (by omega) (by omega), Option.bind_some]
    dsimp only
    rw [M_a hM, Option.bind_some, zr5_6, Option.bind_some, zi8_3, Option.bind_some, hrl, if_neg (nI_ne0 hlen (by omega)), show ((-1) : Int32) = nJ 0 from rfl, give_0, Option.bind_some, loudAt_f cv1 (by omega) (by omega), Option.bind_some]
    dsimp only
    rw [show ((-2) : Int32) = -nI 2 from rfl, give_1, Option.bind_some, show ((-3) : Int32) = -nI 3 from rfl, give_2, Option.bind_some, show ((-4) : Int32) = -nI 4 from rfl, give_3, Option.bind_some, bitCount_f, Option.bind_some]
    dsimp only
    rw [show ((-5) : Int32) = -nI 5 from rfl, bc_nI (by omega), give_4, Option.bind_some, show ((-6) : Int32) = -nI 6 from rfl, give_5, Option.bind_some, h2, Option.bind_some]
    dsimp only
    by_cases hc : ev P (vals A X ab bs mud beat last) ≤ 0
    · rw [if_pos hc, if_pos hc]; rfl
    · rw [if_neg hc, if_neg hc]; rfl
theorem heard_f (cv : CV σ m A P X) {ab bs mud : Nat} (hab : ab < 256) (hbs : bs < 256) (hmu : mud < 1000) : ∃ σ', Fr Wc σ σ' ∧ f_X3_heard m (nI ab) (nI bs) (nI mud) (mk σ w u) = some (nI (hd A P X ab bs mud (A 0)).1, mk σ' w u) := by
  have hM := CV_M cv; have hT := CV_b cv; have cv2 := cv; obtain ⟨hm, ⟨⟨hA0, hA1, hA2, hA3, hA4⟩, hA7, hrl, hrn, hrc⟩, ⟨hN, hX⟩, ⟨hB1, hB2, hM8, hR8, hS12, hnm, hmd⟩, ⟨hN2, hW, hD⟩, hP⟩ := cv2
  unfold f_X3_heard l_X3_heard_9
  rw [M_g hM]
  refine lp_fr Wc σ (fun i τ => (m, nI ab, nI bs, nI mud, nI (hd A P X ab bs mud i).1, nI (hd A P X ab bs mud i).2, nI i, mk τ w u)) (A 0) (fun τ => (nI (hd A P X ab bs mud (A 0)).1, mk τ w u)) ?_ ?_ (A 0) 0 _ (by omega) (by omega)
  · intro i hi σ1 fr
    have cv1 := CV_fr cv fr
    obtain ⟨-, ⟨⟨a0, -⟩, -⟩, -⟩ := CV_fr cv fr
    obtain ⟨σ2, g1, g2⟩ := hearsBeat_f (w := w) (u := u) (last := (hd A P X ab bs mud i).2) cv1 (show i < 12 by omega) hab hbs hmu
    refine ⟨σ2, g1, fun k => ?_⟩
    dsimp only
    have h2 := hb_lt A P X ab bs mud i (hd A P X ab bs mud i).2
    have h3 : hb A P X ab bs mud i (hd A P X ab bs mud i).2 * 2 ^ i < 2 ^ 32 := by
      have h4 : 2 ^ i < 2 ^ 12 := Nat.pow_lt_pow_right (by decide) (by omega)
      have h5 : hb A P X ab bs mud i (hd A P X ab bs mud i).2 * 2 ^ i ≤ 1 * 2 ^ i := Nat.mul_le_mul_right _ (by omega)
      omega
    unfold f_X3_heard_9
    rw [M_a hM, Option.bind_some, zi5_0, Option.bind_some, a0, if_neg (nI_ge hi (by omega)), g2, Option.bind_some]
    dsimp only
    rw [shl_nI (by omega) h3, x_or, nI_1]
    rfl
  · intro σ1 fr
    obtain ⟨-, ⟨⟨a0, -⟩, -⟩, -⟩ := CV_fr cv fr
    refine ⟨σ1, Fr_r _ _, fun k => ?_⟩
    dsimp only
    unfold f_X3_heard_9 f_X3_heard_50
    rw [M_a hM, Option.bind_some, zi5_0, Option.bind_some, a0, if_pos (nI_le (Nat.le_refl _) (by omega))]
theorem CV_rt (cv : CV σ m A P X) (n ab bs mud i : Nat) : hd A P (rt A n X) ab bs mud i = hd A P X ab bs mud i := hd_c (fun i hi => by have := cv.2.2.2.1.2.2.1; exact ⟨rt_k (by omega) (by omega), rt_k (by omega) (by omega)⟩) ab bs mud i
theorem CV_nt (cv : CV σ m A P X) (n h : Nat) : nmb A (rt A n X) h (A 1) = nmb A X h (A 1) := nmb_c (fun i hi => by have := cv.2.2.2.1.2.2.1; exact rt_k (by omega) (by omega)) h
theorem mq_lt (wa : WA A) (n : Nat) : mq A n < 10 := by
  unfold mq
  split
  · omega
  · have := wa.2.2.2.2.2.2 (n % A 4) (by have := Nat.mod_lt n (show A 4 > 0 by omega); have := wa.2.2.2.2.2.1; omega)
    omega
theorem heardAt_f (cv : CV σ m A P X) {p n : Nat} (hp : p < 80) (hn : X 0 + n < 2000) : ∃ σ', Fr Wc σ σ' ∧ f_X3_heardAt m (nI p) (nI n) (mk σ w u) = some (nI (he A P (rt A n X) p (mq A (X 0 + n))), mk σ' w u) := by
  have hM := CV_M cv
  have wr := rt_W cv.2.2.2.1 cv.2.2.2.2.1 hn
  obtain ⟨σ', h1, h2⟩ := heard_f (w := w) (u := u) cv (rw1_lt cv.2.2.2.1 wr (p + 1)) (or8 (rw1_lt cv.2.2.2.1 wr p) (rw1_lt cv.2.2.2.1 wr (p + 2))) (Nat.lt_trans (mq_lt cv.2.2.2.1 (X 0 + n)) (by omega))
  refine ⟨σ', h1, ?_⟩
  unfold f_X3_heardAt
  rw [M_g hM, menAt_I cv (by omega) (by omega), Option.bind_some]
  dsimp only
  rw [besideAt_f cv hp (by omega), Option.bind_some]
  dsimp only
  rw [mudIn_f cv (by omega), Option.bind_some]
  dsimp only
  rw [h2, Option.bind_some]
  unfold he
  rw [CV_rt cv]
theorem namedBy_f (cv : CV σ m A P X) {h : Nat} (hh : h < 4096) : f_X3_namedBy m (nI h) (mk σ w u) = some (nJ (nmb A X h (A 1)).1, mk σ w u) := by
  have hM := CV_M cv; have hT := CV_b cv; have cv2 := cv; obtain ⟨hm, ⟨⟨hA0, hA1, hA2, hA3, hA4⟩, hA7, hrl, hrn, hrc⟩, ⟨hN, hX⟩, ⟨hB1, hB2, hM8, hR8, hS12, hnm, hmd⟩, ⟨hN2, hW, hD⟩, hP⟩ := cv2
  unfold f_X3_namedBy l_X3_namedBy_15
  rw [M_g hM, M_a hM, Option.bind_some, zi5_3, Option.bind_some, hA3, nI_1]
  refine lp_for (fun i => (m, nI h, nJ (nmb A X h i).1, nI (nmb A X h i).2, nI i, mk σ w u)) (A 1) _ ?_ ?_ (A 1) 0 _ (by omega) (by omega)
  · intro i hi k0
    have h1 := hT i (by omega)
    have h2 := xr12 h1.1 hh
    have h3 := nmb_le A X h hS12 i
    have h4 := pc_le (X (1 + i) ^^^ h) 12
    have e1 : nmb A X h (i + 1) = if (nmb A X h i).2 ≤ pc (X (1 + i) ^^^ h) 12 then nmb A X h i else (i + 1, pc (X (1 + i) ^^^ h) 12) := rfl
    dsimp only
    by_cases h5 : (nmb A X h i).2 ≤ pc (X (1 + i) ^^^ h) 12
    · rw [e1, if_pos h5]
      simp (disch := omega) only [f_X3_namedBy_61, f_X3_namedBy_55, f_X3_namedBy_15, f_X3_namedBy, l0, l1, l2, l3, l4, l5, l6, l7, l8, l9, l10, l11, l12, l13, l14, l15, l16, l17, l18, l19, l20, l21, l22, l23, l24, l25, l33, l34, l40, l42, l50, l58, l99, l100, l700, l999, l4095, l9999, l10000, x_neg1, nI_add, x_pred, x_m1, x_J1, pk_sub, nJ_pos, Nat.add_sub_cancel, nI_leI, nI_ltI, nI_eq, q_leJ, q_Jle, q_ltJ, q_Jlt, q_eqJ, q_Jeq, q_JJ, q_JJle, q_JJlt, Option.bind_some, if_pos, if_neg, ↓reduceIte, M_a hM, M_n hM, M_wn hM, M_t hM, M_l hM, M_o hM, M_s hM, M_g hM, M_tt hM, M_tl hM, M_to hM, M_ts hM, M_st hM, M_sl hM, M_so hM, M_ss hM, zi5_0, zi5_1, zi5_2, zi5_3, zi5_4, zr5_5, zr5_6, zt6, zg5, zg8, hA0, hA1, hA2, hA3, hA4, CV_t cv, CV_l cv, CV_o cv, CV_s cv, x_xor, bitCount_f, bc_nI]
    · rw [e1, if_neg h5]
      simp (disch := omega) only [f_X3_namedBy_61, f_X3_namedBy_55, f_X3_namedBy_15, f_X3_namedBy, l0, l1, l2, l3, l4, l5, l6, l7, l8, l9, l10, l11, l12, l13, l14, l15, l16, l17, l18, l19, l20, l21, l22, l23, l24, l25, l33, l34, l40, l42, l50, l58, l99, l100, l700, l999, l4095, l9999, l10000, x_neg1, nI_add, x_pred, x_m1, x_J1, pk_sub, nJ_pos, Nat.add_sub_cancel, nI_leI, nI_ltI, nI_eq, q_leJ, q_Jle, q_ltJ, q_Jlt, q_eqJ, q_Jeq, q_JJ, q_JJle, q_JJlt, Option.bind_some, if_pos, if_neg, ↓reduceIte, M_a hM, M_n hM, M_wn hM, M_t hM, M_l hM, M_o hM, M_s hM, M_g hM, M_tt hM, M_tl hM, M_to hM, M_ts hM, M_st hM, M_sl hM, M_so hM, M_ss hM, zi5_0, zi5_1, zi5_2, zi5_3, zi5_4, zr5_5, zr5_6, zt6, zg5, zg8, hA0, hA1, hA2, hA3, hA4, CV_t cv, CV_l cv, CV_o cv, CV_s cv, x_xor, bitCount_f, bc_nI, nJ_S]
  · intro k0
    dsimp only
    simp (disch := omega) only [f_X3_namedBy_61, f_X3_namedBy_55, f_X3_namedBy_15, f_X3_namedBy, l0, l1, l2, l3, l4, l5, l6, l7, l8, l9, l10, l11, l12, l13, l14, l15, l16, l17, l18, l19, l20, l21, l22, l23, l24, l25, l33, l34, l40, l42, l50, l58, l99, l100, l700, l999, l4095, l9999, l10000, x_neg1, nI_add, x_pred, x_m1, x_J1, pk_sub, nJ_pos, Nat.add_sub_cancel, nI_leI, nI_ltI, nI_eq, q_leJ, q_Jle, q_ltJ, q_Jlt, q_eqJ, q_Jeq, q_JJ, q_JJle, q_JJlt, Option.bind_some, if_pos, if_neg, ↓reduceIte, M_a hM, M_n hM, M_wn hM, M_t hM, M_l hM, M_o hM, M_s hM, M_g hM, M_tt hM, M_tl hM, M_to hM, M_ts hM, M_st hM, M_sl hM, M_so hM, M_ss hM, zi5_0, zi5_1, zi5_2, zi5_3, zi5_4, zr5_5, zr5_6, zt6, zg5, zg8, hA0, hA1, hA2, hA3, hA4, CV_t cv, CV_l cv, CV_o cv, CV_s cv]
theorem he_lt (A : Nat → Nat) (P : List (Nat × Nat)) (X : Nat → Nat) (p n : Nat) (h : A 0 ≤ 12) : he A P X p n < 4096 := tw12 (hd_lt A P X _ _ _ (A 0)).1 h
theorem na_le (A : Nat → Nat) (P : List (Nat × Nat)) (X : Nat → Nat) (p n : Nat) (h : A 3 ≤ 12) : na A P X p n ≤ A 1 := (nmb_le A X _ h (A 1)).1
theorem namedAt_f (cv : CV σ m A P X) {p n mud : Nat} (hp : p < 80) (hn : X 0 + n < 2000) (hmu : mud < 1000) : ∃ σ', Fr Wc σ σ' ∧ f_X3_namedAt m (nI p) (nI n) (nI mud) (mk σ w u) = some (nJ (na A P (rt A n X) p mud), mk σ' w u) := by
  have hM := CV_M cv
  have wr := rt_W cv.2.2.2.1 cv.2.2.2.2.1 hn
  obtain ⟨σ', h1, h2⟩ := heard_f (w := w) (u := u) cv (rw1_lt cv.2.2.2.1 wr (p + 1)) (or8 (rw1_lt cv.2.2.2.1 wr p) (rw1_lt cv.2.2.2.1 wr (p + 2))) hmu
  refine ⟨σ', h1, ?_⟩
  unfold f_X3_namedAt
  rw [M_g hM, menAt_I cv (by omega) (by omega), Option.bind_some]
  dsimp only
  rw [besideAt_f cv hp (by omega), Option.bind_some]
  dsimp only
  rw [h2, Option.bind_some]
  dsimp only
  rw [namedBy_f (CV_fr cv h1) (tw12 (hd_lt A P X _ _ _ (A 0)).1 cv.2.2.2.1.2.1), Option.bind_some]
  unfold na he
  rw [CV_rt cv, CV_nt cv]
end MB
