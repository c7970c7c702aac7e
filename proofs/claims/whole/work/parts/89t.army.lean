/-! L3: an army told, both sides -/
theorem cdR_fl (c : Nat → Int32) : ∀ P o, (∀ j x, (fl P ++ [nI 0])[j]? = some x → c (o + j) = x) → o + (fl P).length < 1400 → cdR c P o := by
  intro P
  induction P with
  | nil =>
    intro o h hl
    exact ⟨by have : o + 0 < 1400 := hl; omega, h 0 (nI 0) rfl⟩
  | cons p P ih =>
    obtain ⟨k, m⟩ := p
    intro o h hl
    by_cases c2 : k ≤ 2
    · have ef : fl ((k, m) :: P) = nI k :: nI m :: fl P := by
        show (if k ≤ 2 then nI k :: nI m :: fl P else nI k :: fl P) = _
        rw [if_pos c2]
      rw [ef] at h hl
      rw [List.length_cons, List.length_cons] at hl
      refine ⟨by omega, h 0 _ rfl, ?_⟩
      rw [if_pos c2]
      exact ⟨h 1 _ rfl, ih (o + 2) (fun j x hx => by
        have := h (j + 2) x hx
        rw [show o + (j + 2) = o + 2 + j by omega] at this
        exact this) (by omega)⟩
    · have ef : fl ((k, m) :: P) = nI k :: fl P := by
        show (if k ≤ 2 then nI k :: nI m :: fl P else nI k :: fl P) = _
        rw [if_neg c2]
      rw [ef] at h hl
      rw [List.length_cons] at hl
      refine ⟨by omega, h 0 _ rfl, ?_⟩
      rw [if_neg c2]
      exact ih (o + 1) (fun j x hx => by
        have := h (j + 1) x hx
        rw [show o + (j + 1) = o + 1 + j by omega] at this
        exact this) (by omega)
section AR
variable {σ τ : Nat → Nat → Int32} {w u : Int64} {T : Nat → Nat} {n : Nat} {Q : Nat → Nat} {P : List (Nat × Nat)}
theorem AQ_k {k : Nat} (h0 : k ≠ 0) (h3 : k ≠ 3) : AQ Q k = Q k := by unfold AQ; rw [if_neg h0, if_neg h3]
theorem AQ_0 : AQ Q 0 = bq Q := rfl
theorem AQ_3 : AQ Q 3 = sq3 Q := rfl
theorem XQ_t {i : Nat} (h : i < 8) : XQ Q (1 + i) = Q (13 + i) &&& (2 ^ bq Q - 1) := by
  unfold XQ; rw [if_neg (by omega), if_pos (by omega), show 12 + (1 + i) = 13 + i by omega]
theorem XQ_l {i : Nat} (h : i < 8) : XQ Q (9 + i) = Q (21 + i) := by
  unfold XQ; rw [if_neg (by omega), if_neg (by omega), if_pos (by omega), show 12 + (9 + i) = 21 + i by omega]
theorem XQ_h {i : Nat} (h : i < 8) : XQ Q (17 + i) = 0 := by
  unfold XQ; rw [if_neg (by omega), if_neg (by omega), if_neg (by omega), if_pos (by omega)]
theorem XQ_r {i : Nat} (h : i < 8) : XQ Q (25 + i) = Q (29 + i) := by
  unfold XQ; rw [if_neg (by omega), if_neg (by omega), if_neg (by omega), if_neg (by omega), show 4 + (25 + i) = 29 + i by omega]
theorem WA_Q (wq : WQ Q P) : WA (AQ Q) := by
  obtain ⟨b4, b12⟩ := bq_b wq
  obtain ⟨w0, w1, w2, w3, w4, w5, -⟩ := wq
  refine ⟨b4, b12, by rw [AQ_k (by omega) (by omega)]; exact w1, by rw [AQ_k (by omega) (by omega)]; exact w2, ?_, by rw [AQ_k (by omega) (by omega)]; exact w4, fun j hj => by rw [AQ_k (by omega) (by omega)]; exact (w5 j hj).1⟩
  rw [AQ_3]
  unfold sq3
  split <;> omega
theorem WX_Q (wq : WQ Q P) : WX (AQ Q) (XQ Q) := by
  obtain ⟨w0, w1, w2, w3, w4, w5, w6, w7, -⟩ := wq
  refine ⟨by show 0 < 2000; omega, fun i hi => ?_, fun r q i hr hq h1 h2 => ?_, fun r h1 h2 => ?_⟩
  · obtain ⟨x1, x2, x3, x4, x5, x6⟩ := w5 i hi
    rw [XQ_t hi, XQ_l hi, XQ_h hi, XQ_r hi, AQ_0, AQ_k (by omega) (by omega)]
    have hp : 0 < 2 ^ bq Q := Nat.two_pow_pos _
    have hle : Q (13 + i) &&& (2 ^ bq Q - 1) ≤ 2 ^ bq Q - 1 := Nat.and_le_right
    exact ⟨by omega, x3, by omega, x4, x5⟩
  · rw [XQ_r hr] at h1
    rw [XQ_r hq] at h2
    exact w6 r q i hr hq h1 h2
  · rw [AQ_k (by omega) (by omega)] at h1
    rw [XQ_r h2]
    exact w7 r h1 h2
/-- the class takes what was read -/
def Wcp (q k : Nat) : Prop := q = 5 ∨ q = 7 ∨ q = 8 ∨ q = 12
theorem told_f (cc : CC σ Q P) (wq : WQ Q P) : RN (fun τ => Fr Wcp σ τ ∧ Av τ (AQ Q) P) w u (f_X1_copyFrom 5 81 (mk σ w u)) := by
  obtain ⟨⟨c0, c1, c2, c3, c4⟩, c5, c6, -⟩ := cc
  have h4 := wq.2.2.2.2.1
  have h700 := wq.2.2.2.2.2.2.2.2.2.2.2
  unfold f_X1_copyFrom f_X6_copyFrom
  rw [zg5, zi81_0, Option.bind_some, zw5_0, Option.bind_some, zi81_1, Option.bind_some, zw5_1, Option.bind_some, zi81_2, Option.bind_some, zw5_2, Option.bind_some, zi81_3, Option.bind_some, zw5_3, Option.bind_some, zi81_4, Option.bind_some, zw5_4, Option.bind_some, zr5_5, Option.bind_some, zr81_5, Option.bind_some, C_copy zC6 zC82 (by omega) (by decide), Option.bind_some, zr5_6, Option.bind_some, zr81_6, Option.bind_some, zg8, zr8_1, Option.bind_some, zr84_1, Option.bind_some, C_copy zC11 zC87 (by omega) (by decide), Option.bind_some, zi84_3, Option.bind_some, zw8_3, Option.bind_some, Option.bind_some]
  refine ⟨_, ⟨fun q k hw => ?_, ⟨⟨?_, ?_, ?_, ?_, ?_⟩, fun j hj => ?_, ?_, h700, fun j k m hj => ?_⟩⟩, rfl⟩
  · unfold Wcp at hw
    rw [s2_off (by omega), sr_n (by omega), sr_n (by omega), s2_off (by omega), s2_off (by omega), s2_off (by omega), s2_off (by omega), s2_off (by omega)]
  · rw [s2_off (by omega), sr_n (by omega), sr_n (by omega), s2_off (by omega), s2_off (by omega), s2_off (by omega), s2_off (by omega), s2_at rfl rfl]
    exact c0
  · rw [s2_off (by omega), sr_n (by omega), sr_n (by omega), s2_off (by omega), s2_off (by omega), s2_off (by omega), s2_at rfl rfl, s2_off (by omega), AQ_k (by omega) (by omega)]
    exact c1
  · rw [s2_off (by omega), sr_n (by omega), sr_n (by omega), s2_off (by omega), s2_off (by omega), s2_at rfl rfl, s2_off (by omega), s2_off (by omega), AQ_k (by omega) (by omega)]
    exact c2
  · rw [s2_off (by omega), sr_n (by omega), sr_n (by omega), s2_off (by omega), s2_at rfl rfl, s2_off (by omega), s2_off (by omega), s2_off (by omega)]
    exact c3
  · rw [s2_off (by omega), sr_n (by omega), sr_n (by omega), s2_at rfl rfl, s2_off (by omega), s2_off (by omega), s2_off (by omega), s2_off (by omega), AQ_k (by omega) (by omega)]
    exact c4
  · rw [AQ_k (by omega) (by omega)] at hj ⊢
    rw [s2_off (by omega), sr_n (by omega), sr_s, if_pos (by omega), s2_off (by omega), s2_off (by omega), s2_off (by omega), s2_off (by omega), s2_off (by omega)]
    exact c5 j hj
  · rw [s2_at rfl rfl, sr_n (by omega), sr_n (by omega), s2_off (by omega), s2_off (by omega), s2_off (by omega), s2_off (by omega), s2_off (by omega)]
    exact c6.1
  · have hl : j < P.length := (List.getElem?_eq_some_iff.mp hj).1
    rw [s2_off (by omega), sr_s, if_pos (by omega), sr_n (by omega), s2_off (by omega), s2_off (by omega), s2_off (by omega), s2_off (by omega), s2_off (by omega)]
    exact c6.2 j k m hj
def Wc0 (q k : Nat) : Prop := (80 ≤ q ∧ q < 100) ∨ (q = 0 ∧ (k = 1 ∨ k = 2)) ∨ (q = 4 ∧ k = 0)
def Wc1 (q k : Nat) : Prop := (80 ≤ q ∧ q < 100) ∨ (q = 0 ∧ (k = 1 ∨ k = 2 ∨ k = 7)) ∨ q = 5 ∨ q = 7 ∨ q = 8 ∨ q = 12 ∨ q = 34 ∨ q = 36 ∨ q = 38 ∨ q = 40 ∨ q = 42 ∨ q = 10 ∨ q = 14 ∨ (q = 16 ∧ k = 4) ∨ (q = 25 ∧ k = 4)
theorem army_C {t : Nat} (tp : Tp σ 2 T) (ht : t ≤ 700) (h1 : σ 0 1 = nI t) (hn : n ≤ t) : match ln9 T n 701 Q0 [] (tok T n 0) with
  | .inl (f, p) => f ≠ 0 → f < 100 → RQ (fun τ => Fr Wc0 σ τ ∧ τ 0 1 = nI 0 ∧ τ 0 2 = nI p ∧ τ 4 0 = σ 4 0 + 1) w u (nI f) (f_X10_army 0 (nI n) (mk σ w u))
  | .inr (Q1, P1, _) => WQ Q1 P1 → RQ (fun τ => Fr Wc1 σ τ ∧ τ 0 1 = nI 0 ∧ τ 0 2 = nJ 0 ∧ Av τ (AQ Q1) P1 ∧ Mv τ 34 (XQ Q1) ∧ τ 16 4 = nI 0 ∧ τ 25 4 = nI 0 ∧ τ 0 7 = nI 0) w u (nI 0) (f_X10_army 0 (nI n) (mk σ w u)) := by
  have hr := readArmy_f (w := w) (u := u) tp (show n ≤ 700 by omega)
  unfold f_X10_army
  rw [zg0, if_neg (nI_pos (by omega)), zi0_1, Option.bind_some, h1, if_pos (nI_le hn (by omega)), zr0_10, Option.bind_some]
  match hq : ln9 T n 701 Q0 [] (tok T n 0), hr with
  | .inl (f, p), hr =>
    intro hf hf2
    obtain ⟨τ, ⟨fr, cf⟩, e⟩ := hr
    rw [e, Option.bind_some]
    dsimp only
    rw [zw0_1, Option.bind_some, zr0_10, Option.bind_some, zi80_3, Option.bind_some, s2_off (by omega), cf.2.1, zw0_2, Option.bind_some, if_neg (nI_ne0 (by omega) (by omega)), show f_X10_refuse 0 0 (mk (s2 (s2 τ 0 1 0) 0 2 (nI p)) w u) = some (mk (s2 (s2 (s2 τ 0 1 0) 0 2 (nI p)) 4 0 ((s2 (s2 τ 0 1 0) 0 2 (nI p)) 4 0 + 1)) w u) from refuse_f (i := 0) (by omega), Option.bind_some]
    refine ⟨_, ⟨Fr_st (Fr_st (Fr_st (Fr_m fr (fun q k e => by unfold Wrm at e; unfold Wc0; omega)) (by unfold Wc0; omega)) (by unfold Wc0; omega)) (by unfold Wc0; omega), ?_, ?_, ?_⟩, rfl⟩
    · rw [s2_off (by omega), s2_off (by omega), s2_at rfl rfl]; rfl
    · rw [s2_off (by omega), s2_at rfl rfl]
    · rw [s2_at rfl rfl, s2_off (by omega), s2_off (by omega), fr 4 0 (by unfold Wrm; omega)]
  | .inr (Q1, P1, K1), hr =>
    intro wq
    obtain ⟨τ, ⟨fr, h3, cc⟩, e⟩ := hr
    have fa : Fr (fun q k => q = 0 ∧ (k = 1 ∨ k = 2)) τ (s2 (s2 τ 0 1 0) 0 2 (nJ 0)) := Fr_st (Fr_s (by omega)) (by omega)
    have cca : CC (s2 (s2 τ 0 1 0) 0 2 (nJ 0)) Q1 P1 := by
      obtain ⟨⟨c0, c1, c2, c3, c4⟩, c5, c6, c7, c8⟩ := cc
      have g : ∀ q k, q ≠ 0 → (s2 (s2 τ 0 1 0) 0 2 (nJ 0)) q k = τ q k := fun q k h => by rw [s2_off (by omega), s2_off (by omega)]
      exact ⟨⟨by rw [g _ _ (by omega)]; exact c0, by rw [g _ _ (by omega)]; exact c1, by rw [g _ _ (by omega)]; exact c2, by rw [g _ _ (by omega)]; exact c3, by rw [g _ _ (by omega)]; exact c4⟩, fun j hj => by rw [g _ _ (by omega)]; exact c5 j hj, CR_F c6 fa (fun q k e => by omega), by rw [g _ _ (by omega)]; exact c7, fun i hi => by rw [g _ _ (by omega), g _ _ (by omega), g _ _ (by omega), g _ _ (by omega)]; exact c8 i hi⟩
    obtain ⟨τ2, ⟨fr2, av⟩, e2⟩ := told_f (w := w) (u := u) cca wq
    have mv2 : Mv τ2 91 (XQ Q1) := by
      obtain ⟨-, -, -, c7, c8⟩ := cca
      exact ⟨by rw [fr2 _ _ (by unfold Wcp; omega)]; exact c7, fun i hi => by rw [fr2 _ _ (by unfold Wcp; omega), fr2 _ _ (by unfold Wcp; omega), fr2 _ _ (by unfold Wcp; omega), fr2 _ _ (by unfold Wcp; omega)]; exact c8 i hi⟩
    obtain ⟨τ3, ⟨fr3, mv3⟩, e3⟩ := copy_f (w := w) (u := u) isN_34 isN_91 (by omega) mv2
    rw [e, Option.bind_some]
    dsimp only
    rw [zw0_1, Option.bind_some, zr0_10, Option.bind_some, zi80_3, Option.bind_some, s2_off (by omega), h3, zw0_2, Option.bind_some, if_pos (show nI 0 = 0 from rfl), zr0_4, Option.bind_some, zr0_10, Option.bind_some, zr80_0, Option.bind_some, e2, Option.bind_some, zr0_8, Option.bind_some, zr0_10, Option.bind_some, zr80_1, Option.bind_some, e3, Option.bind_some, zr0_5, Option.bind_some, zr15_1, Option.bind_some, zw16_4, Option.bind_some, zr0_5, Option.bind_some, zr15_2, Option.bind_some, zw25_4, Option.bind_some, zw0_7 (by decide), Option.bind_some]
    have f4 : Fr (fun q k => (q = 16 ∧ k = 4) ∨ (q = 25 ∧ k = 4) ∨ (q = 0 ∧ k = 7)) τ3 (s2 (s2 (s2 τ3 16 4 0) 25 4 0) 0 7 0) := Fr_st (Fr_st (Fr_s (by omega)) (by omega)) (by omega)
    have fm : Fr Wc1 τ2 τ3 := Fr_m fr3 (fun q k e => by unfold Wm at e; unfold Wc1; omega)
    refine ⟨_, ⟨Fr_t (Fr_m fr (fun q k e => by unfold Wrm at e; unfold Wc1; omega)) (Fr_t (Fr_m fa (fun q k e => by unfold Wc1; omega)) (Fr_t (Fr_m fr2 (fun q k e => by unfold Wcp at e; unfold Wc1; omega)) (Fr_t fm (Fr_m f4 (fun q k e => by unfold Wc1; omega))))), ?_, ?_, ?_, ?_, ?_, ?_, ?_⟩, rfl⟩
    · rw [f4 0 1 (by omega), fr3 0 1 (by unfold Wm; omega), fr2 0 1 (by unfold Wcp; omega), s2_off (by omega), s2_at rfl rfl]; rfl
    · rw [f4 0 2 (by omega), fr3 0 2 (by unfold Wm; omega), fr2 0 2 (by unfold Wcp; omega), s2_at rfl rfl]
    · obtain ⟨⟨c0, c1, c2, c3, c4⟩, c5, c6, c7, c8⟩ := av
      have g : ∀ q k, (q = 5 ∨ q = 7 ∨ q = 8 ∨ q = 12) → (s2 (s2 (s2 τ3 16 4 0) 25 4 0) 0 7 0) q k = τ2 q k := fun q k h => by rw [f4 q k (by omega), fr3 q k (by unfold Wm; omega)]
      exact ⟨⟨by rw [g _ _ (by omega)]; exact c0, by rw [g _ _ (by omega)]; exact c1, by rw [g _ _ (by omega)]; exact c2, by rw [g _ _ (by omega)]; exact c3, by rw [g _ _ (by omega)]; exact c4⟩, fun j hj => by rw [g _ _ (by omega)]; exact c5 j hj, by rw [g _ _ (by omega)]; exact c6, c7, fun j k m hj => by rw [g _ _ (by omega)]; exact c8 j k m hj⟩
    · exact ⟨by rw [f4 _ _ (by omega)]; exact mv3.1, fun i hi => by rw [f4 _ _ (by omega), f4 _ _ (by omega), f4 _ _ (by omega), f4 _ _ (by omega)]; exact mv3.2 i hi⟩
    · rw [s2_off (by omega), s2_off (by omega), s2_at rfl rfl]; rfl
    · rw [s2_off (by omega), s2_at rfl rfl]; rfl
    · rw [s2_at rfl rfl]; rfl
/-- the reference begins -/
def Wr0 (q k : Nat) : Prop := (q = 118 ∧ (k = 0 ∨ k = 10 ∨ k = 11 ∨ k = 12 ∨ (14 ≤ k ∧ k ≤ 30))) ∨ (123 ≤ q ∧ q ≤ 127)
theorem init_R {t : Nat} (tp : Tp σ 121 T) (ht : t ≤ 700) (h10 : σ 118 10 = nI t) (hn : n ≤ t) : ∃ τ w', Fr Wr0 σ τ ∧ τ 118 0 = nI 0 ∧ τ 118 10 = nI 0 ∧ RG τ w' T n (tok T n 0) ∧ RB τ Q0 [] ∧ f_X11_army 118 (nI n) (mk σ w u) = lp b117 (99999 + 1) (118, mk τ w' u) := by
  have hn7 : n ≤ 700 := by omega
  obtain ⟨σ1, hσ1⟩ : ∃ σ1, σ1 = s2 (s2 (s2 (s2 (s2 (s2 (s2 (s2 (s2 (s2 (s2 (s2 σ 118 0 0) 118 10 0) 118 12 (-1)) 118 11 0) 118 14 (nI n)) 118 15 0) 118 22 (-1)) 118 23 0) 118 24 0) 118 25 0) 118 26 (-1)) 118 27 (-1) := ⟨_, rfl⟩
  have f1 : Fr Wr0 σ σ1 := by
    rw [hσ1]
    exact Fr_st (Fr_st (Fr_st (Fr_st (Fr_st (Fr_st (Fr_st (Fr_st (Fr_st (Fr_st (Fr_st (Fr_s (by unfold Wr0; omega)) (by unfold Wr0; omega)) (by unfold Wr0; omega)) (by unfold Wr0; omega)) (by unfold Wr0; omega)) (by unfold Wr0; omega)) (by unfold Wr0; omega)) (by unfold Wr0; omega)) (by unfold Wr0; omega)) (by unfold Wr0; omega)) (by unfold Wr0; omega)) (by unfold Wr0; omega)
  have k0 : σ1 118 0 = nI 0 := by rw [hσ1]; simp only [s2_off (show ¬ (118 = 118 ∧ 0 = 27) by omega), s2_off (show ¬ (118 = 118 ∧ 0 = 26) by omega), s2_off (show ¬ (118 = 118 ∧ 0 = 25) by omega), s2_off (show ¬ (118 = 118 ∧ 0 = 24) by omega), s2_off (show ¬ (118 = 118 ∧ 0 = 23) by omega), s2_off (show ¬ (118 = 118 ∧ 0 = 22) by omega), s2_off (show ¬ (118 = 118 ∧ 0 = 15) by omega), s2_off (show ¬ (118 = 118 ∧ 0 = 14) by omega), s2_off (show ¬ (118 = 118 ∧ 0 = 11) by omega), s2_off (show ¬ (118 = 118 ∧ 0 = 12) by omega), s2_off (show ¬ (118 = 118 ∧ 0 = 10) by omega)]; rw [s2_at rfl rfl]; rfl
  have k10 : σ1 118 10 = nI 0 := by rw [hσ1, s2_off (by omega), s2_off (by omega), s2_off (by omega), s2_off (by omega), s2_off (by omega), s2_off (by omega), s2_off (by omega), s2_off (by omega), s2_off (by omega), s2_off (by omega), s2_at rfl rfl]; rfl
  have k12 : σ1 118 12 = nJ 0 := by rw [hσ1, s2_off (by omega), s2_off (by omega), s2_off (by omega), s2_off (by omega), s2_off (by omega), s2_off (by omega), s2_off (by omega), s2_off (by omega), s2_off (by omega), s2_at rfl rfl]; rfl
  have k11 : σ1 118 11 = nI 0 := by rw [hσ1, s2_off (by omega), s2_off (by omega), s2_off (by omega), s2_off (by omega), s2_off (by omega), s2_off (by omega), s2_off (by omega), s2_off (by omega), s2_at rfl rfl]; rfl
  have k14 : σ1 118 14 = nI n := by rw [hσ1, s2_off (by omega), s2_off (by omega), s2_off (by omega), s2_off (by omega), s2_off (by omega), s2_off (by omega), s2_off (by omega), s2_at rfl rfl]
  have k15 : σ1 118 15 = nI 0 := by rw [hσ1, s2_off (by omega), s2_off (by omega), s2_off (by omega), s2_off (by omega), s2_off (by omega), s2_off (by omega), s2_at rfl rfl]; rfl
  have k22 : σ1 118 22 = nJ 0 := by rw [hσ1, s2_off (by omega), s2_off (by omega), s2_off (by omega), s2_off (by omega), s2_off (by omega), s2_at rfl rfl]; rfl
  have k23 : σ1 118 23 = nI 0 := by rw [hσ1, s2_off (by omega), s2_off (by omega), s2_off (by omega), s2_off (by omega), s2_at rfl rfl]; rfl
  have k24 : σ1 118 24 = nI 0 := by rw [hσ1, s2_off (by omega), s2_off (by omega), s2_off (by omega), s2_at rfl rfl]; rfl
  have k25 : σ1 118 25 = nI 0 := by rw [hσ1, s2_off (by omega), s2_off (by omega), s2_at rfl rfl]; rfl
  have k26 : σ1 118 26 = nJ 0 := by rw [hσ1, s2_off (by omega), s2_at rfl rfl]; rfl
  have k27 : σ1 118 27 = nJ 0 := by rw [hσ1, s2_at rfl rfl]; rfl
  have hloop : ∃ τ w', (Fr (fun q k => q = 124 ∨ (q = 118 ∧ (k = 28 ∨ (15 ≤ k ∧ k ≤ 20)))) σ1 τ ∧ (∀ k, k < 33 → τ 124 k = nI 0) ∧ τ 118 28 = nI 0 ∧ RG τ w' T n (tok T n 0)) ∧ l_X11_army_89 118 0 (mk σ1 w u) = lp b117 (99999 + 1) (118, mk τ w' u) := by
    unfold l_X11_army_89
    refine lp_S (fun x => ∃ τ w', (Fr (fun q k => q = 124 ∨ (q = 118 ∧ (k = 28 ∨ (15 ≤ k ∧ k ≤ 20)))) σ1 τ ∧ (∀ k, k < 33 → τ 124 k = nI 0) ∧ τ 118 28 = nI 0 ∧ RG τ w' T n (tok T n 0)) ∧ x = lp b117 (99999 + 1) (118, mk τ w' u)) (fun i τ => (118, nI i, mk τ w u)) (fun i τ => Fr (fun q k => q = 124) σ1 τ ∧ ∀ k, k < i → τ 124 k = nI 0) 33 ?_ ?_ 33 0 100000 σ1 (by omega) (by omega) ⟨Fr_r _ _, fun k hk => by omega⟩
    · intro i hi k τ ⟨fr, h124⟩ hk
      dsimp only
      unfold f_X11_army_89
      rw [if_neg (show ¬ (33 : Int32) ≤ nI i from nI_ge (b := 33) hi (by decide)), zr118_32, Option.bind_some, zb124 hi, Option.bind_some, nI_1]
      refine hk _ ⟨Fr_st fr rfl, fun k hk2 => ?_⟩
      by_cases c : k = i
      · rw [s2_at rfl c]; rfl
      · rw [s2_off (by omega)]; exact h124 k (by omega)
    · intro k τ ⟨fr, h124⟩
      have f2 : Fr (fun q k => q = 118 ∧ k = 28) τ (s2 τ 118 28 0) := Fr_s ⟨rfl, rfl⟩
      have g : ∀ k, k ≠ 28 → (s2 τ 118 28 0) 118 k = σ1 118 k := fun k h => by rw [s2_off (by omega), fr 118 k (by omega)]
      have tp2 : Tp (s2 τ 118 28 0) 121 T := Tp_F (Tp_F (Tp_F tp f1 (fun k e => by unfold Wr0 at e; omega)) fr (fun k e => by omega)) f2 (fun k e => by omega)
      obtain ⟨τ3, w3, ⟨fr3, rt3⟩, e3⟩ := goes_f (w := w) (u := u) tp2 hn7 (by rw [g _ (by omega)]; exact k14) (e := 0) (by rw [g _ (by omega)]; exact k15) (Nat.zero_le _)
      dsimp only
      unfold f_X11_army_89 f_X11_army_108
      rw [if_pos (by decide), zw118_28, Option.bind_some, e3, Option.bind_some, b117_l]
      refine ⟨τ3, w3, ⟨Fr_t (Fr_m fr (fun q k e => Or.inl e)) (Fr_t (Fr_m f2 (fun q k e => Or.inr ⟨e.1, Or.inl e.2⟩)) (Fr_m fr3 (fun q k e => by unfold Wgo at e; omega))), fun k hk => by rw [fr3 124 k (by unfold Wgo; omega), s2_off (by omega)]; exact h124 k hk, by rw [fr3 118 28 (by unfold Wgo; omega), s2_at rfl rfl]; rfl, Tp_F tp2 fr3 (fun k e => by unfold Wgo at e; omega), by rw [fr3 118 11 (by unfold Wgo; omega), g _ (by omega)]; exact k11, by rw [fr3 118 12 (by unfold Wgo; omega), g _ (by omega)]; exact k12, by rw [fr3 118 14 (by unfold Wgo; omega), g _ (by omega)]; exact k14, rt3, (tok_ok hn7 (Nat.zero_le _)).1, ⟨tok_L, tok_D⟩, hn7⟩, rfl⟩
  obtain ⟨τ, w', ⟨fr, h124, h28, rg⟩, e⟩ := hloop
  have g : ∀ k, k ≠ 28 → ¬ (15 ≤ k ∧ k ≤ 20) → τ 118 k = σ1 118 k := fun k h h' => fr 118 k (by omega)
  refine ⟨τ, w', Fr_t f1 (Fr_m fr (fun q k e => by unfold Wr0; omega)), by rw [g _ (by omega) (by omega)]; exact k0, by rw [g _ (by omega) (by omega)]; exact k10, rg, ⟨by rw [g _ (by omega) (by omega)]; exact k22, by rw [g _ (by omega) (by omega)]; exact k23, by rw [g _ (by omega) (by omega)]; exact k24, by rw [g _ (by omega) (by omega)]; exact k25, by rw [g _ (by omega) (by omega)]; exact k26, fun _ => ⟨by rw [g _ (by omega) (by omega)]; exact k27, h28⟩, fun h => absurd rfl h, fun j hj => absurd hj (Nat.not_lt_zero _), fun k hk => ?_⟩, ?_⟩
  · rw [h124 k hk]
    unfold ZQ Q0
    split
    · rfl
    · split
      · rfl
      · split <;> rfl
  · unfold f_X11_army f_X11_army_23
    have r1 : f_X11_right 118 1 1 (mk (s2 σ 118 0 0) w u) = some (nI 1, mk (s2 σ 118 0 0) w u) := right_1 (c := 1) (by rw [s2_at rfl rfl]; rfl)
    rw [zg118, zw118_0, Option.bind_some, if_neg (nI_pos (by omega)), zi118_10, Option.bind_some, s2_off (by omega), h10, if_neg (nI_nlt hn (by omega)), r1, Option.bind_some]
    dsimp only
    rw [if_neg (show ¬ nI 1 = 0 by decide), zw118_10, Option.bind_some, zw118_12, Option.bind_some, zw118_11, Option.bind_some, zw118_14, Option.bind_some, zw118_15, Option.bind_some, zw118_22, Option.bind_some, zw118_23, Option.bind_some, zw118_24, Option.bind_some, zw118_25, Option.bind_some, zw118_26, Option.bind_some, zw118_27, Option.bind_some, ← hσ1, e]
end AR
