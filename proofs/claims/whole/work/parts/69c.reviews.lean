/-! L3: reviews -/
def stir (s : Int32) : Int32 := s * 1103515245 + 12345
def d15 (s : Int32) : Nat := ((s >>> (16 &&& 31)) &&& (32767 : Int32)).toBitVec.toNat
def dw (s : Int32) (n : Nat) : Nat := d15 s % n
theorem nI_all (v : Int32) : v = nI v.toBitVec.toNat := by
  apply Int32.toBitVec_inj.mp
  show v.toBitVec = BitVec.ofNat 32 v.toBitVec.toNat
  rw [BitVec.ofNat_toNat, BitVec.setWidth_eq]
theorem d15_lt (s : Int32) : d15 s < 32768 := by
  unfold d15
  rw [Int32.toBitVec_and, BitVec.toNat_and]
  exact Nat.lt_of_le_of_lt (Nat.and_le_right) (by decide)
theorem d15_e (s : Int32) : (s >>> (16 &&& 31)) &&& (32767 : Int32) = nI (d15 s) := nI_all _
theorem dw_lt (s : Int32) {n : Nat} (h : 0 < n) : dw s n < n := Nat.mod_lt _ h
theorem stirred_f (s : Int32) (h : hp_H) : f_X10_stirred s h = some (stir s, h) := rfl
theorem draw_f (s : Int32) {n : Nat} (h0 : 0 < n) (hn : n < 2 ^ 31) (h : hp_H) : f_X10_draw s (nI n) h = some (nI (dw s n), h) := by
  unfold f_X10_draw f_X10_draw_18
  rw [if_pos (show (0 : Int32) < nI n from (nI_ltI (a := 0) (by decide) hn).mpr h0), d15_e, rem_f (by have := d15_lt s; omega) h0 hn, Option.bind_some]
  rfl
def hp1 (A : Nat → Nat) (s : Int32) : Int32 := if A 1 = 0 then s else if dw (stir (stir s)) 3 = 2 then stir (stir s) else stir (stir (stir s))
def hpX (A : Nat → Nat) (s : Int32) (T : Nat → Nat) : Nat → Nat := if A 1 = 0 then T else if dw (stir (stir s)) 3 = 0 then th (dw (stir s) (A 1)) (dw (stir (stir (stir s))) (A 0)) T else if dw (stir (stir s)) 3 = 1 then un T (9 + dw (stir s) (A 1)) (dw (stir (stir (stir s))) 9 + 1) else T
theorem hpX_k {A : Nat → Nat} {s : Int32} {T : Nat → Nat} {k : Nat} (hM : A 1 ≤ 8) (h : k = 0 ∨ 17 ≤ k) : hpX A s T k = T k := by
  unfold hpX
  split
  · rfl
  · have := dw_lt (stir s) (n := A 1) (by omega)
    split
    · unfold th; rw [un_off (by omega)]
    · split
      · rw [un_off (by omega)]
      · rfl
theorem hpX_q {A : Nat → Nat} {s : Int32} {T Z : Nat → Nat} {n : Nat} (hM : A 1 ≤ 8) (h : hq Z (rt A n T)) : hq (hpX A s Z) (rt A n (hpX A s T)) := by
  intro k h0 h1
  by_cases c : 17 ≤ k
  · rw [hpX_k hM (Or.inr c), h k h0 h1]
    unfold rt
    rw [if_neg (show ¬ k = 0 by omega), if_neg (show ¬ k = 0 by omega)]
    split
    · rw [hpX_k hM (Or.inr (by omega))]
    · rw [hpX_k hM (Or.inr c)]
  · have e : ∀ j, 0 < j → j < 17 → Z j = T j := fun j a b => by rw [h j a (by omega), rt_k a (by omega)]
    rw [rt_k h0 (by omega)]
    unfold hpX
    split
    · exact e k h0 (by omega)
    · have := dw_lt (stir s) (n := A 1) (by omega)
      split
      · unfold th un
        rw [e (1 + dw (stir s) (A 1)) (by omega) (by omega), e k h0 (by omega)]
      · split
        · unfold un
          rw [e k h0 (by omega)]
        · exact e k h0 (by omega)
theorem hpX_W {A : Nat → Nat} {s : Int32} {T : Nat → Nat} (wa : WA A) (wx : WX A T) : WX A (hpX A s T) := by
  unfold hpX
  split
  · exact wx
  · have h1 := dw_lt (stir s) (n := A 1) (by omega)
    have h2 := dw_lt (stir (stir (stir s))) (n := A 0) (by have := wa.1; omega)
    have h3 := dw_lt (stir (stir (stir s))) (n := 9) (by omega)
    have h4 := wa.2.2.1
    split
    · exact th_W wx (by omega) h2
    · split
      · exact WX_l wx (by omega) (by omega)
      · exact wx
/-- a night of the reviews: seed, march, rows that err -/
def rvn (A : Nat → Nat) (P : List (Nat × Nat)) (i : Nat) (s : Int32 × (Nat → Nat) × Nat) : Int32 × (Nat → Nat) × Nat := (stir (hp1 A s.1), hu A P (rt A i (hpX A s.1 s.2.1)) (dw (stir (hp1 A s.1)) 10) (A 2) (hpX A s.1 s.2.1), s.2.2 + mc A P (rt A i (hpX A s.1 s.2.1)) (dw (stir (hp1 A s.1)) 10) (A 2))
def rvs (A : Nat → Nat) (P : List (Nat × Nat)) (X : Nat → Nat) (s : Int32) : Nat → Int32 × (Nat → Nat) × Nat := it (rvn A P) (s, X, 0)
def rvv (A : Nat → Nat) (q : Nat) (s : Int32 × (Nat → Nat) × Nat) : Int32 := if q = 0 then nI (ha A s.2.1 (A 1)) else if q = 1 then nI s.2.2 else nJ (mh s.2.1 (A 1)).1
theorem rvs_S (A : Nat → Nat) (P : List (Nat × Nat)) (X : Nat → Nat) (s : Int32) (i : Nat) : rvs A P X s (i + 1) = rvn A P i (rvs A P X s i) := rfl
theorem pc_mbt {A : Nat → Nat} {P : List (Nat × Nat)} {Z : Nat → Nat} {w : Nat} : ∀ n, mbt A P Z w n < 2 ^ n ∧ ∀ N, n ≤ N → pc (mbt A P Z w n) N = mc A P Z w n := by
  have pz : ∀ N, pc 0 N = 0 := by
    intro N
    induction N with
    | zero => rfl
    | succ N ih => show pc 0 N + bt 0 N = 0; rw [ih]; unfold bt; rw [Nat.zero_div]
  have po : ∀ a n, a < 2 ^ n → ∀ N, pc (a ||| 2 ^ n) N = pc a N + (if n < N then 1 else 0) := by
    intro a n h N
    have ht : ∀ k, bt (a ||| 2 ^ n) k = bt a k + (if k = n then 1 else 0) := by
      intro k
      unfold bt
      have e1 : (a ||| 2 ^ n) / 2 ^ k % 2 = ((a ||| 2 ^ n).testBit k).toNat := by rw [Nat.testBit_eq_decide_div_mod_eq]; rcases Nat.mod_two_eq_zero_or_one ((a ||| 2 ^ n) / 2 ^ k) with e | e <;> rw [e] <;> rfl
      have e2 : a / 2 ^ k % 2 = (a.testBit k).toNat := by rw [Nat.testBit_eq_decide_div_mod_eq]; rcases Nat.mod_two_eq_zero_or_one (a / 2 ^ k) with e | e <;> rw [e] <;> rfl
      rw [e1, e2, Nat.testBit_or, Nat.testBit_two_pow]
      by_cases c : k = n
      · subst c
        rw [Nat.testBit_lt_two_pow h, if_pos rfl]
        simp
      · rw [if_neg c]
        have : decide (n = k) = false := by simp; omega
        rw [this, Bool.or_false, Nat.add_zero]
    induction N with
    | zero => rfl
    | succ N ih =>
      show pc (a ||| 2 ^ n) N + bt (a ||| 2 ^ n) N = pc a N + bt a N + _
      rw [ih, ht]
      by_cases c : N = n
      · rw [if_pos c, if_neg (by omega), if_pos (by omega)]; omega
      · rw [if_neg c]
        by_cases c2 : n < N
        · rw [if_pos c2, if_pos (by omega)]; omega
        · rw [if_neg c2, if_neg (by omega)]; omega
  intro n
  induction n with
  | zero => exact ⟨Nat.one_pos, fun N _ => pz N⟩
  | succ n ih =>
    have h2 : 2 ^ (n + 1) = 2 ^ n + 2 ^ n := by rw [Nat.pow_succ]; omega
    rw [mbt_S, mc_S]
    split
    · exact ⟨by omega, fun N h => ih.2 N (by omega)⟩
    · split
      · refine ⟨Nat.or_lt_two_pow (by omega) (by have := Nat.two_pow_pos n; omega), fun N h => ?_⟩
        rw [po _ _ ih.1, ih.2 N (by omega), if_pos (by omega)]
      · exact ⟨by omega, fun N h => ih.2 N (by omega)⟩
section OK
variable {σ : Nat → Nat → Int32} {w u : Int64} {A X Y Z T : Nat → Nat} {P : List (Nat × Nat)} {b om : Nat}
theorem drawOfMan_f (ct : CV σ 71 A P T) (s : Int32) : ∃ τ, Fr (Wm 71) σ τ ∧ CV τ 71 A P (hpX A s T) ∧ f_X10_drawOfMan 0 s (mk σ w u) = some (hp1 A s, mk τ w u) := by
  have wa := ct.2.2.2.1
  have wx := ct.2.2.2.2.1
  have hM8 := wa.2.2.1
  have a1 : σ 5 1 = nI (A 1) := ct.2.1.1.2.1
  have a0 : σ 5 0 = nI (A 0) := ct.2.1.1.1
  have wh := hpX_W (s := s) wa wx
  unfold f_X10_drawOfMan
  rw [zg0, zr0_4, Option.bind_some, zi5_1, Option.bind_some, a1]
  by_cases c : A 1 = 0
  · refine ⟨σ, Fr_r _ _, by unfold hpX; rw [if_pos c]; exact ct, ?_⟩
    rw [c, if_pos (show nI 0 = 0 from rfl)]
    unfold hp1
    rw [if_pos c]
  · have h1 := dw_lt (stir s) (n := A 1) (by omega)
    have h2 := dw_lt (stir (stir (stir s))) (n := A 0) (by have := wa.1; omega)
    have h3 := dw_lt (stir (stir (stir s))) (n := 9) (by omega)
    have h5 := dw_lt (stir (stir s)) (n := 3) (by omega)
    have h6 := wa.2.1
    rw [if_neg (nI_ne0 (by omega) (by omega)), stirred_f, Option.bind_some]
    dsimp only
    rw [zr0_4, Option.bind_some, zi5_1, Option.bind_some, a1, draw_f _ (by omega) (by omega), Option.bind_some]
    dsimp only
    rw [stirred_f, Option.bind_some]
    dsimp only
    rw [show f_X10_draw (stir (stir s)) 3 (mk σ w u) = some (nI (dw (stir (stir s)) 3), mk σ w u) from draw_f _ (n := 3) (by decide) (by decide) _, Option.bind_some]
    dsimp only
    by_cases c0 : dw (stir (stir s)) 3 = 0
    · have eX : hpX A s T = th (dw (stir s) (A 1)) (dw (stir (stir (stir s))) (A 0)) T := by unfold hpX; rw [if_neg c, if_pos c0]
      have e1 : hp1 A s = stir (stir (stir s)) := by unfold hp1; rw [if_neg c, if_neg (by omega)]
      obtain ⟨τ, ⟨f1, m1⟩, g1⟩ := turnHeel_f (w := w) (u := u) ct (man := dw (stir s) (A 1)) (beat := dw (stir (stir (stir s))) (A 0)) (by omega) (by omega)
      rw [c0, if_pos (show nI 0 = 0 from rfl), stirred_f, Option.bind_some]
      dsimp only
      rw [zr0_9, Option.bind_some, zr0_4, Option.bind_some, zi5_0, Option.bind_some, a0, draw_f _ (by omega) (by omega), Option.bind_some]
      dsimp only
      rw [g1, Option.bind_some, e1]
      rw [eX] at wh ⊢
      exact ⟨τ, f1, CV_mk ct f1 m1 wh, rfl⟩
    · rw [if_neg (nI_ne0 (by omega) (by omega))]
      by_cases c1 : dw (stir (stir s)) 3 = 1
      · have eX : hpX A s T = un T (9 + dw (stir s) (A 1)) (dw (stir (stir (stir s))) 9 + 1) := by unfold hpX; rw [if_neg c, if_neg c0, if_pos c1]
        have e1 : hp1 A s = stir (stir (stir s)) := by unfold hp1; rw [if_neg c, if_neg (by omega)]
        obtain ⟨τ, ⟨f1, m1⟩, g1⟩ := setLoud_f (w := w) (u := u) ct (man := dw (stir s) (A 1)) (a := dw (stir (stir (stir s))) 9 + 1) (by omega)
        rw [c1, if_pos (show nI 1 = 1 from rfl), stirred_f, Option.bind_some]
        dsimp only
        rw [zr0_9, Option.bind_some, M_l isM_71, Option.bind_some, show f_X10_draw (stir (stir (stir s))) 9 (mk σ w u) = some (nI (dw (stir (stir (stir s))) 9), mk σ w u) from draw_f _ (n := 9) (by decide) (by decide) _, Option.bind_some]
        dsimp only
        rw [nI_1, g1, Option.bind_some, e1]
        rw [eX] at wh ⊢
        exact ⟨τ, f1, CV_mk ct f1 m1 wh, rfl⟩
      · have eX : hpX A s T = T := by unfold hpX; rw [if_neg c, if_neg c0, if_neg c1]
        have e1 : hp1 A s = stir (stir s) := by unfold hp1; rw [if_neg c, if_pos (by omega)]
        rw [if_neg (show ¬ nI (dw (stir (stir s)) 3) = 1 from fun e => c1 ((nI_eq (b := 1) (by omega) (by decide)).mp e)), e1, eX]
        exact ⟨σ, Fr_r _ _, ct, rfl⟩
theorem cl_reviews (cv : CV σ 34 A P X) (hx : X 0 ≤ 999) {s : Int32} {n q : Nat} (hn : n ≤ 40) (hq : q ≤ 2) : RQ (Fr Ws σ) w u (rvv A q (rvs A P X s n)) (f_X10_reviews 0 s (nI n) (nI q) (mk σ w u)) := by
  have hM8 := cv.2.2.2.1.2.2.1
  unfold f_X10_reviews
  rw [zg0]
  rw [show f_X10_needWhat (nI q) 2 (mk σ w u) = some (mk σ w u) from needWhat_f (b := 2) hq (by decide), Option.bind_some]
  rw [show f_X10_needWithin (nI n) 0 40 (mk σ w u) = some (mk σ w u) from needWithin_f (a := 0) (b := 40) (by omega) (by omega) (by decide), Option.bind_some]
  obtain ⟨τ1, f1, c71, c34, e1⟩ := trial_f (w := w) (u := u) cv
  rw [zr0_9, Option.bind_some, zr0_8, Option.bind_some, e1, Option.bind_some]
  unfold l_X10_reviews_32
  obtain ⟨V, hV⟩ : ∃ V, V = rvv A q (rvs A P X s n) := ⟨_, rfl⟩
  rw [← hV]
  refine lp_S (RQ (Fr Ws σ) w u V) (fun i τ => (0, nI n, nI q, (rvs A P X s i).1, nI (rvs A P X s i).2.2, nI i, mk τ w u)) (fun i τ => Fr Ws σ τ ∧ CV τ 71 A P (rvs A P X s i).2.1 ∧ (rvs A P X s i).2.1 0 = X 0) n ?_ ?_ n 0 _ τ1 (by omega) (by omega) ⟨Wm_s f1, c71, rfl⟩
  · intro i hi k τ ⟨fr, ct, h0⟩ hk
    obtain ⟨τ2, f2, ct2, e2⟩ := drawOfMan_f (w := w) (u := u) ct (rvs A P X s i).1
    have h02 : hpX A (rvs A P X s i).1 (rvs A P X s i).2.1 0 = X 0 := by rw [hpX_k hM8 (Or.inl rfl)]; exact h0
    have hd := dw_lt (stir (hp1 A (rvs A P X s i).1)) (n := 10) (by omega)
    obtain ⟨τ3, ⟨f3, m3⟩, e3⟩ := parade_f (w := w) (u := u) ct2 (n := i) (mud := dw (stir (hp1 A (rvs A P X s i).1)) 10) (by omega) (by omega)
    have h := hk τ3 ⟨Fr_t fr (Fr_t (Wm_s f2) (Wm_s f3)), CV_mk ct2 f3 m3 (hu_W ct2.2.2.2.2.1), by rw [rvs_S]; unfold rvn; dsimp only; rw [hu_k (by omega)]; exact h02⟩
    dsimp only at h ⊢
    unfold f_X10_reviews_32
    rw [if_neg (nI_ge hi (by omega)), e2, Option.bind_some]
    dsimp only
    rw [stirred_f, Option.bind_some]
    dsimp only
    rw [zr0_9, Option.bind_some, show f_X10_draw (stir (hp1 A (rvs A P X s i).1)) 10 (mk τ2 w u) = some (nI (dw (stir (hp1 A (rvs A P X s i).1)) 10), mk τ2 w u) from draw_f _ (n := 10) (by decide) (by decide) _, Option.bind_some]
    dsimp only
    rw [e3, Option.bind_some]
    dsimp only
    rw [nI_add, nI_1]
    exact h
  · intro k τ ⟨fr, ct, h0⟩
    dsimp only
    unfold f_X10_reviews_32 f_X10_reviews_76
    rw [if_pos (nI_le (Nat.le_refl _) (by omega)), hV]
    unfold rvv
    by_cases c0 : q = 0
    · rw [c0, if_pos (show nI 0 = 0 from rfl), if_pos rfl, zr0_9, Option.bind_some, honourOfAll_f ct, Option.bind_some]
      dsimp only
      exact RQ_i fr
    · rw [if_neg (nI_ne0 (by omega) (by omega)), if_neg c0]
      by_cases c1 : q = 1
      · rw [c1, if_pos (show nI 1 = 1 from rfl), if_pos rfl]
        exact RQ_i fr
      · rw [if_neg (show ¬ nI q = 1 from fun e => c1 ((nI_eq (b := 1) (by omega) (by decide)).mp e)), if_neg c1, zr0_9, Option.bind_some, mostHonoured_f ct, Option.bind_some]
        unfold f_X10_reviews_105
        dsimp only
        exact RQ_i fr
theorem draw_R (s : Int32) (h : σ 118 48 = s) {n : Nat} (h0 : 0 < n) (hn : n < 2 ^ 31) : f_X11_draw 118 (nI n) (mk σ w u) = some (nI (dw (stir s) n), mk (s2 σ 118 48 (stir s)) w u) := by
  unfold f_X11_draw
  rw [zg118, zi118_48, Option.bind_some, h, zw118_48, Option.bind_some, zi118_48, Option.bind_some, s2_at rfl rfl, show (s * 1103515245) + 12345 = stir s from rfl, d15_e, rem_f (by have := d15_lt (stir s); omega) h0 hn, Option.bind_some]
  rfl
def Wh (q k : Nat) : Prop := (q = 128 ∧ 33 ≤ k ∧ k < 66) ∨ (q = 118 ∧ k = 48)
theorem happens_R (rv : RV σ 33 A P Z om) (s : Int32) (hs : σ 118 48 = s) (hA : A 1 ≠ 0) : ∃ τ, Fr Wh σ τ ∧ RV τ 33 A P (hpX A s Z) om ∧ τ 118 48 = hp1 A s ∧ f_X11_happens 118 (mk σ w u) = some (mk τ w u) := by
  have wa := rv.2.2.2.2.1
  have wx := rv.2.2.2.2.2.1
  have hM8 := wa.2.2.1
  have a1 : σ 118 2 = nI (A 1) := rv.2.1.1.2.1
  have a0 : σ 118 1 = nI (A 0) := rv.2.1.1.1
  have wh := hpX_W (s := s) wa wx
  have h1 := dw_lt (stir s) (n := A 1) (by omega)
  have h2 := dw_lt (stir (stir (stir s))) (n := A 0) (by have := wa.1; omega)
  have h3 := dw_lt (stir (stir (stir s))) (n := 9) (by omega)
  have h5 := dw_lt (stir (stir s)) (n := 3) (by omega)
  have h6 := wa.2.1
  have hb := RV_b rv (dw (stir s) (A 1)) (by omega)
  have f1 : Fr Wh σ (s2 σ 118 48 (stir s)) := Fr_s (Or.inr ⟨rfl, rfl⟩)
  have f2 : Fr Wh σ (s2 (s2 σ 118 48 (stir s)) 118 48 (stir (stir s))) := Fr_st f1 (Or.inr ⟨rfl, rfl⟩)
  have f3 : Fr Wh σ (s2 (s2 (s2 σ 118 48 (stir s)) 118 48 (stir (stir s))) 118 48 (stir (stir (stir s)))) := Fr_st f2 (Or.inr ⟨rfl, rfl⟩)
  have rv2 : ∀ τ, Fr (fun q k => q = 118 ∧ k = 48) σ τ → RV τ 33 A P Z om := fun τ fr => RV_F rv fr (fun q k e => by omega)
  have r3 := rv2 (s2 (s2 (s2 σ 118 48 (stir s)) 118 48 (stir (stir s))) 118 48 (stir (stir (stir s)))) (Fr_st (Fr_st (Fr_s ⟨rfl, rfl⟩) ⟨rfl, rfl⟩) ⟨rfl, rfl⟩)
  unfold f_X11_happens
  rw [zg118, zi118_2, Option.bind_some, a1, draw_R s hs (by omega) (by omega), Option.bind_some]
  dsimp only
  rw [show f_X11_draw 118 3 (mk (s2 σ 118 48 (stir s)) w u) = some (nI (dw (stir (stir s)) 3), mk (s2 (s2 σ 118 48 (stir s)) 118 48 (stir (stir s))) w u) from draw_R (stir s) (by rw [s2_at rfl rfl]) (n := 3) (by decide) (by decide), Option.bind_some]
  dsimp only
  unfold f_X11_happens_66
  by_cases c0 : dw (stir (stir s)) 3 = 0
  · have eX : hpX A s Z = th (dw (stir s) (A 1)) (dw (stir (stir (stir s))) (A 0)) Z := by unfold hpX; rw [if_neg hA, if_pos c0]
    have e1 : hp1 A s = stir (stir (stir s)) := by unfold hp1; rw [if_neg hA, if_neg (by omega)]
    have eT := RV_3t rv (dw (stir s) (A 1)) (by omega)
    rw [c0, if_pos (show nI 0 = 0 from rfl), zr118_36, Option.bind_some, show (34 : Int32) + nI (dw (stir s) (A 1)) = nI (34 + dw (stir s) (A 1)) from nI_add 34 _, za128 (by omega), Option.bind_some, s2_off (by omega), s2_off (by omega), eT, zi118_1, Option.bind_some, s2_off (by omega), s2_off (by omega), a0, draw_R (stir (stir s)) (by rw [s2_at rfl rfl]) (by omega) (by omega), Option.bind_some]
    dsimp only
    rw [show (1 : Int32) = nI 1 from rfl, x_one (by omega), x_xor, zb128 (by omega), Option.bind_some, e1]
    rw [eX] at wh ⊢
    refine ⟨_, Fr_st f3 (Or.inl ⟨rfl, by omega, by omega⟩), RV_mk r3 (Fr_s (by unfold Wn; omega)) (Rr_s r3.2.2.1 (k := 1 + dw (stir s) (A 1)) (by omega)) wh, by rw [s2_off (by omega), s2_at rfl rfl], rfl⟩
  · rw [if_neg (nI_ne0 (by omega) (by omega))]
    by_cases c1 : dw (stir (stir s)) 3 = 1
    · have eX : hpX A s Z = un Z (9 + dw (stir s) (A 1)) (dw (stir (stir (stir s))) 9 + 1) := by unfold hpX; rw [if_neg hA, if_neg c0, if_pos c1]
      have e1 : hp1 A s = stir (stir (stir s)) := by unfold hp1; rw [if_neg hA, if_neg (by omega)]
      rw [c1, if_pos (show nI 1 = 1 from rfl), zr118_36, Option.bind_some, show f_X11_draw 118 9 (mk (s2 (s2 σ 118 48 (stir s)) 118 48 (stir (stir s))) w u) = some (nI (dw (stir (stir (stir s))) 9), mk (s2 (s2 (s2 σ 118 48 (stir s)) 118 48 (stir (stir s))) 118 48 (stir (stir (stir s)))) w u) from draw_R (stir (stir s)) (by rw [s2_at rfl rfl]) (n := 9) (by decide) (by decide), Option.bind_some]
      dsimp only
      rw [nI_1, show (42 : Int32) + nI (dw (stir s) (A 1)) = nI (42 + dw (stir s) (A 1)) from nI_add 42 _, zb128 (by omega), Option.bind_some, e1]
      rw [eX] at wh ⊢
      refine ⟨_, Fr_st f3 (Or.inl ⟨rfl, by omega, by omega⟩), RV_mk r3 (Fr_s (by unfold Wn; omega)) (Rr_s r3.2.2.1 (k := 9 + dw (stir s) (A 1)) (by omega)) wh, by rw [s2_off (by omega), s2_at rfl rfl], rfl⟩
    · have eX : hpX A s Z = Z := by unfold hpX; rw [if_neg hA, if_neg c0, if_neg c1]
      have e1 : hp1 A s = stir (stir s) := by unfold hp1; rw [if_neg hA, if_pos (by omega)]
      rw [if_neg (show ¬ nI (dw (stir (stir s)) 3) = 1 from fun e => c1 ((nI_eq (b := 1) (by omega) (by decide)).mp e)), e1, eX]
      exact ⟨_, f2, rv2 _ (Fr_st (Fr_s ⟨rfl, rfl⟩) ⟨rfl, rfl⟩), by rw [s2_at rfl rfl], rfl⟩
/-- the reference's march at its turn -/
def RZ (A : Nat → Nat) (i : Nat) (X T Z : Nat → Nat) : Prop := hq Z (rt A i T) ∧ (∀ m, m < 8 → Z (17 + m) = T (17 + m)) ∧ Z 0 = X 0 + i
theorem ha_c {A X Y : Nat → Nat} {n : Nat} (h : ∀ i, i < n → X (17 + i) = Y (17 + i)) : ha A X n = ha A Y n := by
  unfold ha
  exact it_c (fun i hi v => by rw [h i hi])
theorem re_reviews (rv : RV σ 0 A P X 0) (hx : X 0 ≤ 999) {s : Int32} {n q : Nat} (hn : n ≤ 40) (hql : q ≤ 2) : RQ (fun τ => Fr Wq (s2 σ 118 0 0) τ) w u (rvv A q (rvs A P X s n)) (f_X11_reviews 118 s (nI n) (nI q) (mk σ w u)) := by
  have t0 : (s2 σ 118 0 0) 118 0 = nI 0 := by rw [s2_at rfl rfl]; rfl
  have rv0 : RV (s2 σ 118 0 0) 0 A P X 0 := RV_F rv (Fr_s (W := fun q k => q = 118 ∧ k = 0) ⟨rfl, rfl⟩) (fun q k e => by omega)
  have tm := rv0.2.1.1.2.1; have tr := rv0.2.1.1.2.2.1; have tb := rv0.2.1.1.1; have hB1 := rv.2.2.2.2.1.1; have hB2 := rv.2.2.2.2.1.2.1; have hM8 := rv.2.2.2.2.1.2.2.1; have hR8 := rv.2.2.2.2.1.2.2.2.1; have hS12 := rv.2.2.2.2.1.2.2.2.2.1; have hT := RV_b rv
  unfold f_X11_reviews
  rw [zg118, zw118_0, Option.bind_some]
  rw [show f_X11_isWhat 118 (nI q) 2 (mk (s2 σ 118 0 0) w u) = some (nI 1, mk (s2 σ 118 0 0) w u) from isWhat_1 (b := 2) hql (by decide) t0, Option.bind_some]
  dsimp only
  rw [if_neg (show ¬ nI 1 = 0 by decide)]
  rw [show f_X11_isNights 118 (nI n) 0 2 (mk (s2 σ 118 0 0) w u) = some (nI 1, mk (s2 σ 118 0 0) w u) from isNights_1 (a := 0) (by omega) (by omega) t0, Option.bind_some]
  dsimp only
  rw [if_neg (show ¬ nI 1 = 0 by decide)]
  obtain ⟨τ1, f1, r33, r0, e1⟩ := tries_V (w := w) (u := u) rv0
  rw [e1, Option.bind_some, zw118_48, Option.bind_some]
  have fs : Fr (fun q k => q = 118 ∧ k = 48) τ1 (s2 τ1 118 48 s) := Fr_s ⟨rfl, rfl⟩
  have f1' : Fr (fun q k => Wq q k ∨ (q = 118 ∧ k = 41)) (s2 σ 118 0 0) (s2 τ1 118 48 s) := Fr_t (Fr_m (Wb_q f1) (fun q k e => Or.inl e)) (Fr_m fs (fun q k e => Or.inl (by unfold Wq; omega)))
  unfold l_X11_reviews_41
  obtain ⟨V, hV⟩ : ∃ V, V = rvv A q (rvs A P X s n) := ⟨_, rfl⟩
  rw [← hV]
  have hqf : ∀ τ a, Fr (fun q k => Wq q k ∨ (q = 118 ∧ k = 41)) (s2 σ 118 0 0) τ → RV τ 0 A P X a → Fr Wq (s2 σ 118 0 0) (s2 τ 118 41 (-1)) := fun τ a fr r => by
    intro q k hw
    by_cases e : q = 118 ∧ k = 41
    · rw [s2_at e.1 e.2, e.1, e.2]
      exact rv0.2.2.2.1.1.symm
    · rw [s2_off e]
      exact fr q k (fun e2 => by rcases e2 with e2 | e2; exact hw e2; exact e e2)
  refine lp_S (RQ (fun τ => Fr Wq (s2 σ 118 0 0) τ) w u V) (fun i τ => (118, nI n, nI q, nI (rvs A P X s i).2.2, nI i, mk τ w u)) (fun i τ => Fr (fun q k => Wq q k ∨ (q = 118 ∧ k = 41)) (s2 σ 118 0 0) τ ∧ τ 118 48 = (rvs A P X s i).1 ∧ ∃ a Z, RV τ 0 A P X a ∧ RV τ 33 A P Z a ∧ RZ A i X (rvs A P X s i).2.1 Z) n ?_ ?_ n 0 _ _ (by omega) (by omega) ⟨f1', s2_at rfl rfl, 0, X, RV_F r0 fs (fun q k e => by omega), RV_F r33 fs (fun q k e => by omega), by show hq X (rt A 0 X); rw [rt_0]; exact hq_r X, fun _ _ => rfl, rfl⟩
  · intro i hi k τ ⟨fr, hsd, a, Z, q0, q33, z1, z2, z3⟩ hk
    obtain ⟨S, hS⟩ : ∃ S, S = rvs A P X s i := ⟨_, rfl⟩
    rw [← hS] at hsd z1 z2
    have key : ∀ τ2 Z2, Fr (fun q k => Wq q k ∨ (q = 118 ∧ k = 41)) (s2 σ 118 0 0) τ2 → τ2 118 48 = hp1 A S.1 → RV τ2 0 A P X a → RV τ2 33 A P Z2 a → RZ A i X (hpX A S.1 S.2.1) Z2 → RQ (fun τ => Fr Wq (s2 σ 118 0 0) τ) w u V (f_X11_reviews_58 (fun a0 a1 a2 a3 a4 a5 => k (a0, a1, a2, a3, a4, a5)) 118 (nI n) (nI q) (nI S.2.2) (nI i) (mk τ2 w u)) := by
      intro τ2 Z2 fr2 hs2 p0 p33 ⟨y1, y2, y3⟩
      have hd := dw_lt (stir (hp1 A S.1)) (n := 10) (by omega)
      obtain ⟨d, hd2⟩ : ∃ d, d = dw (stir (hp1 A S.1)) 10 := ⟨_, rfl⟩
      rw [← hd2] at hd
      have fa : Fr (fun q k => q = 118 ∧ (k = 41 ∨ k = 48)) τ2 (s2 (s2 τ2 118 48 (stir (hp1 A S.1))) 118 41 (nI d)) := Fr_st (Fr_s ⟨rfl, Or.inr rfl⟩) ⟨rfl, Or.inl rfl⟩
      have mkv : ∀ b Z, RV τ2 b A P Z a → RV (s2 (s2 τ2 118 48 (stir (hp1 A S.1))) 118 41 (nI d)) b A P Z (d + 1) := fun b Z r => ⟨r.1, Ra_F r.2.1 fa (fun q k e => by omega), fun k hk => by rw [s2_off (by omega), s2_off (by omega)]; exact r.2.2.1 k hk, ⟨by rw [s2_at rfl rfl]; exact (nJ_S d).symm, by omega⟩, r.2.2.2.2⟩
      obtain ⟨τ4, f4, r4, -, o43, -, e4⟩ := nightV (w := w) (u := u) (mkv 33 _ p33) (by omega)
      have em : ∀ n, mo A (d + 1) n = d := fun n => by unfold mo; rw [if_neg (by omega)]; omega
      rw [em] at r4 o43
      have hmb := pc_mbt (A := A) (P := P) (Z := Z2) (w := d) (A 2)
      have h8 : 2 ^ A 2 ≤ 2 ^ 8 := Nat.pow_le_pow_right (by decide) hR8
      have h := hk τ4 ⟨Fr_t (Fr_t fr2 (Fr_m fa (fun q k e => by unfold Wq; omega))) (Fr_m (Wn_q f4) (fun q k e => Or.inl e)), ?_, d + 1, ng A P d Z2, RV_o2 (mkv 0 _ p0) f4, r4, ?_⟩
      · rw [rvs_S, ← hS] at h
        unfold rvn at h
        rw [← hd2] at h
        dsimp only at h
        unfold f_X11_reviews_58
        rw [show f_X11_draw 118 10 (mk τ2 w u) = some (nI d, mk (s2 τ2 118 48 (stir (hp1 A S.1))) w u) from by rw [hd2]; exact draw_R _ hs2 (n := 10) (by decide) (by decide), Option.bind_some]
        dsimp only
        rw [zw118_41, Option.bind_some, show f_X11_nightGoes 118 33 (mk (s2 (s2 τ2 118 48 (stir (hp1 A S.1))) 118 41 (nI d)) w u) = some (mk τ4 w u) from e4, Option.bind_some, zi118_43, Option.bind_some, o43, bits_f (by omega), Option.bind_some]
        dsimp only
        rw [hmb.2 12 (by omega), mc_c hM8 y1, nI_add, nI_1]
        exact h
      · rw [f4 118 48 (by unfold Wn; omega), s2_off (by omega), s2_at rfl rfl, rvs_S, ← hS]
        rfl
      · rw [rvs_S, ← hS]
        unfold rvn
        rw [← hd2]
        dsimp only
        refine ⟨?_, fun m hm => ?_, ?_⟩
        · have g1 : hq (ng A P d Z2) (rt A 1 Z2) := ng_q
          have g2 : hq (rt A 1 Z2) (rt A (i + 1) (hpX A S.1 S.2.1)) := by
            rw [Nat.add_comm i 1, ← rt_rt]
            exact rt_h 1 y1
          exact hq_t g1 (hq_t g2 (rt_h (i + 1) (hq_s (hu_q A P _ _ _ _))))
        · rw [ng_h hm, hu_h hm, tn_c hM8 y1, y2 m hm]
        · rw [ng_0, y3]; omega
    dsimp only
    rw [← hS]
    unfold f_X11_reviews_41
    rw [if_neg (nI_ge hi (by omega)), zi118_2, Option.bind_some, q0.2.1.1.2.1]
    by_cases c : A 1 = 0
    · have g1 : hp1 A S.1 = S.1 := by unfold hp1; rw [if_pos c]
      have g2 : hpX A S.1 S.2.1 = S.2.1 := by unfold hpX; rw [if_pos c]
      rw [c, if_pos (show nI 0 ≤ 0 by decide)]
      exact key τ Z fr (by rw [g1]; exact hsd) q0 q33 (by rw [g2]; exact ⟨z1, z2, z3⟩)
    · obtain ⟨τ2, f2, r2, h2, e2⟩ := happens_R (w := w) (u := u) q33 S.1 hsd c
      rw [if_neg (show ¬ nI (A 1) ≤ 0 from nI_ge (b := A 1) (a := 0) (by omega) (by omega)), e2, Option.bind_some]
      refine key τ2 _ (Fr_t fr (Fr_m f2 (fun q k e => by unfold Wq; unfold Wh at e; omega))) h2 (RV_F q0 f2 (fun q k e => by unfold Wh at e; omega)) r2 ⟨hpX_q hM8 z1, fun m hm => ?_, ?_⟩
      · rw [hpX_k hM8 (Or.inr (by omega)), hpX_k hM8 (Or.inr (by omega))]; exact z2 m hm
      · rw [hpX_k hM8 (Or.inl rfl)]; exact z3
  · intro k τ ⟨fr, hsd, a, Z, q0, q33, z1, z2, z3⟩
    dsimp only
    unfold f_X11_reviews_41 f_X11_reviews_92
    rw [if_pos (nI_le (Nat.le_refl _) (by omega)), zw118_41, Option.bind_some]
    have fq := hqf τ a fr q0
    have eo : ∀ m, m < 8 → (s2 τ 118 41 (-1)) 128 (50 + m) = nI ((rvs A P X s n).2.1 (17 + m)) := fun m hm => by rw [s2_off (by omega), RV_3o q33 m hm, z2 m hm]
    have em : (s2 τ 118 41 (-1)) 118 2 = nI (A 1) := by rw [s2_off (by omega)]; exact q0.2.1.1.2.1
    have r33 : RV (s2 τ 118 41 (-1)) 33 A P Z 0 := ⟨q33.1, Ra_F q33.2.1 (Fr_s (W := fun q k => q = 118 ∧ k = 41) ⟨rfl, rfl⟩) (fun q k e => by omega), fun k hk => by rw [s2_off (by omega)]; exact q33.2.2.1 k hk, ⟨by rw [s2_at rfl rfl]; rfl, by omega⟩, q33.2.2.2.2⟩
    obtain ⟨τ9, h9⟩ : ∃ τ9, τ9 = s2 τ 118 41 (-1) := ⟨_, rfl⟩
    rw [← h9] at fq eo em r33 ⊢
    obtain ⟨S, hS⟩ : ∃ S, S = rvs A P X s n := ⟨_, rfl⟩
    rw [← hS] at eo z2 hV ⊢
    have hb9 : ∀ m, m < 8 → S.2.1 (17 + m) ≤ 99 := fun m hm => by rw [← z2 m hm]; exact (RV_b q33 m hm).2.2.1
    have hml := mh_le (X := S.2.1) (n := A 1) (fun i hi => hb9 i (by omega))
    unfold l_X11_reviews_103
    refine lp_S (RQ (fun τ => Fr Wq (s2 σ 118 0 0) τ) w u V) (fun i τ => (118, nI q, nI S.2.2, nJ (mh S.2.1 i).1, nI i, mk τ w u)) (fun i τ' => τ' = τ9) (A 1) ?_ ?_ (A 1) 0 _ τ9 (by omega) (by omega) rfl
    · intro i hi k2 τ2 e hk2
      subst e
      have h := hk2 τ2 rfl
      dsimp only at h ⊢
      rw [mh_S] at h
      unfold f_X11_reviews_103 f_X11_reviews_141 f_X11_reviews_145
      rw [zi118_2, Option.bind_some, em, if_neg (nI_ge hi (by omega))]
      rcases mh_2 S.2.1 i with ⟨g1, g2⟩ | ⟨c, hc, g1, g2⟩
      · rw [if_neg (by omega)] at h
        dsimp only at h
        rw [nJ_S i] at h
        rw [g1, if_pos (show nJ 0 = -1 from rfl), nI_1]
        exact h
      · rw [g1, nJ_S, if_neg (show ¬ nI c = -1 from fun e => by have e2 : nI c = nJ 0 := e; rw [q_eqJ (by omega) (by omega)] at e2; omega), zr118_36, Option.bind_some, show (50 : Int32) + nI i = nI (50 + i) from nI_add 50 i, za128 (by omega), Option.bind_some, Option.bind_some, show (50 : Int32) + nI c = nI (50 + c) from nI_add 50 c, za128 (by omega), Option.bind_some, eo i (by omega), eo c (by omega), nI_1]
        have b1 := hb9 i (by omega)
        have b2 := hb9 c (by omega)
        by_cases c3 : S.2.1 (17 + i) ≤ S.2.1 (17 + c)
        · rw [if_pos (by omega), g1, nJ_S] at h
          rw [if_pos (nI_le c3 (by omega))]
          exact h
        · rw [if_neg (by omega), nJ_S] at h
          rw [if_neg (nI_ge (by omega) (by omega))]
          exact h
    · intro k2 τ2 e
      subst e
      dsimp only
      unfold f_X11_reviews_103 f_X11_reviews_151 f_X11_reviews_176
      rw [zi118_2, Option.bind_some, em, if_pos (nI_le (Nat.le_refl _) (by omega)), hV]
      unfold rvv
      by_cases c0 : q = 0
      · rw [c0, if_pos (show nI 0 = 0 from rfl), if_pos rfl, show f_X11_honourOf 118 33 (mk τ2 w u) = some (nI (ha A Z (A 1)), mk τ2 w u) from honourOf_R r33, Option.bind_some, ha_c (X := Z) (Y := S.2.1) (fun i hi => z2 i (by omega))]
        dsimp only
        exact RQ_i fq
      · rw [if_neg (nI_ne0 (by omega) (by omega)), if_neg c0]
        by_cases c1 : q = 1
        · rw [c1, if_pos (show nI 1 = 1 from rfl), if_pos rfl]
          exact RQ_i fq
        · rw [if_neg (show ¬ nI q = 1 from fun e => c1 ((nI_eq (b := 1) (by omega) (by decide)).mp e)), if_neg c1]
          exact RQ_i fq
end OK
