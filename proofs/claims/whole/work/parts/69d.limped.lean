/-! L3: limped and next -/
def ahb (A : Nat → Nat) (P : List (Nat × Nat)) (X : Nat → Nat) (M : Nat) (s : Nat → Nat → Nat) : Bool := decide (∀ i, i < M → bt (he A P (rt A (s i 1 - 1) X) (s i 0) (mq A (X 0 + (s i 1 - 1)))) (s i 2) = s i 3)
theorem ahb_t {A : Nat → Nat} {P : List (Nat × Nat)} {X : Nat → Nat} {M : Nat} {s : Nat → Nat → Nat} (h : ah A P X M s) : ahb A P X M s = true := decide_eq_true h
theorem ahb_f {A : Nat → Nat} {P : List (Nat × Nat)} {X : Nat → Nat} {M : Nat} {s : Nat → Nat → Nat} (h : ¬ ah A P X M s) : ¬ ahb A P X M s = true := fun e => h (by unfold ahb at e; unfold ah; exact of_decide_eq_true e)
def sus (A : Nat → Nat) (P : List (Nat × Nat)) (X : Nat → Nat) (M : Nat) (s : Nat → Nat → Nat) : Nat → List Nat := it (fun g L => if ahb A P (th (g / A 0) (g % A 0) X) M s = true then L ++ [g] else L) []
theorem sus_S (A : Nat → Nat) (P : List (Nat × Nat)) (X : Nat → Nat) (M : Nat) (s : Nat → Nat → Nat) (g : Nat) : sus A P X M s (g + 1) = if ahb A P (th (g / A 0) (g % A 0) X) M s = true then sus A P X M s g ++ [g] else sus A P X M s g := rfl
theorem sus_le (A : Nat → Nat) (P : List (Nat × Nat)) (X : Nat → Nat) (M : Nat) (s : Nat → Nat → Nat) : ∀ n, (sus A P X M s n).length ≤ n ∧ ∀ (k g : Nat), (sus A P X M s n)[k]? = some g → g < n := by
  intro n
  induction n with
  | zero => exact ⟨Nat.le_refl _, fun k g h => by rw [show sus A P X M s 0 = [] from rfl] at h; simp at h⟩
  | succ n ih =>
    rw [sus_S]
    split
    · refine ⟨by rw [List.length_append]; show _ + 1 ≤ _; omega, fun k g h => ?_⟩
      rw [List.getElem?_append] at h
      split at h
      · have := ih.2 k g h; omega
      · have h2 := List.mem_of_getElem? h
        rw [List.mem_singleton] at h2
        omega
    · exact ⟨by omega, fun k g h => by have := ih.2 k g h; omega⟩
theorem th_th (m b : Nat) (X : Nat → Nat) : th m b (th m b X) = X := by
  funext k
  unfold th
  by_cases h : k = 1 + m
  · rw [un_at h, un_at rfl, Nat.xor_assoc, Nat.xor_self, Nat.xor_zero, h]
  · rw [un_off h, un_off h]
theorem th_z {m b : Nat} {X : Nat → Nat} : th m b X 0 = X 0 := un_off (by omega)
theorem th_0 {m b : Nat} {X : Nat → Nat} {k : Nat} (h : k ≠ 1 + m) : th m b X k = X k := un_off h
/-- what the suspects' cells hold -/
def GS (τ : Nat → Nat → Int32) (B : Nat) (L : List Nat) : Prop := τ 100 3 = nI L.length ∧ ∀ k g, L[k]? = some g → τ 102 k = nI (g / B) ∧ τ 104 k = nI (g % B)
def lfi (B : Nat) (L : List Nat) : Int32 := match L with
  | [] => nJ 0
  | g :: _ => nI (100 * (g / B) + g % B)
def lpv (A : Nat → Nat) (P : List (Nat × Nat)) (X : Nat → Nat) (M : Nat) (s : Nat → Nat → Nat) (q : Nat) : Int32 := if q = 2 then nI (if ahb A P X M s = true then 1 else 0) else if q = 0 then nI (sus A P X M s (A 1 * A 0)).length else lfi (A 0) (sus A P X M s (A 1 * A 0))
theorem gb {B M m b : Nat} (hB : B ≤ 12) (hM : M ≤ 8) (hm : m < M) (hb : b < B) : m * B + b < 96 ∧ m * B + b < M * B ∧ (m * B + b) / B = m ∧ (m * B + b) % B = b := by
  have h1 : m * B ≤ 7 * 12 := Nat.mul_le_mul (by omega) hB
  have h2 : (m + 1) * B ≤ M * B := Nat.mul_le_mul_right B hm
  rw [Nat.add_mul, Nat.one_mul] at h2
  refine ⟨by omega, by omega, ?_, ?_⟩
  · rw [Nat.mul_comm, Nat.mul_add_div (by omega), Nat.div_eq_of_lt hb, Nat.add_zero]
  · rw [Nat.mul_comm, Nat.mul_add_mod, Nat.mod_eq_of_lt hb]
theorem ga {B M g : Nat} (hB : 0 < B) (h : g < M * B) : g / B < M ∧ g % B < B := ⟨(Nat.div_lt_iff_lt_mul hB).mpr h, Nat.mod_lt _ hB⟩
section OL
variable {σ : Nat → Nat → Int32} {w u : Int64} {A X Y Z T : Nat → Nat} {P : List (Nat × Nat)} {b om M : Nat} {s : Nat → Nat → Nat}
def Wf (q k : Nat) : Prop := q = 100 ∨ q = 102 ∨ q = 104 ∨ Wm 71 q k
theorem Wf_s {τ : Nat → Nat → Int32} (h : Fr Wf σ τ) : Fr Ws σ τ := Fr_m h (fun q k e => by unfold Ws; unfold Wf Wm at e; omega)
theorem CS_s {τ : Nat → Nat → Int32} (cs : CS σ 25 M s) (h : Fr Ws σ τ) : CS τ 25 M s := CS_F cs h (fun q k e => by unfold Ws at e; unfold Wa; omega)
theorem CV_s4 {τ : Nat → Nat → Int32} (cv : CV σ 34 A P X) (h : Fr Ws σ τ) : CV τ 34 A P X := CV_F cv h (fun q k e => by unfold Ws at e; omega)
theorem heel_f (ct : CV σ 71 A P X) {m b : Nat} (hm : m < A 1) (hb : b < A 0) : ∃ τ, Fr (Wm 71) σ τ ∧ CV τ 71 A P (th m b X) ∧ f_X3_turnHeel 71 (nI m) (nI b) (mk σ w u) = some (mk τ w u) := by
  have h1 := ct.2.2.2.1.2.2.1
  have h2 := ct.2.2.2.1.2.1
  obtain ⟨τ, ⟨f, mv⟩, e⟩ := turnHeel_f (w := w) (u := u) ct (man := m) (beat := b) (by omega) (by omega)
  exact ⟨τ, f, CV_mk ct f mv (th_W ct.2.2.2.2.1 (by omega) hb), e⟩
theorem gather_f (ct : CV σ 71 A P X) (cs : CS σ 25 M s) (ok : OkS A M s) (hx : X 0 ≤ 999) : RN (fun τ => Fr Wf σ τ ∧ CV τ 71 A P X ∧ GS τ (A 0) (sus A P X M s (A 1 * A 0))) w u (f_X9_gather 100 71 25 (mk σ w u)) := by
  have wa := ct.2.2.2.1
  have hB1 := wa.1
  have hB2 := wa.2.1
  have hM8 := wa.2.2.1
  unfold f_X9_gather
  rw [zg100, zw100_3, Option.bind_some]
  unfold l_X9_gather_7
  refine lp_S (RN (fun τ => Fr Wf σ τ ∧ CV τ 71 A P X ∧ GS τ (A 0) (sus A P X M s (A 1 * A 0))) w u) (fun i τ => (100, 71, 25, nI i, mk τ w u)) (fun i τ => Fr Wf σ τ ∧ CV τ 71 A P X ∧ GS τ (A 0) (sus A P X M s (i * A 0))) (A 1) ?_ ?_ (A 1) 0 _ _ (by omega) (by omega) ⟨Fr_s (Or.inl rfl), CV_F ct (Fr_s (W := fun q _ => q = 100) rfl) (fun q k e => by omega), ?_⟩
  · intro i hi k τ ⟨fr, c1, gs⟩ hk
    have a1 : τ 5 1 = nI (A 1) := c1.2.1.1.2.1
    dsimp only at hk ⊢
    unfold f_X9_gather_7
    rw [M_a isM_71, Option.bind_some, zi5_1, Option.bind_some, a1, if_neg (nI_ge hi (by omega))]
    unfold l_X9_gather_21
    refine lp_S (RN (fun τ => Fr Wf σ τ ∧ CV τ 71 A P X ∧ GS τ (A 0) (sus A P X M s (A 1 * A 0))) w u) (fun j τ => (100, 71, 25, nI i, nI j, mk τ w u)) (fun j τ => Fr Wf σ τ ∧ CV τ 71 A P X ∧ GS τ (A 0) (sus A P X M s (i * A 0 + j))) (A 0) ?_ ?_ (A 0) 0 _ τ (by omega) (by omega) ⟨fr, c1, gs⟩
    · intro j hj k2 τ2 ⟨fr2, c2, gs2⟩ hk2
      have a0 : τ2 5 0 = nI (A 0) := c2.2.1.1.1
      obtain ⟨g1, g2, g3, g4⟩ := gb hB2 hM8 hi hj
      have hlen := (sus_le A P X M s (i * A 0 + j)).1
      obtain ⟨L, hL⟩ : ∃ L, L = sus A P X M s (i * A 0 + j) := ⟨_, rfl⟩
      rw [← hL] at gs2 hlen
      obtain ⟨τ3, f3, c3, e3⟩ := heel_f (w := w) (u := u) c2 hi hj
      have cs3 : CS τ3 25 M s := CS_s cs (Wf_s (Fr_t fr2 (Fr_m f3 (fun q k e => Or.inr (Or.inr (Or.inr e))))))
      obtain ⟨r, τ4, f4, hr, e4⟩ := allHold_f (w := w) (u := u) isSi_25 c3 cs3 ok (by rw [th_z]; omega) (by omega)
      have c4 := CV_fr c3 f4
      have fr4 : Fr Wf σ τ4 := Fr_t fr2 (Fr_t (Fr_m f3 (fun q k e => Or.inr (Or.inr (Or.inr e)))) (Fr_m (Wc_m f4) (fun q k e => Or.inr (Or.inr (Or.inr e)))))
      have gk : ∀ q k, q = 100 ∨ q = 102 ∨ q = 104 → τ4 q k = τ2 q k := fun q k h => by rw [f4 q k (by unfold Wc; omega), f3 q k (by unfold Wm; omega)]
      have key : ∀ τ5 L2, Fr Wf σ τ5 → CV τ5 71 A P (th i j X) → GS τ5 (A 0) L2 → sus A P X M s (i * A 0 + j + 1) = L2 → RN (fun τ => Fr Wf σ τ ∧ CV τ 71 A P X ∧ GS τ (A 0) (sus A P X M s (A 1 * A 0))) w u (f_X9_gather_83 (fun a0 a1 a2 a3 a4 => k (a0, a1, a2, a3, a4)) (fun a0 a1 a2 a3 a4 a5 => k2 (a0, a1, a2, a3, a4, a5)) 100 71 25 (nI i) (nI j) (mk τ5 w u)) := by
        intro τ5 L2 fr5 c5 gs5 eL
        obtain ⟨τ6, f6, c6, e6⟩ := heel_f (w := w) (u := u) c5 hi hj
        rw [th_th] at c6
        have h := hk2 τ6 ⟨Fr_t fr5 (Fr_m f6 (fun q k e => Or.inr (Or.inr (Or.inr e)))), c6, by
          rw [show i * A 0 + (j + 1) = i * A 0 + j + 1 by omega, eL]
          exact ⟨by rw [f6 100 3 (by unfold Wm; omega)]; exact gs5.1, fun k g hg => by rw [f6 102 k (by unfold Wm; omega), f6 104 k (by unfold Wm; omega)]; exact gs5.2 k g hg⟩⟩
        unfold f_X9_gather_83
        rw [e6, Option.bind_some, nI_1]
        exact h
      dsimp only
      unfold f_X9_gather_21
      rw [M_a isM_71, Option.bind_some, zi5_0, Option.bind_some, a0, if_neg (nI_ge hj (by omega)), e3, Option.bind_some, e4, Option.bind_some]
      dsimp only
      rcases hr with ⟨hr1, hr2⟩ | ⟨hr1, hr2⟩
      · have e9 : sus A P X M s (i * A 0 + j + 1) = L ++ [i * A 0 + j] := by rw [sus_S, g3, g4, if_pos (ahb_t hr2), hL]
        rw [hr1, if_neg (show ¬ nI 1 = 0 by decide), zr100_0, Option.bind_some, zi100_3, Option.bind_some, gk 100 3 (by omega), gs2.1, zs101 (by omega), Option.bind_some, zr100_1, Option.bind_some, zi100_3, Option.bind_some, s2_off (by omega), gk 100 3 (by omega), gs2.1, zs103 (by omega), Option.bind_some, zi100_3, Option.bind_some, s2_off (by omega), s2_off (by omega), gk 100 3 (by omega), gs2.1, zw100_3, Option.bind_some, nI_1]
        refine key _ (L ++ [i * A 0 + j]) (Fr_st (Fr_st (Fr_st fr4 (Or.inr (Or.inl rfl))) (Or.inr (Or.inr (Or.inl rfl)))) (Or.inl rfl)) (CV_F c4 (Fr_st (Fr_st (Fr_s (W := fun q _ => q = 100 ∨ q = 102 ∨ q = 104) (Or.inr (Or.inl rfl))) (Or.inr (Or.inr rfl))) (Or.inl rfl)) (fun q k e => by omega)) ⟨by rw [s2_at rfl rfl, List.length_append]; rfl, fun n g hg => ?_⟩ e9
        rw [List.getElem?_append] at hg
        split at hg
        · next h9 =>
          rw [s2_off (by omega), s2_off (by omega), s2_off (by omega), s2_off (by omega), s2_off (by omega), s2_off (by omega), gk 102 n (by omega), gk 104 n (by omega)]
          exact gs2.2 n g hg
        · next h9 =>
          have hn : n = L.length := by
            by_cases c : n - L.length = 0
            · omega
            · rw [List.getElem?_eq_none (by show 1 ≤ _; omega)] at hg; cases hg
          subst hn
          rw [Nat.sub_self] at hg
          have hg2 : i * A 0 + j = g := by injection hg
          subst hg2
          rw [g3, g4, s2_off (by omega), s2_off (by omega), s2_at rfl rfl, s2_off (by omega), s2_at rfl rfl]
          exact ⟨rfl, rfl⟩
      · have e9 : sus A P X M s (i * A 0 + j + 1) = L := by rw [sus_S, g3, g4, if_neg (ahb_f hr2), hL]
        rw [hr1, if_pos (show nI 0 = 0 from rfl)]
        exact key τ4 L fr4 c4 ⟨by rw [gk 100 3 (by omega)]; exact gs2.1, fun k g hg => by rw [gk 102 k (by omega), gk 104 k (by omega)]; exact gs2.2 k g hg⟩ e9
    · intro k2 τ2 ⟨fr2, c2, gs2⟩
      have a0 : τ2 5 0 = nI (A 0) := c2.2.1.1.1
      have h := hk τ2 ⟨fr2, c2, by rw [Nat.add_mul, Nat.one_mul]; exact gs2⟩
      dsimp only
      unfold f_X9_gather_21 f_X9_gather_96
      rw [M_a isM_71, Option.bind_some, zi5_0, Option.bind_some, a0, if_pos (nI_le (Nat.le_refl _) (by omega)), nI_1]
      exact h
  · intro k τ ⟨fr, c1, gs⟩
    have a1 : τ 5 1 = nI (A 1) := c1.2.1.1.2.1
    dsimp only
    unfold f_X9_gather_7
    rw [M_a isM_71, Option.bind_some, zi5_1, Option.bind_some, a1, if_pos (nI_le (Nat.le_refl _) (by omega))]
    exact ⟨τ, ⟨fr, c1, gs⟩, rfl⟩
  · rw [Nat.zero_mul]
    exact ⟨by rw [s2_at rfl rfl]; rfl, fun k g hg => by rw [show sus A P X M s 0 = [] from rfl] at hg; simp at hg⟩
theorem cl_limped (cv : CV σ 34 A P X) (cs : CS σ 25 M s) (ok : OkS A M s) (hx : X 0 ≤ 999) {q : Nat} (hql : q ≤ 2) : RQ (Fr Ws σ) w u (lpv A P X M s q) (f_X10_limped 0 (nI q) (mk σ w u)) := by
  have wa := cv.2.2.2.1
  unfold f_X10_limped
  rw [zg0]
  rw [show f_X10_needWhat (nI q) 2 (mk σ w u) = some (mk σ w u) from needWhat_f (b := 2) hql (by decide), Option.bind_some]
  unfold lpv
  by_cases c2 : q = 2
  · obtain ⟨r, τ4, f4, hr, e4⟩ := allHold_f (w := w) (u := u) isSi_25 cv cs ok (by omega) (by omega)
    rw [c2, if_pos (show nI 2 = 2 from rfl), if_pos rfl, zr0_5, Option.bind_some, zr15_2, Option.bind_some, zr0_8, Option.bind_some, e4, Option.bind_some]
    dsimp only
    unfold f_X10_limped_32
    rcases hr with ⟨hr1, hr2⟩ | ⟨hr1, hr2⟩
    · rw [hr1, if_pos (ahb_t hr2), if_neg (show ¬ nI 1 = 0 by decide)]
      exact RQ_i (Wc_s f4)
    · rw [hr1, if_neg (ahb_f hr2), if_pos (show nI 0 = 0 from rfl)]
      exact RQ_i (Wc_s f4)
  · obtain ⟨τ1, f1, c71, c34, e1⟩ := trial_f (w := w) (u := u) cv
    obtain ⟨τ2, ⟨f2, d71, gs⟩, e2⟩ := gather_f (w := w) (u := u) c71 (CS_s cs (Wm_s f1)) ok hx
    have fr := Fr_t (Wm_s f1) (Wf_s f2)
    rw [if_neg (show ¬ nI q = 2 from fun e => c2 ((nI_eq (b := 2) (by omega) (by decide)).mp e)), if_neg c2, zr0_9, Option.bind_some, zr0_8, Option.bind_some, e1, Option.bind_some, zr0_11, Option.bind_some, zr0_9, Option.bind_some, zr0_5, Option.bind_some, zr15_2, Option.bind_some, e2, Option.bind_some]
    obtain ⟨L, hL⟩ : ∃ L, L = sus A P X M s (A 1 * A 0) := ⟨_, rfl⟩
    rw [← hL] at gs ⊢
    by_cases c0 : q = 0
    · rw [c0, if_pos (show nI 0 = 0 from rfl), if_pos rfl, zr0_11, Option.bind_some, zi100_3, Option.bind_some, gs.1]
      exact RQ_i fr
    · rw [if_neg (nI_ne0 (by omega) (by omega)), if_neg c0, zr0_11, Option.bind_some, zi100_3, Option.bind_some, gs.1]
      unfold f_X10_limped_114
      cases L with
      | nil =>
        rw [if_pos (show nI ([] : List Nat).length = 0 from rfl)]
        exact RQ_i fr
      | cons g L =>
        have hl : (g :: L).length ≤ 96 := by
          rw [hL]
          have h1 := (sus_le A P X M s (A 1 * A 0)).1
          have h2 : A 1 * A 0 ≤ 8 * 12 := Nat.mul_le_mul wa.2.2.1 wa.2.1
          omega
        obtain ⟨h1, h2⟩ := gs.2 0 g rfl
        rw [if_neg (nI_ne0 (by show 0 < L.length + 1; omega) (by omega)), Option.bind_some, zr100_0, Option.bind_some, show f_X2_at 101 0 (mk τ2 w u) = some (τ2 102 0, mk τ2 w u) from zt101 (i := 0) (by decide), Option.bind_some]
        dsimp only
        rw [zr0_11, Option.bind_some, zr100_1, Option.bind_some, show f_X2_at 103 0 (mk τ2 w u) = some (τ2 104 0, mk τ2 w u) from zt103 (i := 0) (by decide), Option.bind_some]
        dsimp only
        rw [h1, h2, show (100 : Int32) * nI (g / A 0) = nI (100 * (g / A 0)) from pk_mul 100 _, nI_add]
        exact RQ_i fr
theorem triesHeel_R (rv : RV σ 0 A P X 0) {g : Nat} (hg : g < A 1 * A 0) : ∃ τ, Fr (Wb 33) σ τ ∧ RV τ 0 A P X 0 ∧ RV τ 33 A P (th (g / A 0) (g % A 0) X) 0 ∧ f_X11_triesHeel 118 (nI g) (mk σ w u) = some (mk τ w u) := by
  have wa := rv.2.2.2.2.1
  have hB1 := wa.1
  have hB2 := wa.2.1
  have hM8 := wa.2.2.1
  have h96 : A 1 * A 0 ≤ 8 * 12 := Nat.mul_le_mul hM8 hB2
  obtain ⟨g1, g2⟩ := ga (by omega) hg
  have ed := div_f (a := g) (d := A 0) (by omega) (by omega) (by omega)
  have er := rem_f (a := g) (d := A 0) (by omega) (by omega) (by omega)
  obtain ⟨m, hm⟩ : ∃ m, m = g / A 0 := ⟨_, rfl⟩
  obtain ⟨b, hb⟩ : ∃ b, b = g % A 0 := ⟨_, rfl⟩
  rw [← hm] at g1 ed
  rw [← hb] at g2 er
  rw [← hm, ← hb]
  obtain ⟨τ1, f1, r33, r0, e1⟩ := tries_V (w := w) (u := u) rv
  have a0 : τ1 118 1 = nI (A 0) := r0.2.1.1.1
  have eT := RV_3t r33 (m) (by omega)
  have f2 : Fr (Wb 33) τ1 (s2 τ1 128 (34 + m) (nI (X (1 + m) ^^^ 2 ^ b))) := Fr_s (by unfold Wb; omega)
  refine ⟨_, Fr_t f1 f2, RV_o2 r0 (Wb_n f2), RV_mk r33 (Wb_n f2) (Rr_s r33.2.2.1 (k := 1 + m) (by omega)) (th_W r33.2.2.2.2.2.1 (by omega) g2), ?_⟩
  unfold f_X11_triesHeel
  rw [zg118, e1, Option.bind_some, zr118_36, Option.bind_some, zi118_1, Option.bind_some, a0, ed, Option.bind_some, show (34 : Int32) + nI (m) = nI (34 + m) from nI_add 34 _, za128 (by omega), Option.bind_some, Option.bind_some, er, Option.bind_some, eT, show (1 : Int32) = nI 1 from rfl, x_one (by omega), x_xor, zb128 (by omega), Option.bind_some]
theorem isSeen_R (rv : RV σ 33 A P Y 0) (hy : Y 0 ≤ 999) (hM : σ 118 45 = nI M) (rs : RSe σ 133 M s) (ok : OkS A M s) : RQ (Fr (Wn 33) σ) w u (nI (if ahb A P Y M s = true then 1 else 0)) (f_X11_isSeen 118 (mk σ w u)) := by
  have wa := rv.2.2.2.2.1
  have hB2 := wa.2.1
  have hM8 := wa.2.2.1
  have hR8 := wa.2.2.2.1
  have hMl := rs.1
  obtain ⟨V, hV⟩ : ∃ V, V = nI (if ahb A P Y M s = true then 1 else 0) := ⟨_, rfl⟩
  rw [← hV]
  unfold f_X11_isSeen
  rw [zg118]
  unfold l_X11_isSeen_2
  refine lp_S (RQ (Fr (Wn 33) σ) w u V) (fun n τ => (118, nI (n + 1), mk τ w u)) (fun n τ => Fr (Wn 33) σ τ ∧ ∃ Z, RV τ 33 A P Z 0 ∧ (0 < M → Z = ny A P (wfn A Y) Y n) ∧ ∀ j, j < M → s j 1 - 1 < n → bt (he A P (rt A (s j 1 - 1) Y) (s j 0) (mq A (Y 0 + (s j 1 - 1)))) (s j 2) = s j 3) 12 ?_ ?_ 12 0 _ σ (by omega) (by omega) ⟨Fr_r _ _, Y, rv, fun _ => rfl, fun j _ h => by omega⟩
  · intro n hn k τ ⟨fr, Z, r33, hZ, hI⟩ hk
    dsimp only at hk ⊢
    unfold f_X11_isSeen_2
    rw [if_neg (show ¬ (12 : Int32) < nI (n + 1) from nI_nlt (a := 12) (by omega) (by decide))]
    unfold l_X11_isSeen_10
    refine lp_S (RQ (Fr (Wn 33) σ) w u V) (fun i τ => (118, nI (n + 1), nI i, mk τ w u)) (fun i τ => Fr (Wn 33) σ τ ∧ RV τ 33 A P Z 0 ∧ ∀ j, j < i → s j 1 - 1 = n → bt (he A P (rt A (s j 1 - 1) Y) (s j 0) (mq A (Y 0 + (s j 1 - 1)))) (s j 2) = s j 3) M ?_ ?_ M 0 _ τ (by omega) (by omega) ⟨fr, r33, fun j h => by omega⟩
    · intro i hi k2 τ2 ⟨fr2, q33, hJ⟩ hk2
      have m2 : τ2 118 45 = nI M := by rw [fr2 118 45 (by unfold Wn; omega)]; exact hM
      obtain ⟨o1, o2, o3, o4, o5⟩ := ok i hi
      have rs2 : RSe τ2 133 M s := RSe_F rs fr2 (fun k e => by unfold Wn at e; omega)
      obtain ⟨b1, b2, b3, b4⟩ := rs2.2 i hi
      have z := hZ (by omega)
      dsimp only at hk2 ⊢
      unfold f_X11_isSeen_10 f_X11_isSeen_74
      rw [zi118_45, Option.bind_some, m2, if_neg (nI_ge hi (by omega)), zr118_46, Option.bind_some, show (4 : Int32) * nI i = nI (4 * i) from pk_mul 4 i, nI_1, za133 (by omega), Option.bind_some, b2, nI_1]
      by_cases c : s i 1 = n + 1
      · obtain ⟨τ3, f3, e3⟩ := heardOf_f (w := w) (u := u) q33 o1
        have rs3 : RSe τ3 133 M s := RSe_F rs2 f3 (fun k e => by unfold Wr at e; omega)
        obtain ⟨d1, d2, d3, d4⟩ := rs3.2 i hi
        rw [mo_0, z, ny_0, he_c hM8 (ny_q n)] at e3
        have hl := he_lt A P (rt A n Y) (s i 0) (mq A (Y 0 + n)) hB2
        have hbl := bt_lt (he A P (rt A n Y) (s i 0) (mq A (Y 0 + n))) (s i 2)
        have en : s i 1 - 1 = n := by omega
        rw [c, if_pos rfl, Option.bind_some, za133 (by omega), Option.bind_some, b1, show f_X11_heardOf 118 33 (nI (s i 0)) (mk τ2 w u) = some (nI (he A P (rt A n Y) (s i 0) (mq A (Y 0 + n))), mk τ3 w u) from e3, Option.bind_some]
        dsimp only
        rw [zr118_46, Option.bind_some, show nI (4 * i) + (2 : Int32) = nI (4 * i + 2) from nI_add _ 2, za133 (by omega), Option.bind_some, Option.bind_some, show nI (4 * i) + (3 : Int32) = nI (4 * i + 3) from nI_add _ 3, za133 (by omega), Option.bind_some, d3, d4, show (1 : Int32) = nI 1 from rfl, x_bit (by omega) (by omega)]
        by_cases c2 : bt (he A P (rt A n Y) (s i 0) (mq A (Y 0 + n))) (s i 2) = s i 3
        · rw [c2, if_pos rfl]
          refine hk2 τ3 ⟨Fr_t fr2 (Wr_n f3), RV_fr q33 f3, fun j hj => ?_⟩
          by_cases cj : j = i
          · rw [cj, en]; exact fun _ => c2
          · exact hJ j (by omega)
        · rw [if_neg (fun e => c2 ((nI_eq (by omega) (by omega)).mp e)), hV, if_neg (ahb_f (fun h => c2 (by have := h i hi; rw [en] at this; exact this)))]
          unfold f_X11_isSeen_72
          rw [if_pos (by decide)]
          exact RQ_i (Fr_t fr2 (Wr_n f3))
      · rw [if_neg (fun e => c ((nI_eq (by omega) (by omega)).mp e))]
        refine hk2 τ2 ⟨fr2, q33, fun j hj => ?_⟩
        by_cases cj : j = i
        · rw [cj]; exact fun h => by omega
        · exact hJ j (by omega)
    · intro k2 τ2 ⟨fr2, q33, hJ⟩
      have m2 : τ2 118 45 = nI M := by rw [fr2 118 45 (by unfold Wn; omega)]; exact hM
      have hJ2 : ∀ j, j < M → s j 1 - 1 < n + 1 → bt (he A P (rt A (s j 1 - 1) Y) (s j 0) (mq A (Y 0 + (s j 1 - 1)))) (s j 2) = s j 3 := fun j hj h => by
        by_cases e : s j 1 - 1 = n
        · exact hJ j hj e
        · exact hI j hj (by omega)
      dsimp only
      unfold f_X11_isSeen_10 f_X11_isSeen_80 f_X11_isSeen_93
      rw [zi118_45, Option.bind_some, m2, if_pos (nI_le (Nat.le_refl _) (by omega)), Option.bind_some, nI_1]
      by_cases c : M = 0
      · rw [c, if_pos (show nI 0 ≤ 0 by decide)]
        exact hk τ2 ⟨fr2, Z, q33, fun h => by omega, hJ2⟩
      · rw [hZ (by omega)] at q33
        obtain ⟨τ3, f3, r3, -, -, -, e3⟩ := nightI (w := w) (u := u) n q33 hy (by omega)
        rw [if_neg (show ¬ nI M ≤ 0 from nI_ge (b := M) (a := 0) (by omega) (by omega)), e3, Option.bind_some]
        exact hk τ3 ⟨Fr_t fr2 f3, _, r3, fun _ => rfl, hJ2⟩
  · intro k τ ⟨fr, Z, r33, hZ, hI⟩
    dsimp only
    unfold f_X11_isSeen_2 f_X11_isSeen_99
    rw [if_pos (by decide), if_pos (by decide), hV, if_pos (ahb_t (fun i hi => hI i hi (by have := (ok i hi).2.2.1; have := (ok i hi).2.1; omega)))]
    exact RQ_i fr
theorem lfi_a (B : Nat) (L : List Nat) (g : Nat) : lfi B (L ++ [g]) = if L = [] then nI (100 * (g / B) + g % B) else lfi B L := by
  cases L with
  | nil => rfl
  | cons a L => rw [if_neg (by simp)]; rfl
theorem re_limped (rv : RV σ 0 A P X 0) (hM : σ 118 45 = nI M) (rs : RSe σ 133 M s) (ok : OkS A M s) (hx : X 0 ≤ 999) {q : Nat} (hql : q ≤ 2) : RQ (fun τ => Fr Wq (s2 σ 118 0 0) τ) w u (lpv A P X M s q) (f_X11_limped 118 (nI q) (mk σ w u)) := by
  have t0 : (s2 σ 118 0 0) 118 0 = nI 0 := by rw [s2_at rfl rfl]; rfl
  have rv0 : RV (s2 σ 118 0 0) 0 A P X 0 := RV_F rv (Fr_s (W := fun q k => q = 118 ∧ k = 0) ⟨rfl, rfl⟩) (fun q k e => by omega)
  have tm := rv0.2.1.1.2.1; have tr := rv0.2.1.1.2.2.1; have tb := rv0.2.1.1.1; have hB1 := rv.2.2.2.2.1.1; have hB2 := rv.2.2.2.2.1.2.1; have hM8 := rv.2.2.2.2.1.2.2.1; have hR8 := rv.2.2.2.2.1.2.2.2.1; have hS12 := rv.2.2.2.2.1.2.2.2.2.1; have hT := RV_b rv
  have hB1 := rv.2.2.2.2.1.1
  have h96 : A 1 * A 0 ≤ 8 * 12 := Nat.mul_le_mul hM8 hB2
  have m0 : (s2 σ 118 0 0) 118 45 = nI M := by rw [s2_off (by omega)]; exact hM
  have rs0 : RSe (s2 σ 118 0 0) 133 M s := RSe_F rs (Fr_s (W := fun q k => q = 118) rfl) (fun k e => by omega)
  unfold f_X11_limped
  rw [zg118, zw118_0, Option.bind_some]
  rw [show f_X11_isWhat 118 (nI q) 2 (mk (s2 σ 118 0 0) w u) = some (nI 1, mk (s2 σ 118 0 0) w u) from isWhat_1 (b := 2) hql (by decide) t0, Option.bind_some]
  dsimp only
  rw [if_neg (show ¬ nI 1 = 0 by decide)]
  unfold lpv
  by_cases c2 : q = 2
  · obtain ⟨τ1, f1, r33, r0, e1⟩ := tries_V (w := w) (u := u) rv0
    obtain ⟨τ2, f2, e2⟩ := isSeen_R (w := w) (u := u) (M := M) (s := s) r33 hx (by rw [f1 118 45 (by unfold Wb; omega)]; exact m0) (RSe_F rs0 f1 (fun k e => by unfold Wb at e; omega)) ok
    rw [c2, if_pos (show nI 2 = 2 from rfl), if_pos rfl, e1, Option.bind_some, e2, Option.bind_some]
    dsimp only
    unfold f_X11_limped_37
    by_cases h : ahb A P X M s = true
    · rw [if_pos h, if_neg (show ¬ nI 1 = 0 by decide)]
      exact RQ_i (Fr_t (Wb_q f1) (Wn_q f2))
    · rw [if_neg h, if_pos (show nI 0 = 0 from rfl)]
      exact RQ_i (Fr_t (Wb_q f1) (Wn_q f2))
  · rw [if_neg (show ¬ nI q = 2 from fun e => c2 ((nI_eq (b := 2) (by omega) (by decide)).mp e)), if_neg c2]
    obtain ⟨V, hV⟩ : ∃ V, V = (if q = 0 then nI (sus A P X M s (A 1 * A 0)).length else lfi (A 0) (sus A P X M s (A 1 * A 0))) := ⟨_, rfl⟩
    rw [← hV]
    unfold l_X11_limped_45
    refine lp_S (RQ (fun τ => Fr Wq (s2 σ 118 0 0) τ) w u V) (fun g τ => (118, nI q, nI (sus A P X M s g).length, lfi (A 0) (sus A P X M s g), nI g, mk τ w u)) (fun g τ => Fr Wq (s2 σ 118 0 0) τ ∧ RV τ 0 A P X 0) (A 1 * A 0) ?_ ?_ (A 1 * A 0) 0 _ _ (by omega) (by omega) ⟨Fr_r _ _, rv0⟩
    · intro g hg k τ ⟨fr, r0⟩ hk
      obtain ⟨τ1, f1, q0, q33, e1⟩ := triesHeel_R (w := w) (u := u) r0 hg
      have fr1 := Fr_t fr (Wb_q f1)
      obtain ⟨τ2, f2, e2⟩ := isSeen_R (w := w) (u := u) (M := M) (s := s) q33 (by rw [th_z]; exact hx) (by rw [fr1 118 45 (by unfold Wq; omega)]; exact m0) (RSe_F rs0 fr1 (fun k e => by unfold Wq at e; omega)) ok
      have h := hk τ2 ⟨Fr_t fr1 (Wn_q f2), RV_o2 q0 f2⟩
      have a0 : τ 118 1 = nI (A 0) := r0.2.1.1.1
      have a1 : τ 118 2 = nI (A 1) := r0.2.1.1.2.1
      have a0' : τ2 118 1 = nI (A 0) := (RV_o2 q0 f2).2.1.1.1
      have hl := (sus_le A P X M s g).1
      dsimp only at h ⊢
      unfold f_X11_limped_45 f_X11_limped_102
      rw [zi118_1, Option.bind_some, a0, zi118_2, Option.bind_some, a1, pk_mul, Nat.mul_comm (A 0), if_neg (nI_ge hg (by omega)), e1, Option.bind_some, e2, Option.bind_some]
      dsimp only
      rw [sus_S] at h
      obtain ⟨L, hL⟩ : ∃ L, L = sus A P X M s g := ⟨_, rfl⟩
      rw [← hL] at h hl ⊢
      by_cases c : ahb A P (th (g / A 0) (g % A 0) X) M s = true
      · rw [if_pos c, List.length_append, lfi_a] at h
        rw [if_pos c, if_neg (show ¬ nI 1 = 0 by decide), nI_1, nI_1]
        cases L with
        | nil =>
          rw [if_pos rfl] at h
          rw [if_pos (show lfi (A 0) [] = -1 from rfl), zi118_1, Option.bind_some, a0', div_f (by omega) (by omega) (by omega), Option.bind_some, Option.bind_some, rem_f (by omega) (by omega) (by omega), Option.bind_some, show nI (g / A 0) * (100 : Int32) = nI (g / A 0 * 100) from pk_mul _ 100, nI_add, Nat.mul_comm (g / A 0)]
          exact h
        | cons a L =>
          rw [if_neg (by simp)] at h
          have ha : a < g := (sus_le A P X M s g).2 0 a (by rw [← hL]; rfl)
          have hd : a / A 0 ≤ a := Nat.div_le_self _ _
          have hm := Nat.mod_lt a (show A 0 > 0 by omega)
          rw [if_neg (show ¬ lfi (A 0) (a :: L) = -1 from fun e => by have e2 : nI (100 * (a / A 0) + a % A 0) = nJ 0 := e; rw [q_eqJ (by omega) (by omega)] at e2; omega)]
          exact h
      · rw [if_neg c] at h
        rw [if_neg c, if_pos (show nI 0 = 0 from rfl), nI_1]
        exact h
    · intro k τ ⟨fr, r0⟩
      have a0 : τ 118 1 = nI (A 0) := r0.2.1.1.1
      have a1 : τ 118 2 = nI (A 1) := r0.2.1.1.2.1
      dsimp only
      unfold f_X11_limped_45 f_X11_limped_108 f_X11_limped_117
      rw [zi118_1, Option.bind_some, a0, zi118_2, Option.bind_some, a1, pk_mul, Nat.mul_comm (A 0), if_pos (nI_le (Nat.le_refl _) (by omega)), hV]
      by_cases c0 : q = 0
      · rw [c0, if_pos (show nI 0 = 0 from rfl), if_pos rfl]
        exact RQ_i fr
      · rw [if_neg (nI_ne0 (by omega) (by omega)), if_neg c0]
        exact RQ_i fr
end OL
