/-! L3: next -/
def dd (f : Nat → Nat) : Nat → List Nat := it (fun k D => if f k ∈ D then D else D ++ [f k]) []
theorem dd_S (f : Nat → Nat) (k : Nat) : dd f (k + 1) = if f k ∈ dd f k then dd f k else dd f k ++ [f k] := rfl
theorem dd_mem (f : Nat → Nat) : ∀ (n x : Nat), x ∈ dd f n ↔ ∃ j, j < n ∧ f j = x := by
  intro n
  induction n with
  | zero => intro x; exact ⟨fun h => (List.not_mem_nil h).elim, fun ⟨j, h, _⟩ => by omega⟩
  | succ n ih =>
    intro x
    rw [dd_S]
    constructor
    · intro h
      split at h
      · obtain ⟨j, h1, h2⟩ := (ih x).mp h
        exact ⟨j, by omega, h2⟩
      · rcases List.mem_append.mp h with h | h
        · obtain ⟨j, h1, h2⟩ := (ih x).mp h
          exact ⟨j, by omega, h2⟩
        · rw [List.mem_singleton] at h
          exact ⟨n, by omega, h.symm⟩
    · intro ⟨j, h1, h2⟩
      by_cases c : j = n
      · subst c
        split
        · next h => rw [← h2]; exact h
        · exact List.mem_append.mpr (Or.inr (by rw [← h2]; exact List.mem_singleton.mpr rfl))
      · have h3 := (ih x).mpr ⟨j, by omega, h2⟩
        split
        · exact h3
        · exact List.mem_append.mpr (Or.inl h3)
theorem dd_le (f : Nat → Nat) : ∀ n, (dd f n).length ≤ n := by
  intro n
  induction n with
  | zero => exact Nat.le_refl _
  | succ n ih =>
    rw [dd_S]
    split
    · omega
    · rw [List.length_append]; show _ + 1 ≤ _; omega
/-- what a row is heard to tread by a suspect -/
def hz (A : Nat → Nat) (P : List (Nat × Nat)) (X : Nat → Nat) (L : List Nat) (r k : Nat) : Nat := he A P (th (L.getD k 0 / A 0) (L.getD k 0 % A 0) X) r (mq A (X 0))
def nxs (A : Nat → Nat) (P : List (Nat × Nat)) (X : Nat → Nat) (L : List Nat) : Nat → Nat × Nat := it (fun r s => if (dd (hz A P X L r) L.length).length ≤ s.2 then s else (r + 1, (dd (hz A P X L r) L.length).length)) (0, 0)
theorem nxs_S (A : Nat → Nat) (P : List (Nat × Nat)) (X : Nat → Nat) (L : List Nat) (r : Nat) : nxs A P X L (r + 1) = if (dd (hz A P X L r) L.length).length ≤ (nxs A P X L r).2 then nxs A P X L r else (r + 1, (dd (hz A P X L r) L.length).length) := rfl
theorem nxs_le (A : Nat → Nat) (P : List (Nat × Nat)) (X : Nat → Nat) (L : List Nat) : ∀ n, (nxs A P X L n).2 ≤ L.length := by
  intro n
  induction n with
  | zero => exact Nat.zero_le _
  | succ n ih =>
    rw [nxs_S]
    split
    · exact ih
    · exact dd_le _ _
def nxv (q : Nat) (s : Nat × Nat) : Int32 := if q = 0 then nJ s.1 else nI s.2
theorem getD_e {L : List Nat} {k g : Nat} (h : L[k]? = some g) : L.getD k 0 = g := by
  rw [List.getD_eq_getElem?_getD, h]; rfl
section OM
variable {σ : Nat → Nat → Int32} {w u : Int64} {A X Y Z T : Nat → Nat} {P : List (Nat × Nat)} {b om M : Nat} {s : Nat → Nat → Nat} {L : List Nat}
theorem isAmong_f {v : Nat} (hv : v < 4096) (D : List Nat) (hD : D.length ≤ 96) (hc : ∀ k x, D[k]? = some x → σ 106 k = nI x ∧ x < 4096) : f_X9_isAmong 100 (nI v) (nI D.length) (mk σ w u) = some (nI (if v ∈ D then 1 else 0), mk σ w u) := by
  unfold f_X9_isAmong
  rw [zg100]
  unfold l_X9_isAmong_2
  refine lp_S (fun x => x = some (nI (if v ∈ D then 1 else 0), mk σ w u)) (fun i τ => (100, nI v, nI D.length, nI i, mk τ w u)) (fun i τ => τ = σ ∧ ∀ j x, j < i → D[j]? = some x → x ≠ v) D.length ?_ ?_ D.length 0 _ σ (by omega) (by omega) ⟨rfl, fun j x h => by omega⟩
  · intro i hi k τ ⟨e, hI⟩ hk
    subst e
    obtain ⟨x, hx⟩ : ∃ x, D[i]? = some x := ⟨D[i], List.getElem?_eq_getElem hi⟩
    obtain ⟨h1, h2⟩ := hc i x hx
    dsimp only at hk ⊢
    unfold f_X9_isAmong_2
    rw [if_neg (nI_ge hi (by omega)), zr100_2, Option.bind_some, zt105 (by omega), Option.bind_some]
    dsimp only
    rw [h1]
    by_cases c : x = v
    · rw [c, if_pos rfl, if_pos (by rw [← c]; exact List.mem_of_getElem? hx)]
      unfold f_X9_isAmong_19
      rfl
    · rw [if_neg (fun e => c ((nI_eq (by omega) (by omega)).mp e)), nI_1]
      refine hk τ ⟨rfl, fun j y hj hy => ?_⟩
      by_cases cj : j = i
      · rw [cj, hx] at hy
        injection hy with hy
        rw [← hy]
        exact c
      · exact hI j y (by omega) hy
  · intro k τ ⟨e, hI⟩
    subst e
    dsimp only
    unfold f_X9_isAmong_2 f_X9_isAmong_27
    rw [if_pos (nI_le (Nat.le_refl _) (by omega)), if_pos (by decide), if_neg (fun h => by
      obtain ⟨j, hj⟩ := List.mem_iff_getElem?.mp h
      have hl : j < D.length := by
        by_cases c : j < D.length
        · exact c
        · rw [List.getElem?_eq_none (by omega)] at hj; cases hj
      exact hI j v hl hj rfl)]
    rfl
def Wi (q k : Nat) : Prop := q = 106 ∨ Wm 71 q k
theorem Wi_s {τ : Nat → Nat → Int32} (h : Fr Wi σ τ) : Fr Ws σ τ := Fr_m h (fun q k e => by unfold Ws; unfold Wi Wm at e; omega)
theorem GS_i {τ : Nat → Nat → Int32} {B : Nat} (gs : GS σ B L) (h : Fr Wi σ τ) : GS τ B L := ⟨by rw [h 100 3 (by unfold Wi Wm; omega)]; exact gs.1, fun k g hg => by rw [h 102 k (by unfold Wi Wm; omega), h 104 k (by unfold Wi Wm; omega)]; exact gs.2 k g hg⟩
theorem unlike_f (ct : CV σ 71 A P X) (gs : GS σ (A 0) L) (hL : L.length ≤ 96) (hg : ∀ (k g : Nat), L[k]? = some g → g < A 1 * A 0) (hx : X 0 ≤ 999) {r : Nat} (hr : r < A 2) : RQ (fun τ => Fr Wi σ τ ∧ CV τ 71 A P X ∧ GS τ (A 0) L) w u (nI (dd (hz A P X L r) L.length).length) (f_X9_unlikeSounds 100 71 (nI r) (mk σ w u)) := by
  have wa := ct.2.2.2.1
  have hB1 := wa.1
  have hB2 := wa.2.1
  have hM8 := wa.2.2.1
  have hR8 := wa.2.2.2.1
  obtain ⟨f, hf⟩ : ∃ f, f = hz A P X L r := ⟨_, rfl⟩
  have hf9 : ∀ k, f k < 4096 := fun k => by rw [hf]; exact he_lt _ _ _ _ _ hB2
  rw [← hf]
  unfold f_X9_unlikeSounds
  rw [zg100]
  unfold l_X9_unlikeSounds_5
  refine lp_S (RQ (fun τ => Fr Wi σ τ ∧ CV τ 71 A P X ∧ GS τ (A 0) L) w u (nI (dd f L.length).length)) (fun i τ => (100, 71, nI r, nI (dd f i).length, nI i, mk τ w u)) (fun i τ => Fr Wi σ τ ∧ CV τ 71 A P X ∧ ∀ (k x : Nat), (dd f i)[k]? = some x → τ 106 k = nI x ∧ x < 4096) L.length ?_ ?_ L.length 0 _ σ (by omega) (by omega) ⟨Fr_r _ _, ct, fun k x h => by rw [show dd f 0 = [] from rfl] at h; simp at h⟩
  · intro i hi k τ ⟨fr, c1, hD⟩ hk
    obtain ⟨g, hgi⟩ : ∃ g, L[i]? = some g := ⟨L[i], List.getElem?_eq_getElem hi⟩
    obtain ⟨g1, g2⟩ := ga (by omega) (hg i g hgi)
    have gs1 := GS_i gs fr
    obtain ⟨d1, d2⟩ := gs1.2 i g hgi
    have hdl := dd_le f i
    have efi : f i = he A P (th (g / A 0) (g % A 0) X) r (mq A (X 0)) := by rw [hf]; unfold hz; rw [getD_e hgi]
    obtain ⟨m, hm⟩ : ∃ m, m = g / A 0 := ⟨_, rfl⟩
    obtain ⟨b, hb⟩ : ∃ b, b = g % A 0 := ⟨_, rfl⟩
    rw [← hm] at g1 d1 efi
    rw [← hb] at g2 d2 efi
    obtain ⟨τ2, f2, c2, e2⟩ := heel_f (w := w) (u := u) c1 g1 g2
    obtain ⟨τ3, f3, e3⟩ := heardAt_f (w := w) (u := u) c2 (p := r) (n := 0) (by omega) (by rw [th_z]; omega)
    rw [rt_0, th_z, Nat.add_zero, ← efi] at e3
    have c3 := CV_fr c2 f3
    obtain ⟨τ4, f4, c4, e4⟩ := heel_f (w := w) (u := u) c3 g1 g2
    rw [th_th] at c4
    have f24 : Fr (Wm 71) τ τ4 := Fr_t f2 (Fr_t (Wc_m f3) f4)
    have fr4 : Fr Wi σ τ4 := Fr_t fr (Fr_m f24 (fun q k e => Or.inr e))
    have hD4 : ∀ (k x : Nat), (dd f i)[k]? = some x → τ4 106 k = nI x ∧ x < 4096 := fun k x h => by rw [f24 106 k (by unfold Wm; omega)]; exact hD k x h
    have f13 : Fr (Wm 71) τ τ3 := Fr_t f2 (Wc_m f3)
    have b1 : τ3 102 i = nI m := by rw [f13 102 i (by unfold Wm; omega)]; exact d1
    have b2 : τ3 104 i = nI b := by rw [f13 104 i (by unfold Wm; omega)]; exact d2
    dsimp only at hk ⊢
    unfold f_X9_unlikeSounds_5 f_X9_unlikeSounds_89
    rw [zi100_3, Option.bind_some, gs1.1, if_neg (nI_ge hi (by omega)), zr100_0, Option.bind_some, zt101 (by omega), Option.bind_some]
    dsimp only
    rw [zr100_1, Option.bind_some, zt103 (by omega), Option.bind_some]
    dsimp only
    rw [d1, d2, e2, Option.bind_some, show f_X3_heardAt 71 (nI r) 0 (mk τ2 w u) = some (nI (f i), mk τ3 w u) from e3, Option.bind_some]
    dsimp only
    rw [zr100_0, Option.bind_some, zt101 (by omega), Option.bind_some]
    dsimp only
    rw [zr100_1, Option.bind_some, zt103 (by omega), Option.bind_some]
    dsimp only
    rw [b1, b2, e4, Option.bind_some, isAmong_f (hf9 i) (dd f i) (by omega) hD4, Option.bind_some]
    dsimp only
    by_cases c : f i ∈ dd f i
    · have h := hk τ4 ⟨fr4, c4, by rw [dd_S, if_pos c]; exact hD4⟩
      rw [dd_S, if_pos c] at h
      rw [if_pos c, if_neg (show ¬ nI 1 = 0 by decide), nI_1]
      exact h
    · have h := hk (s2 τ4 106 (dd f i).length (nI (f i))) ⟨Fr_st fr4 (Or.inl rfl), CV_F c4 (Fr_s (W := fun q _ => q = 106) rfl) (fun q k e => by omega), by
        rw [dd_S, if_neg c]
        intro k x h
        rw [List.getElem?_append] at h
        split at h
        · next h9 => rw [s2_off (by omega)]; exact hD4 k x h
        · next h9 =>
          have hn : k = (dd f i).length := by
            by_cases c : k - (dd f i).length = 0
            · omega
            · rw [List.getElem?_eq_none (by show 1 ≤ _; omega)] at h; cases h
          subst hn
          rw [Nat.sub_self] at h
          have hg2 : f i = x := by injection h
          rw [s2_at rfl rfl, ← hg2]
          exact ⟨rfl, hf9 i⟩⟩
      rw [dd_S, if_neg c, List.length_append] at h
      rw [if_neg c, if_pos (show nI 0 = 0 from rfl), zr100_2, Option.bind_some, zs105 (by omega), Option.bind_some, nI_1, nI_1]
      exact h
  · intro k τ ⟨fr, c1, hD⟩
    have gs1 := GS_i gs fr
    dsimp only
    unfold f_X9_unlikeSounds_5 f_X9_unlikeSounds_95
    rw [zi100_3, Option.bind_some, gs1.1, if_pos (nI_le (Nat.le_refl _) (by omega))]
    exact ⟨τ, ⟨fr, c1, gs1⟩, rfl⟩
theorem cl_next (cv : CV σ 34 A P X) (cs : CS σ 25 M s) (ok : OkS A M s) (hx : X 0 ≤ 999) {q : Nat} (hql : q ≤ 1) : RQ (Fr Ws σ) w u (nxv q (nxs A P X (sus A P X M s (A 1 * A 0)) (A 2))) (f_X10_next 0 (nI q) (mk σ w u)) := by
  have wa := cv.2.2.2.1
  have hR8 := wa.2.2.2.1
  have hl := (sus_le A P X M s (A 1 * A 0)).1
  have hg := (sus_le A P X M s (A 1 * A 0)).2
  have h96 : A 1 * A 0 ≤ 8 * 12 := Nat.mul_le_mul wa.2.2.1 wa.2.1
  obtain ⟨τ1, f1, c71, c34, e1⟩ := trial_f (w := w) (u := u) cv
  obtain ⟨τ2, ⟨f2, d71, gs⟩, e2⟩ := gather_f (w := w) (u := u) c71 (CS_s cs (Wm_s f1)) ok hx
  have fr0 := Fr_t (Wm_s f1) (Wf_s f2)
  unfold f_X10_next
  rw [zg0]
  rw [show f_X10_needWhat (nI q) 1 (mk σ w u) = some (mk σ w u) from needWhat_f (b := 1) hql (by decide), Option.bind_some]
  rw [zr0_9, Option.bind_some, zr0_8, Option.bind_some, e1, Option.bind_some, zr0_11, Option.bind_some, zr0_9, Option.bind_some, zr0_5, Option.bind_some, zr15_2, Option.bind_some, e2, Option.bind_some]
  obtain ⟨L, hL⟩ : ∃ L, L = sus A P X M s (A 1 * A 0) := ⟨_, rfl⟩
  rw [← hL] at gs hl hg ⊢
  obtain ⟨V, hV⟩ : ∃ V, V = nxv q (nxs A P X L (A 2)) := ⟨_, rfl⟩
  rw [← hV]
  unfold l_X10_next_41
  refine lp_S (RQ (Fr Ws σ) w u V) (fun r τ => (0, nI q, nJ (nxs A P X L r).1, nI (nxs A P X L r).2, nI r, mk τ w u)) (fun r τ => Fr Ws σ τ ∧ CV τ 71 A P X ∧ GS τ (A 0) L) (A 2) ?_ ?_ (A 2) 0 _ τ2 (by omega) (by omega) ⟨fr0, d71, gs⟩
  · intro r hr k τ ⟨fr, c1, gs1⟩ hk
    obtain ⟨τ3, ⟨f3, c3, gs3⟩, e3⟩ := unlike_f (w := w) (u := u) c1 gs1 (by omega) hg hx hr
    have a2 : τ 5 2 = nI (A 2) := c1.2.1.1.2.2.1
    have h := hk τ3 ⟨Fr_t fr (Wi_s f3), c3, gs3⟩
    have hn := nxs_le A P X L r
    have hd := dd_le (hz A P X L r) L.length
    dsimp only at h ⊢
    rw [nxs_S] at h
    unfold f_X10_next_41 f_X10_next_80
    rw [zr0_4, Option.bind_some, zi5_2, Option.bind_some, a2, if_neg (nI_ge hr (by omega)), zr0_11, Option.bind_some, zr0_9, Option.bind_some, e3, Option.bind_some]
    dsimp only
    rw [nI_1]
    by_cases c : (dd (hz A P X L r) L.length).length ≤ (nxs A P X L r).2
    · rw [if_pos c] at h
      rw [if_pos (nI_le c (by omega))]
      exact h
    · rw [if_neg c, nJ_S] at h
      rw [if_neg (nI_ge (by omega) (by omega))]
      exact h
  · intro k τ ⟨fr, c1, gs1⟩
    have a2 : τ 5 2 = nI (A 2) := c1.2.1.1.2.2.1
    dsimp only
    unfold f_X10_next_41 f_X10_next_86 f_X10_next_95
    rw [zr0_4, Option.bind_some, zi5_2, Option.bind_some, a2, if_pos (nI_le (Nat.le_refl _) (by omega)), hV]
    unfold nxv
    by_cases c0 : q = 0
    · rw [c0, if_pos (show nI 0 = 0 from rfl), if_pos rfl]
      exact RQ_i fr
    · rw [if_neg (nI_ne0 (by omega) (by omega)), if_neg c0]
      exact RQ_i fr
theorem re_next (rv : RV σ 0 A P X 0) (hM : σ 118 45 = nI M) (rs : RSe σ 133 M s) (ok : OkS A M s) (hx : X 0 ≤ 999) {q : Nat} (hql : q ≤ 1) : RQ (fun τ => Fr Wq (s2 σ 118 0 0) τ) w u (nxv q (nxs A P X (sus A P X M s (A 1 * A 0)) (A 2))) (f_X11_next 118 (nI q) (mk σ w u)) := by
  have t0 : (s2 σ 118 0 0) 118 0 = nI 0 := by rw [s2_at rfl rfl]; rfl
  have rv0 : RV (s2 σ 118 0 0) 0 A P X 0 := RV_F rv (Fr_s (W := fun q k => q = 118 ∧ k = 0) ⟨rfl, rfl⟩) (fun q k e => by omega)
  have tm := rv0.2.1.1.2.1; have tr := rv0.2.1.1.2.2.1; have tb := rv0.2.1.1.1; have hB1 := rv.2.2.2.2.1.1; have hB2 := rv.2.2.2.2.1.2.1; have hM8 := rv.2.2.2.2.1.2.2.1; have hR8 := rv.2.2.2.2.1.2.2.2.1; have hS12 := rv.2.2.2.2.1.2.2.2.2.1; have hT := RV_b rv
  have hB1 := rv.2.2.2.2.1.1
  have h96 : A 1 * A 0 ≤ 8 * 12 := Nat.mul_le_mul hM8 hB2
  have m0 : (s2 σ 118 0 0) 118 45 = nI M := by rw [s2_off (by omega)]; exact hM
  have rs0 : RSe (s2 σ 118 0 0) 133 M s := RSe_F rs (Fr_s (W := fun q k => q = 118) rfl) (fun k e => by omega)
  unfold f_X11_next
  rw [zg118, zw118_0, Option.bind_some]
  rw [show f_X11_isWhat 118 (nI q) 1 (mk (s2 σ 118 0 0) w u) = some (nI 1, mk (s2 σ 118 0 0) w u) from isWhat_1 (b := 1) hql (by decide) t0, Option.bind_some]
  dsimp only
  rw [if_neg (show ¬ nI 1 = 0 by decide)]
  obtain ⟨V, hV⟩ : ∃ V, V = nxv q (nxs A P X (sus A P X M s (A 1 * A 0)) (A 2)) := ⟨_, rfl⟩
  rw [← hV]
  unfold l_X11_next_20
  refine lp_S (RQ (fun τ => Fr Wq (s2 σ 118 0 0) τ) w u V) (fun g τ => (118, nI q, nI (sus A P X M s g).length, nI g, mk τ w u)) (fun g τ => Fr Wq (s2 σ 118 0 0) τ ∧ RV τ 0 A P X 0 ∧ ∀ k r, k < (sus A P X M s g).length → r < A 2 → τ 134 (8 * k + r) = nI (hz A P X (sus A P X M s g) r k)) (A 1 * A 0) ?_ ?_ (A 1 * A 0) 0 _ _ (by omega) (by omega) ⟨Fr_r _ _, rv0, fun k r h => by rw [show sus A P X M s 0 = [] from rfl] at h; exact absurd h (Nat.not_lt_zero _)⟩
  · intro g hg k τ ⟨fr, r0, hH⟩ hk
    obtain ⟨τ1, f1, q0, q33, e1⟩ := triesHeel_R (w := w) (u := u) r0 hg
    have fr1 := Fr_t fr (Wb_q f1)
    obtain ⟨τ2, f2, e2⟩ := isSeen_R (w := w) (u := u) (M := M) (s := s) q33 (by rw [th_z]; exact hx) (by rw [fr1 118 45 (by unfold Wq; omega)]; exact m0) (RSe_F rs0 fr1 (fun k e => by unfold Wq at e; omega)) ok
    have p0 := RV_o2 q0 f2
    obtain ⟨τ3, f3, o0, o33, e3⟩ := triesHeel_R (w := w) (u := u) p0 hg
    have fr2 := Fr_t fr1 (Wn_q f2)
    have fr3 := Fr_t fr2 (Wb_q f3)
    have a0 : τ 118 1 = nI (A 0) := r0.2.1.1.1
    have a1 : τ 118 2 = nI (A 1) := r0.2.1.1.2.1
    have hl := (sus_le A P X M s g).1
    have hH2 : ∀ k r, k < (sus A P X M s g).length → r < A 2 → τ2 134 (8 * k + r) = nI (hz A P X (sus A P X M s g) r k) := fun k r h1 h2 => by rw [f2 134 _ (by unfold Wn; omega), f1 134 _ (by unfold Wb; omega)]; exact hH k r h1 h2
    have hH3 : ∀ k r, k < (sus A P X M s g).length → r < A 2 → τ3 134 (8 * k + r) = nI (hz A P X (sus A P X M s g) r k) := fun k r h1 h2 => by rw [f3 134 _ (by unfold Wb; omega)]; exact hH2 k r h1 h2
    dsimp only at hk ⊢
    unfold f_X11_next_20 f_X11_next_94
    rw [zi118_1, Option.bind_some, a0, zi118_2, Option.bind_some, a1, pk_mul, Nat.mul_comm (A 0), if_neg (nI_ge hg (by omega)), e1, Option.bind_some, e2, Option.bind_some]
    dsimp only
    obtain ⟨L, hL⟩ : ∃ L, L = sus A P X M s g := ⟨_, rfl⟩
    rw [sus_S] at hk
    rw [← hL] at hk hl hH2 hH3 ⊢
    by_cases c : ahb A P (th (g / A 0) (g % A 0) X) M s = true
    · rw [if_pos c] at hk
      rw [if_pos c, if_neg (show ¬ nI 1 = 0 by decide), e3, Option.bind_some]
      unfold l_X11_next_56
      refine lp_S (RQ (fun τ => Fr Wq (s2 σ 118 0 0) τ) w u V) (fun r τ => (118, nI q, nI L.length, nI g, nI r, mk τ w u)) (fun r τ => Fr Wq (s2 σ 118 0 0) τ ∧ RV τ 0 A P X 0 ∧ RV τ 33 A P (th (g / A 0) (g % A 0) X) 0 ∧ (∀ k r, k < L.length → r < A 2 → τ 134 (8 * k + r) = nI (hz A P X L r k)) ∧ ∀ r', r' < r → τ 134 (8 * L.length + r') = nI (he A P (th (g / A 0) (g % A 0) X) r' (mq A (X 0)))) (A 2) ?_ ?_ (A 2) 0 _ τ3 (by omega) (by omega) ⟨fr3, o0, o33, hH3, fun r h => by omega⟩
      · intro r hr k2 τ4 ⟨fr4, n0, n33, hH4, hN⟩ hk2
        have a2 : τ4 118 3 = nI (A 2) := n0.2.1.1.2.2.1
        obtain ⟨τ5, f5, e5⟩ := heardOf_f (w := w) (u := u) n33 hr
        rw [mo_0, th_z] at e5
        have f6 : Fr (fun q _ => q = 134) τ5 (s2 τ5 134 (8 * L.length + r) (nI (he A P (th (g / A 0) (g % A 0) X) r (mq A (X 0))))) := Fr_s rfl
        have h := hk2 (s2 τ5 134 (8 * L.length + r) (nI (he A P (th (g / A 0) (g % A 0) X) r (mq A (X 0))))) ⟨Fr_t (Fr_t fr4 (Wr_q f5)) (Fr_m f6 (fun q k e => by unfold Wq; omega)), RV_F (RV_fr n0 f5) f6 (fun q k e => by omega), RV_F (RV_fr n33 f5) f6 (fun q k e => by omega), fun k r h1 h2 => by rw [s2_off (by omega), f5 134 _ (by unfold Wr; omega)]; exact hH4 k r h1 h2, fun r' h1 => by
          by_cases e : r' = r
          · rw [e, s2_at rfl rfl]
          · rw [s2_off (by omega), f5 134 _ (by unfold Wr; omega)]; exact hN r' (by omega)⟩
        dsimp only at h ⊢
        unfold f_X11_next_56
        rw [zi118_3, Option.bind_some, a2, if_neg (nI_ge hr (by omega)), zr118_47, Option.bind_some, show f_X11_heardOf 118 33 (nI r) (mk τ4 w u) = some (nI (he A P (th (g / A 0) (g % A 0) X) r (mq A (X 0))), mk τ5 w u) from e5, Option.bind_some]
        dsimp only
        rw [show (8 : Int32) * nI L.length = nI (8 * L.length) from pk_mul 8 _, nI_add, zb134 (by omega), Option.bind_some, nI_1]
        exact h
      · intro k2 τ4 ⟨fr4, n0, n33, hH4, hN⟩
        have a2 : τ4 118 3 = nI (A 2) := n0.2.1.1.2.2.1
        have h := hk τ4 ⟨fr4, n0, fun k r h1 h2 => by
          rw [List.length_append] at h1
          have h1 : k < L.length + 1 := h1
          unfold hz
          by_cases e : k = L.length
          · rw [e, getD_e (show (L ++ [g])[L.length]? = some g by rw [List.getElem?_append_right (Nat.le_refl _), Nat.sub_self]; rfl)]
            exact hN r h2
          · rw [hH4 k r (by omega) h2]
            unfold hz
            rw [List.getD_eq_getElem?_getD, List.getD_eq_getElem?_getD, List.getElem?_append_left (by omega)]⟩
        rw [List.length_append] at h
        dsimp only
        unfold f_X11_next_56 f_X11_next_91 f_X11_next_94
        rw [zi118_3, Option.bind_some, a2, if_pos (nI_le (Nat.le_refl _) (by omega)), nI_1, nI_1]
        exact h
    · rw [if_neg c] at hk
      have h := hk τ2 ⟨fr2, p0, hH2⟩
      rw [if_neg c, if_pos (show nI 0 = 0 from rfl), nI_1]
      exact h
  · intro k τ ⟨fr, r0, hH⟩
    have hl := (sus_le A P X M s (A 1 * A 0)).1
    obtain ⟨L, hL⟩ : ∃ L, L = sus A P X M s (A 1 * A 0) := ⟨_, rfl⟩
    rw [← hL] at hH hl hV ⊢
    have a0 : τ 118 1 = nI (A 0) := r0.2.1.1.1
    have a1 : τ 118 2 = nI (A 1) := r0.2.1.1.2.1
    have a2 : τ 118 3 = nI (A 2) := r0.2.1.1.2.2.1
    dsimp only
    unfold f_X11_next_20 f_X11_next_100
    rw [zi118_1, Option.bind_some, a0, zi118_2, Option.bind_some, a1, pk_mul, Nat.mul_comm (A 0), if_pos (nI_le (Nat.le_refl _) (by omega))]
    unfold l_X11_next_108
    refine lp_S (RQ (fun τ => Fr Wq (s2 σ 118 0 0) τ) w u V) (fun r τ => (118, nI q, nI L.length, nJ (nxs A P X L r).1, nI (nxs A P X L r).2, nI r, mk τ w u)) (fun r τ' => τ' = τ) (A 2) ?_ ?_ (A 2) 0 _ τ (by omega) (by omega) rfl
    · intro r hr k2 τ2 e hk2
      subst e
      have hn := nxs_le A P X L r
      obtain ⟨f, hf⟩ : ∃ f, f = hz A P X L r := ⟨_, rfl⟩
      have hf9 : ∀ k, f k < 4096 := fun k => by rw [hf]; exact he_lt _ _ _ _ _ hB2
      have hHr : ∀ k, k < L.length → τ2 134 (8 * k + r) = nI (f k) := fun k h => by rw [hf]; exact hH k r h hr
      dsimp only at hk2 ⊢
      unfold f_X11_next_108
      rw [zi118_3, Option.bind_some, a2, if_neg (nI_ge hr (by omega))]
      unfold l_X11_next_123
      refine lp_S (RQ (fun τ => Fr Wq (s2 σ 118 0 0) τ) w u V) (fun i τ => (118, nI q, nI L.length, nJ (nxs A P X L r).1, nI (nxs A P X L r).2, nI r, nI (dd f i).length, nI i, mk τ w u)) (fun i τ' => τ' = τ2) L.length ?_ ?_ L.length 0 _ τ2 (by omega) (by omega) rfl
      · intro i hi k3 τ3 e hk3
        subst e
        have h := hk3 τ3 rfl
        have hdl := dd_le f i
        have kf : ∀ c, c < 2 → (c = 0 ↔ f i ∈ dd f i) → RQ (fun τ => Fr Wq (s2 σ 118 0 0) τ) w u V (f_X11_next_189 (fun a0 a1 a2 a3 a4 a5 a6 => k2 (a0, a1, a2, a3, a4, a5, a6)) (fun a0 a1 a2 a3 a4 a5 a6 a7 a8 => k3 (a0, a1, a2, a3, a4, a5, a6, a7, a8)) 118 (nI q) (nI L.length) (nJ (nxs A P X L r).1) (nI (nxs A P X L r).2) (nI r) (nI (dd f i).length) (nI i) (nI c) (mk τ3 w u)) := by
          intro c hc hiff
          rw [dd_S] at h
          unfold f_X11_next_189 f_X11_next_201
          by_cases c0 : c = 0
          · rw [if_pos (hiff.mp c0)] at h
            rw [c0, if_pos (show nI 0 = 0 from rfl), show nI (dd f i).length + (0 : Int32) = nI ((dd f i).length + 0) from nI_add _ 0, Nat.add_zero, nI_1]
            exact h
          · rw [if_neg (fun e => c0 (hiff.mpr e)), List.length_append] at h
            rw [if_neg (nI_ne0 (by omega) (by omega)), nI_1, nI_1]
            exact h
        dsimp only
        unfold f_X11_next_123
        rw [if_neg (nI_ge hi (by omega))]
        unfold l_X11_next_135
        have stop : ∀ (k4 : Nat × Int32 × Int32 × Int32 × Int32 × Int32 × Int32 × Int32 × Int32 × Int32 × hp_H → Option (Int32 × hp_H)) j, j ≤ i → f i ∈ dd f i → RQ (fun τ => Fr Wq (s2 σ 118 0 0) τ) w u V (f_X11_next_135 (fun a0 a1 a2 a3 a4 a5 a6 => k2 (a0, a1, a2, a3, a4, a5, a6)) (fun a0 a1 a2 a3 a4 a5 a6 a7 a8 => k3 (a0, a1, a2, a3, a4, a5, a6, a7, a8)) (fun a0 a1 a2 a3 a4 a5 a6 a7 a8 a9 a10 => k4 (a0, a1, a2, a3, a4, a5, a6, a7, a8, a9, a10)) 118 (nI q) (nI L.length) (nJ (nxs A P X L r).1) (nI (nxs A P X L r).2) (nI r) (nI (dd f i).length) (nI i) (nI 0) (nI j) (mk τ3 w u)) := by
          intro k4 j hj hm
          have kk := kf 0 (by omega) ⟨fun _ => hm, fun _ => rfl⟩
          unfold f_X11_next_135
          rw [if_pos (show nI 0 = 0 from rfl)]
          split
          · exact kk
          · exact kk
        refine lp_G (RQ (fun τ => Fr Wq (s2 σ 118 0 0) τ) w u V) (fun j st => (∃ c, st = (118, nI q, nI L.length, nJ (nxs A P X L r).1, nI (nxs A P X L r).2, nI r, nI (dd f i).length, nI i, nI c, nI j, mk τ3 w u) ∧ ((c = 0 ∧ f i ∈ dd f i) ∨ (c = 1 ∧ ∀ j', j' < j → f j' ≠ f i)))) i ?_ ?_ i 0 _ _ (by omega) (by omega) ⟨1, rfl, Or.inr ⟨rfl, fun j h => by omega⟩⟩
        · intro j hj k4 st ⟨c, est, hc⟩ hk4
          subst est
          dsimp only
          rcases hc with ⟨hc, hm⟩ | ⟨hc, hm⟩
          · rw [hc]
            exact stop k4 j (by omega) hm
          · rw [hc]
            unfold f_X11_next_135 f_X11_next_181
            rw [if_neg (nI_ge hj (by omega)), if_neg (show ¬ nI 1 = 0 by decide), zr118_47, Option.bind_some, show (8 : Int32) * nI i = nI (8 * i) from pk_mul 8 _, nI_add, za134 (by omega), Option.bind_some, Option.bind_some, show (8 : Int32) * nI j = nI (8 * j) from pk_mul 8 _, nI_add, za134 (by omega), Option.bind_some, hHr i hi, hHr j (by omega), nI_1]
            have h4 := hf9 i
            have h5 := hf9 j
            by_cases c : f i = f j
            · rw [c, if_pos rfl]
              exact hk4 _ ⟨0, rfl, Or.inl ⟨rfl, (dd_mem f i (f i)).mpr ⟨j, hj, c.symm⟩⟩⟩
            · rw [if_neg (fun e => c ((nI_eq (by omega) (by omega)).mp e))]
              exact hk4 _ ⟨1, rfl, Or.inr ⟨rfl, fun j' h => by
                by_cases e : j' = j
                · rw [e]; exact fun e2 => c e2.symm
                · exact hm j' (by omega)⟩⟩
        · intro k4 st ⟨c, est, hc⟩
          subst est
          dsimp only
          rcases hc with ⟨hc, hm⟩ | ⟨hc, hm⟩
          · rw [hc]
            exact stop k4 i (by omega) hm
          · rw [hc]
            have kk := kf 1 (by omega) ⟨fun h => by omega, fun h => by obtain ⟨j, h1, h2⟩ := (dd_mem f i (f i)).mp h; exact absurd h2 (hm j h1)⟩
            unfold f_X11_next_135
            rw [if_pos (nI_le (Nat.le_refl _) (by omega))]
            exact kk
      · intro k3 τ3 e
        subst e
        have h := hk2 τ3 rfl
        have hd := dd_le f L.length
        dsimp only at h ⊢
        rw [nxs_S, ← hf] at h
        unfold f_X11_next_123 f_X11_next_210 f_X11_next_227
        rw [if_pos (nI_le (Nat.le_refl _) (by omega)), nI_1]
        by_cases c : (dd f L.length).length ≤ (nxs A P X L r).2
        · rw [if_pos c] at h
          rw [if_neg (nI_nlt c (by omega))]
          exact h
        · rw [if_neg c, nJ_S] at h
          rw [if_pos ((nI_ltI (by omega) (by omega)).mpr (by omega))]
          exact h
    · intro k2 τ2 e
      subst e
      dsimp only
      unfold f_X11_next_108 f_X11_next_233 f_X11_next_243
      rw [zi118_3, Option.bind_some, a2, if_pos (nI_le (Nat.le_refl _) (by omega)), hV]
      unfold nxv
      by_cases c0 : q = 0
      · rw [c0, if_pos (show nI 0 = 0 from rfl), if_pos rfl]
        exact RQ_i fr
      · rw [if_neg (nI_ne0 (by omega) (by omega)), if_neg c0]
        exact RQ_i fr
end OM
