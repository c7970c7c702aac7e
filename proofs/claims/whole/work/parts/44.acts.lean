/-! L3: the class's acts, sights, states -/
def isAc (a : Nat) : Prop := sh[a]? = some (.inr (0, [a + 3, a + 5, a + 7, a + 9, 0])) ∧ isC (a + 1) 40 ∧ isC (a + 3) 40 ∧ isC (a + 5) 40 ∧ isC (a + 7) 320
def isSi (a : Nat) : Prop := sh[a]? = some (.inr (7, [a + 3, a + 5, a + 7, a + 9, 0])) ∧ isC (a + 1) 8 ∧ isC (a + 3) 8 ∧ isC (a + 5) 8 ∧ isC (a + 7) 8
theorem isAc_16 : isAc 16 := ⟨rfl, ⟨rfl, rfl, by decide⟩, ⟨rfl, rfl, by decide⟩, ⟨rfl, rfl, by decide⟩, ⟨rfl, rfl, by decide⟩⟩
theorem isAc_44 : isAc 44 := ⟨rfl, ⟨rfl, rfl, by decide⟩, ⟨rfl, rfl, by decide⟩, ⟨rfl, rfl, by decide⟩, ⟨rfl, rfl, by decide⟩⟩
theorem isSi_25 : isSi 25 := ⟨rfl, ⟨rfl, rfl, by decide⟩, ⟨rfl, rfl, by decide⟩, ⟨rfl, rfl, by decide⟩, ⟨rfl, rfl, by decide⟩⟩
theorem isSi_53 : isSi 53 := ⟨rfl, ⟨rfl, rfl, by decide⟩, ⟨rfl, rfl, by decide⟩, ⟨rfl, rfl, by decide⟩, ⟨rfl, rfl, by decide⟩⟩
def tw (K U : Nat) : Int32 := if K = 1 then nJ U else nI U
/-- acts kept: N of them, of a kind, with two numbers, S k as it was ahead of act k -/
def CA (σ : Nat → Nat → Int32) (a N : Nat) (K O U : Nat → Nat) (S : Nat → Nat → Nat) : Prop := N ≤ 40 ∧ σ a 4 = nI N ∧ ∀ k, k < N → σ (a + 2) k = nI (K k) ∧ σ (a + 4) k = nI (O k) ∧ σ (a + 6) k = tw (K k) (U k) ∧ ∀ j, j < 8 → σ (a + 8) (k * 8 + j) = nI (S k (17 + j))
def CS (σ : Nat → Nat → Int32) (a M : Nat) (s : Nat → Nat → Nat) : Prop := M ≤ 8 ∧ σ a 4 = nI M ∧ ∀ i, i < M → σ (a + 2) i = nI (s i 0) ∧ σ (a + 4) i = nI (s i 1 - 1) ∧ σ (a + 6) i = nI (s i 2) ∧ σ (a + 8) i = nI (s i 3)
def Wa (a q _k : Nat) : Prop := q = a ∨ q = a + 2 ∨ q = a + 4 ∨ q = a + 6 ∨ q = a + 8
theorem CA_F {σ τ : Nat → Nat → Int32} {a N : Nat} {K O U : Nat → Nat} {S : Nat → Nat → Nat} {W : Nat → Nat → Prop} (h : CA σ a N K O U S) (fr : Fr W σ τ) (hw : ∀ q k, W q k → ¬ Wa a q k) : CA τ a N K O U S := by
  have g : ∀ q k, Wa a q k → τ q k = σ q k := fun q k e => fr q k (fun e2 => hw q k e2 e)
  obtain ⟨h1, h2, h3⟩ := h
  refine ⟨h1, by rw [g _ _ (by unfold Wa; omega)]; exact h2, fun k hk => ?_⟩
  obtain ⟨x1, x2, x3, x4⟩ := h3 k hk
  rw [g _ _ (by unfold Wa; omega), g _ _ (by unfold Wa; omega), g _ _ (by unfold Wa; omega)]
  exact ⟨x1, x2, x3, fun j hj => by rw [g _ _ (by unfold Wa; omega)]; exact x4 j hj⟩
theorem CS_F {σ τ : Nat → Nat → Int32} {a M : Nat} {s : Nat → Nat → Nat} {W : Nat → Nat → Prop} (h : CS σ a M s) (fr : Fr W σ τ) (hw : ∀ q k, W q k → ¬ Wa a q k) : CS τ a M s := by
  have g : ∀ q k, Wa a q k → τ q k = σ q k := fun q k e => fr q k (fun e2 => hw q k e2 e)
  obtain ⟨h1, h2, h3⟩ := h
  refine ⟨h1, by rw [g _ _ (by unfold Wa; omega)]; exact h2, fun k hk => ?_⟩
  rw [g _ _ (by unfold Wa; omega), g _ _ (by unfold Wa; omega), g _ _ (by unfold Wa; omega), g _ _ (by unfold Wa; omega)]
  exact h3 k hk
theorem CV_F {σ τ : Nat → Nat → Int32} {m : Nat} {A X : Nat → Nat} {P : List (Nat × Nat)} {W : Nat → Nat → Prop} (cv : CV σ m A P X) (fr : Fr W σ τ) (hw : ∀ q k, W q k → ¬ (q = 5 ∨ q = 7 ∨ q = 8 ∨ q = 12 ∨ q = m ∨ q = m + 2 ∨ q = m + 4 ∨ q = m + 6 ∨ q = m + 8)) : CV τ m A P X := by
  obtain ⟨hm, ⟨⟨a0, a1, a2, a3, a4⟩, am, al, ap, ac⟩, ⟨n, x⟩, r⟩ := cv
  have g : ∀ q k, (q = 5 ∨ q = 7 ∨ q = 8 ∨ q = 12 ∨ q = m ∨ q = m + 2 ∨ q = m + 4 ∨ q = m + 6 ∨ q = m + 8) → τ q k = σ q k := fun q k h => fr q k (fun e => hw q k e h)
  refine ⟨hm, ⟨⟨?_, ?_, ?_, ?_, ?_⟩, ?_, ?_, ap, ?_⟩, ⟨?_, ?_⟩, r⟩
  · rw [g _ _ (by omega)]; exact a0
  · rw [g _ _ (by omega)]; exact a1
  · rw [g _ _ (by omega)]; exact a2
  · rw [g _ _ (by omega)]; exact a3
  · rw [g _ _ (by omega)]; exact a4
  · intro j hj; rw [g _ _ (by omega)]; exact am j hj
  · rw [g _ _ (by omega)]; exact al
  · intro j k n hj; rw [g _ _ (by omega)]; exact ac j k n hj
  · rw [g _ _ (by omega)]; exact n
  · intro i hi
    rw [g _ _ (by omega), g _ _ (by omega), g _ _ (by omega), g _ _ (by omega)]
    exact x i hi
section AC2
variable {σ : Nat → Nat → Int32} {w u : Int64} {a m i : Nat} {A X : Nat → Nat} {P : List (Nat × Nat)} {v : Int32} {N : Nat} {K O U : Nat → Nat} {S : Nat → Nat → Nat}
theorem Ac_g {β : Type} {x : Option β} (h : isAc a) : gd (mk σ w u) a 0 x = x := gdm h.1
theorem Ac_0 (h : isAc a) : rd_R (mk σ w u) a 0 0 = some (a + 1) := rR h.1 rfl
theorem Ac_1 (h : isAc a) : rd_R (mk σ w u) a 0 1 = some (a + 3) := rR h.1 rfl
theorem Ac_2 (h : isAc a) : rd_R (mk σ w u) a 0 2 = some (a + 5) := rR h.1 rfl
theorem Ac_3 (h : isAc a) : rd_R (mk σ w u) a 0 3 = some (a + 7) := rR h.1 rfl
theorem Ac_n (h : isAc a) : rd_I (mk σ w u) a 0 4 = some (σ a 4) := rI h.1 rfl
theorem Ac_wn (h : isAc a) : wr_I (mk σ w u) a 0 4 v = some (mk (s2 σ a 4 v) w u) := wI h.1 rfl
theorem Ac_a0 (h : isAc a) (hi : i < 40) : f_X2_at (a + 1) (nI i) (mk σ w u) = some (σ (a + 2) i, mk σ w u) := C_at h.2.1 hi
theorem Ac_a1 (h : isAc a) (hi : i < 40) : f_X2_at (a + 3) (nI i) (mk σ w u) = some (σ (a + 4) i, mk σ w u) := C_at h.2.2.1 hi
theorem Ac_a2 (h : isAc a) (hi : i < 40) : f_X2_at (a + 5) (nI i) (mk σ w u) = some (σ (a + 6) i, mk σ w u) := C_at h.2.2.2.1 hi
theorem Ac_a3 (h : isAc a) (hi : i < 320) : f_X2_at (a + 7) (nI i) (mk σ w u) = some (σ (a + 8) i, mk σ w u) := C_at h.2.2.2.2 hi
theorem Ac_s0 (h : isAc a) (hi : i < 40) : f_X2_set (a + 1) (nI i) v (mk σ w u) = some (mk (s2 σ (a + 2) i v) w u) := C_set h.2.1 hi
theorem Ac_s1 (h : isAc a) (hi : i < 40) : f_X2_set (a + 3) (nI i) v (mk σ w u) = some (mk (s2 σ (a + 4) i v) w u) := C_set h.2.2.1 hi
theorem Ac_s2 (h : isAc a) (hi : i < 40) : f_X2_set (a + 5) (nI i) v (mk σ w u) = some (mk (s2 σ (a + 6) i v) w u) := C_set h.2.2.2.1 hi
theorem Ac_s3 (h : isAc a) (hi : i < 320) : f_X2_set (a + 7) (nI i) v (mk σ w u) = some (mk (s2 σ (a + 8) i v) w u) := C_set h.2.2.2.2 hi
/-- the earliest dropped -/
theorem drop_f (ha : isAc a) (ca : CA σ a 40 K O U S) : RN (fun τ => Fr (Wa a) σ τ ∧ CA τ a 39 (fun k => K (k + 1)) (fun k => O (k + 1)) (fun k => U (k + 1)) (fun k => S (k + 1))) w u (f_X0_dropEarliest a (mk σ w u)) := by
  obtain ⟨-, hN, hC⟩ := ca
  unfold f_X0_dropEarliest l_X0_dropEarliest_2
  rw [Ac_g ha]
  refine lp_S (RN (fun τ => Fr (Wa a) σ τ ∧ CA τ a 39 (fun k => K (k + 1)) (fun k => O (k + 1)) (fun k => U (k + 1)) (fun k => S (k + 1))) w u) (fun i τ => (a, nI (1 + i), mk τ w u)) (fun i τ => Fr (Wa a) σ τ ∧ τ a 4 = nI 40 ∧ (∀ k, τ (a + 2) k = if k < i then σ (a + 2) (k + 1) else σ (a + 2) k) ∧ (∀ k, τ (a + 4) k = if k < i then σ (a + 4) (k + 1) else σ (a + 4) k) ∧ (∀ k, τ (a + 6) k = if k < i then σ (a + 6) (k + 1) else σ (a + 6) k) ∧ ∀ k, τ (a + 8) k = σ (a + 8) k) 39 ?_ ?_ 39 0 _ σ (by omega) (by omega) ⟨Fr_r _ _, hN, fun k => by rw [if_neg (by omega)], fun k => by rw [if_neg (by omega)], fun k => by rw [if_neg (by omega)], fun k => rfl⟩
  · intro i hi k τ ⟨fr, e0, e1, e2, e3, e4⟩ hk
    have c1 := e1 (1 + i)
    have c2 := e2 (1 + i)
    have c3 := e3 (1 + i)
    rw [if_neg (by omega)] at c1 c2 c3
    have up : ∀ (q : Nat) (τ' : Nat → Nat → Int32), (∀ k, τ' q k = if k < i then σ q (k + 1) else σ q k) → ∀ k, s2 τ' q i (σ q (1 + i)) q k = if k < i + 1 then σ q (k + 1) else σ q k := fun q τ' h k => by
      by_cases hk : k = i
      · rw [s2_at rfl hk, if_pos (by omega), hk, Nat.add_comm 1 i]
      · rw [s2_off (by omega), h]
        by_cases h2 : k < i
        · rw [if_pos h2, if_pos (by omega)]
        · rw [if_neg h2, if_neg (by omega)]
    have h := hk (s2 (s2 (s2 τ (a + 2) i (σ (a + 2) (1 + i))) (a + 4) i (σ (a + 4) (1 + i))) (a + 6) i (σ (a + 6) (1 + i))) ⟨Fr_st (Fr_st (Fr_st fr (by unfold Wa; omega)) (by unfold Wa; omega)) (by unfold Wa; omega), by rw [s2_off (by omega), s2_off (by omega), s2_off (by omega)]; exact e0, fun k => by rw [s2_off (by omega), s2_off (by omega)]; exact up _ _ e1 k, fun k => by rw [s2_off (by omega)]; exact up _ _ (fun k => by rw [s2_off (by omega)]; exact e2 k) k, fun k => up _ _ (fun k => by rw [s2_off (by omega), s2_off (by omega)]; exact e3 k) k, fun k => by rw [s2_off (by omega), s2_off (by omega), s2_off (by omega)]; exact e4 k⟩
    have d2 : (s2 τ (a + 2) i (σ (a + 2) (1 + i))) (a + 4) (1 + i) = σ (a + 4) (1 + i) := by rw [s2_off (by omega)]; exact c2
    have d3 : (s2 (s2 τ (a + 2) i (σ (a + 2) (1 + i))) (a + 4) i (σ (a + 4) (1 + i))) (a + 6) (1 + i) = σ (a + 6) (1 + i) := by rw [s2_off (by omega), s2_off (by omega)]; exact c3
    dsimp only at h ⊢
    rw [show 1 + (i + 1) = 1 + i + 1 by omega] at h
    simp (disch := omega) only [f_X0_dropEarliest_2, l0, l1, l2, l3, l4, l5, l6, l7, l8, l9, l10, l11, l12, l13, l14, l15, l16, l17, l18, l19, l20, l21, l22, l23, l24, l25, l33, l34, l40, l42, l50, l58, l99, l100, l700, l999, l4095, l9999, l10000, x_neg1, nI_add, x_pred, x_m1, x_J1, pk_sub, nJ_pos, Nat.add_sub_cancel, nI_leI, nI_ltI, nI_eq, q_leJ, q_Jle, q_ltJ, q_Jlt, q_eqJ, q_Jeq, q_JJ, q_JJle, q_JJlt, Option.bind_some, if_pos, if_neg, ↓reduceIte, Ac_0 ha, Ac_1 ha, Ac_2 ha, Ac_n ha, e0, Ac_a0 ha, Ac_a1 ha, Ac_a2 ha, Ac_s0 ha, Ac_s1 ha, Ac_s2 ha, c1, d2, d3, Nat.add_sub_cancel_left]
    exact h
  · intro k τ ⟨fr, e0, e1, e2, e3, e4⟩
    dsimp only
    unfold f_X0_dropEarliest_2
    rw [Ac_n ha, Option.bind_some, e0, if_pos (by decide)]
    unfold f_X0_dropEarliest_70 l_X0_dropEarliest_73
    refine lp_S (RN (fun τ => Fr (Wa a) σ τ ∧ CA τ a 39 (fun k => K (k + 1)) (fun k => O (k + 1)) (fun k => U (k + 1)) (fun k => S (k + 1))) w u) (fun i τ => (a, nI (8 + i), mk τ w u)) (fun i τ' => Fr (Wa a) σ τ' ∧ τ' a 4 = nI 40 ∧ (∀ k, τ' (a + 2) k = τ (a + 2) k) ∧ (∀ k, τ' (a + 4) k = τ (a + 4) k) ∧ (∀ k, τ' (a + 6) k = τ (a + 6) k) ∧ ∀ k, τ' (a + 8) k = if k < i then σ (a + 8) (k + 8) else σ (a + 8) k) 312 ?_ ?_ 312 0 _ τ (by omega) (by omega) ⟨fr, e0, fun k => rfl, fun k => rfl, fun k => rfl, fun k => by rw [if_neg (by omega)]; exact e4 k⟩
    · intro i hi k τ' ⟨fr, f0, f1, f2, f3, f4⟩ hk
      have c1 := f4 (8 + i)
      rw [if_neg (by omega)] at c1
      have h := hk (s2 τ' (a + 8) i (σ (a + 8) (8 + i))) ⟨Fr_st fr (by unfold Wa; omega), by rw [s2_off (by omega)]; exact f0, fun k => by rw [s2_off (by omega)]; exact f1 k, fun k => by rw [s2_off (by omega)]; exact f2 k, fun k => by rw [s2_off (by omega)]; exact f3 k, fun k => by
        by_cases hk : k = i
        · rw [s2_at rfl hk, if_pos (by omega), hk, Nat.add_comm 8 i]
        · rw [s2_off (by omega), f4]
          by_cases h2 : k < i
          · rw [if_pos h2, if_pos (by omega)]
          · rw [if_neg h2, if_neg (by omega)]⟩
      dsimp only at h ⊢
      rw [show 8 + (i + 1) = 8 + i + 1 by omega] at h
      simp (disch := omega) only [f_X0_dropEarliest_73, l0, l1, l2, l3, l4, l5, l6, l7, l8, l9, l10, l11, l12, l13, l14, l15, l16, l17, l18, l19, l20, l21, l22, l23, l24, l25, l33, l34, l40, l42, l50, l58, l99, l100, l700, l999, l4095, l9999, l10000, x_neg1, nI_add, x_pred, x_m1, x_J1, pk_sub, nJ_pos, Nat.add_sub_cancel, nI_leI, nI_ltI, nI_eq, q_leJ, q_Jle, q_ltJ, q_Jlt, q_eqJ, q_Jeq, q_JJ, q_JJle, q_JJlt, Option.bind_some, if_pos, if_neg, ↓reduceIte, pk_mul, Ac_3 ha, Ac_n ha, f0, Ac_a3 ha, Ac_s3 ha, c1, Nat.add_sub_cancel_left]
      exact h
    · intro k τ' ⟨fr, f0, f1, f2, f3, f4⟩
      dsimp only
      refine ⟨s2 τ' a 4 (nI 39), ⟨Fr_st fr (by unfold Wa; omega), by omega, by rw [s2_at rfl rfl], fun k hk => ?_⟩, ?_⟩
      · obtain ⟨x1, x2, x3, x4⟩ := hC (k + 1) (by omega)
        rw [s2_off (by omega), s2_off (by omega), s2_off (by omega), f1, f2, f3, e1, e2, e3, if_pos (by omega), if_pos (by omega), if_pos (by omega)]
        refine ⟨x1, x2, x3, fun j hj => ?_⟩
        rw [s2_off (by omega), f4, if_pos (by omega), show k * 8 + j + 8 = (k + 1) * 8 + j by omega]
        exact x4 j hj
      · simp (disch := omega) only [f_X0_dropEarliest_73, f_X0_dropEarliest_109, l0, l1, l2, l3, l4, l5, l6, l7, l8, l9, l10, l11, l12, l13, l14, l15, l16, l17, l18, l19, l20, l21, l22, l23, l24, l25, l33, l34, l40, l42, l50, l58, l99, l100, l700, l999, l4095, l9999, l10000, x_neg1, nI_add, x_pred, x_m1, x_J1, pk_sub, nJ_pos, Nat.add_sub_cancel, nI_leI, nI_ltI, nI_eq, q_leJ, q_Jle, q_ltJ, q_Jlt, q_eqJ, q_Jeq, q_JJ, q_JJle, q_JJlt, Option.bind_some, if_pos, if_neg, ↓reduceIte, pk_mul, Ac_n ha, f0, Ac_wn ha]
/-- one kept behind N others -/
theorem keep13_f (ha : isAc a) (cv : CV σ 34 A P X) (hd : a + 8 < 34 ∧ 14 < a) (ca : CA σ a N K O U S) (hN : N < 40) {kd on two : Nat} : RN (fun τ => Fr (Wa a) σ τ ∧ CA τ a (N + 1) (fun k => if k = N then kd else K k) (fun k => if k = N then on else O k) (fun k => if k = N then two else U k) (fun k => if k = N then X else S k)) w u (f_X0_keep_13 a (nI kd) (nI on) (tw kd two) 34 (mk σ w u)) := by
  have hM := CV_M cv
  obtain ⟨-, hN2, hC⟩ := ca
  obtain ⟨σ1, hσ1⟩ : ∃ σ1, σ1 = s2 (s2 (s2 σ (a + 2) N (nI kd)) (a + 4) N (nI on)) (a + 6) N (tw kd two) := ⟨_, rfl⟩
  have d0 : (s2 σ (a + 2) N (nI kd)) a 4 = nI N := by rw [s2_off (by omega)]; exact hN2
  have d1 : (s2 (s2 σ (a + 2) N (nI kd)) (a + 4) N (nI on)) a 4 = nI N := by rw [s2_off (by omega)]; exact d0
  have fr1 : Fr (Wa a) σ σ1 := by rw [hσ1]; exact Fr_st (Fr_st (Fr_s (by unfold Wa; omega)) (by unfold Wa; omega)) (by unfold Wa; omega)
  have hN3 : σ1 a 4 = nI N := by rw [hσ1, s2_off (by omega)]; exact d1
  have hH : ∀ τ, Fr (Wa a) σ τ → ∀ j, j < 8 → τ 40 j = nI (X (17 + j)) := fun τ fr j hj => by
    rw [fr 40 j (by unfold Wa; omega)]
    exact CV_o cv j hj
  unfold f_X0_keep_13
  rw [Ac_0 ha, Option.bind_some, Ac_n ha, Option.bind_some, hN2, Ac_s0 ha hN, Option.bind_some, Ac_1 ha, Option.bind_some, Ac_n ha, Option.bind_some, d0, Ac_s1 ha hN, Option.bind_some, Ac_2 ha, Option.bind_some, Ac_n ha, Option.bind_some, d1, Ac_s2 ha hN, Option.bind_some, ← hσ1]
  unfold l_X0_keep_52
  refine lp_S (RN (fun τ => Fr (Wa a) σ τ ∧ CA τ a (N + 1) (fun k => if k = N then kd else K k) (fun k => if k = N then on else O k) (fun k => if k = N then two else U k) (fun k => if k = N then X else S k)) w u) (fun i τ => (a, 34, nI i, mk τ w u)) (fun i τ => Fr (Wa a) σ τ ∧ (∀ q k, q ≠ a + 8 → τ q k = σ1 q k) ∧ (∀ k, k < N * 8 → τ (a + 8) k = σ (a + 8) k) ∧ ∀ j, j < i → τ (a + 8) (N * 8 + j) = nI (X (17 + j))) 8 ?_ ?_ 8 0 _ σ1 (by omega) (by omega) ⟨fr1, fun q k _ => rfl, fun k hk => by rw [hσ1, s2_off (by omega), s2_off (by omega), s2_off (by omega)], fun j hj => by omega⟩
  · intro i hi k τ ⟨fr, e1, e2, e3⟩ hk
    have c0 : τ a 4 = nI N := by rw [e1 a 4 (by omega)]; exact hN3
    have c1 := hH τ fr i hi
    have h := hk (s2 τ (a + 8) (N * 8 + i) (nI (X (17 + i)))) ⟨Fr_st fr (by unfold Wa; omega), fun q k hq => by rw [s2_off (by omega)]; exact e1 q k hq, fun k hk => by rw [s2_off (by omega)]; exact e2 k hk, fun j hj => by
      by_cases h : j = i
      · rw [s2_at rfl (by omega), h]
      · rw [s2_off (by omega)]; exact e3 j (by omega)⟩
    dsimp only at h ⊢
    simp (disch := omega) only [f_X0_keep_52, l0, l1, l2, l3, l4, l5, l6, l7, l8, l9, l10, l11, l12, l13, l14, l15, l16, l17, l18, l19, l20, l21, l22, l23, l24, l25, l33, l34, l40, l42, l50, l58, l99, l100, l700, l999, l4095, l9999, l10000, x_neg1, nI_add, x_pred, x_m1, x_J1, pk_sub, nJ_pos, Nat.add_sub_cancel, nI_leI, nI_ltI, nI_eq, q_leJ, q_Jle, q_ltJ, q_Jlt, q_eqJ, q_Jeq, q_JJ, q_JJle, q_JJlt, Option.bind_some, if_pos, if_neg, ↓reduceIte, pk_mul, Ac_3 ha, Ac_n ha, c0, M_o hM, M_to hM, c1, Ac_s3 ha]
    exact h
  · intro k τ ⟨fr, e1, e2, e3⟩
    have c0 : τ a 4 = nI N := by rw [e1 a 4 (by omega)]; exact hN3
    dsimp only
    refine ⟨s2 τ a 4 (nI (N + 1)), ⟨Fr_st fr (by unfold Wa; omega), by omega, by rw [s2_at rfl rfl], fun k hk => ?_⟩, ?_⟩
    · rw [s2_off (by omega), s2_off (by omega), s2_off (by omega), e1 _ _ (by omega), e1 _ _ (by omega), e1 _ _ (by omega), hσ1]
      by_cases hkN : k = N
      · rw [s2_off (by omega), s2_off (by omega), s2_at rfl hkN, s2_off (by omega), s2_at rfl hkN, s2_at rfl hkN]
        dsimp only
        rw [if_pos hkN, if_pos hkN, if_pos hkN, if_pos hkN]
        refine ⟨rfl, rfl, rfl, fun j hj => ?_⟩
        rw [s2_off (by omega), hkN]
        exact e3 j hj
      · obtain ⟨x1, x2, x3, x4⟩ := hC k (by omega)
        rw [s2_off (by omega), s2_off (by omega), s2_off (by omega), s2_off (by omega), s2_off (by omega), s2_off (by omega), s2_off (by omega), s2_off (by omega), s2_off (by omega)]
        dsimp only
        rw [if_neg hkN, if_neg hkN, if_neg hkN, if_neg hkN]
        refine ⟨x1, x2, x3, fun j hj => ?_⟩
        rw [s2_off (by omega), e2 _ (by omega)]
        exact x4 j hj
    · simp (disch := omega) only [f_X0_keep_52, f_X0_keep_92, l0, l1, l2, l3, l4, l5, l6, l7, l8, l9, l10, l11, l12, l13, l14, l15, l16, l17, l18, l19, l20, l21, l22, l23, l24, l25, l33, l34, l40, l42, l50, l58, l99, l100, l700, l999, l4095, l9999, l10000, x_neg1, nI_add, x_pred, x_m1, x_J1, pk_sub, nJ_pos, Nat.add_sub_cancel, nI_leI, nI_ltI, nI_eq, q_leJ, q_Jle, q_ltJ, q_Jlt, q_eqJ, q_Jeq, q_JJ, q_JJle, q_JJlt, Option.bind_some, if_pos, if_neg, ↓reduceIte, Ac_n ha, c0, Ac_wn ha]
def nN (N : Nat) : Nat := if N = 40 then 39 else N
def pu {α : Type} (N : Nat) (K : Nat → α) (x : α) : Nat → α := fun k => if k = nN N then x else if N = 40 then K (k + 1) else K k
theorem nN_le (h : N ≤ 40) : nN N < 40 := by unfold nN; split <;> omega
theorem keep_f (ha : isAc a) (cv : CV σ 34 A P X) (hd : a + 8 < 34 ∧ 14 < a) (ca : CA σ a N K O U S) {kd on two : Nat} : RN (fun τ => Fr (Wa a) σ τ ∧ CA τ a (nN N + 1) (pu N K kd) (pu N O on) (pu N U two) (pu N S X)) w u (f_X0_keep a (nI kd) (nI on) (tw kd two) 34 (mk σ w u)) := by
  have hN := ca.1
  have hN2 := ca.2.1
  unfold f_X0_keep
  rw [Ac_g ha, Ac_n ha, Option.bind_some, hN2]
  by_cases h : N = 40
  · subst h
    rw [if_neg (by decide)]
    obtain ⟨τ, ⟨fr, ca2⟩, e⟩ := drop_f (w := w) (u := u) ha ca
    rw [e, Option.bind_some]
    have cv2 : CV τ 34 A P X := CV_F cv fr (fun q k e => by unfold Wa at e; omega)
    obtain ⟨τ2, ⟨fr2, ca3⟩, e2⟩ := keep13_f (w := w) (u := u) ha cv2 hd ca2 (by omega) (kd := kd) (on := on) (two := two)
    exact ⟨τ2, ⟨Fr_t fr fr2, ca3⟩, e2⟩
  · rw [if_pos (show nI N < 40 from (nI_ltI (a := N) (b := 40) (by omega) (by decide)).mpr (show N < 40 by omega))]
    obtain ⟨τ2, ⟨fr2, ca3⟩, e2⟩ := keep13_f (w := w) (u := u) ha cv hd ca (by omega) (kd := kd) (on := on) (two := two)
    refine ⟨τ2, ⟨fr2, ?_⟩, e2⟩
    have e1 : nN N = N := by unfold nN; rw [if_neg h]
    unfold pu
    rw [e1]
    simp only [if_neg h]
    exact ca3
/-- taken back -/
def bk (A : Nat → Nat) (K O U : Nat) (H Y : Nat → Nat) : Nat → Nat := if K = 0 then (fun k => if 17 ≤ k ∧ k < 25 then H k else it (fun _ Z => rb A Z) Y O k) else if K = 1 then pl A O U Y else if K = 2 then th O U Y else if K = 3 then un Y (9 + O) U else xc O U Y
def okK (A : Nat → Nat) (K O U : Nat) (Y : Nat → Nat) : Prop := (K = 0 ∧ O ≤ 20 ∧ O ≤ Y 0 ∧ U = 0) ∨ (K = 1 ∧ O < A 1 ∧ U ≤ A 2) ∨ (K = 2 ∧ O < A 1 ∧ U < A 0) ∨ (K = 3 ∧ O < A 1 ∧ U ≤ 9) ∨ (K = 4 ∧ O < A 2 ∧ U < A 2)
theorem WX_n {Y : Nat → Nat} {n : Nat} (wx : WX A Y) (hn : n < 2000) : WX A (un Y 0 n) := by
  obtain ⟨h0, h1, h2, h3⟩ := wx
  refine ⟨by rw [un_at rfl]; exact hn, fun i hi => ?_, fun r q i hr hq => ?_, fun r h4 h5 => ?_⟩
  · rw [un_off (by omega), un_off (by omega), un_off (by omega), un_off (by omega)]; exact h1 i hi
  · rw [un_off (by omega), un_off (by omega)]; exact h2 r q i hr hq
  · rw [un_off (by omega)]; exact h3 r h4 h5
theorem rb_W {Y : Nat → Nat} (wa : WA A) (wx : WX A Y) (hn : Y 0 < 1900) : WX A (rb A Y) := by
  have e : rb A Y = un (rt A (A 2 - 1) Y) 0 (Y 0 - 1) := by
    funext k
    unfold rb rt un
    dsimp only
    by_cases h : k = 0
    · rw [if_pos h, if_pos h]
    · rw [if_neg h, if_neg h, if_neg h]
  rw [e]
  exact WX_n (rt_W wa wx (by have := wa.2.2.2.1; omega)) (by omega)
theorem rbn_0 {Y : Nat → Nat} (n : Nat) : it (fun _ Z => rb A Z) Y n 0 = Y 0 - n := by
  induction n with
  | zero => rfl
  | succ n ih =>
    show it (fun _ Z => rb A Z) Y n 0 - 1 = _
    rw [ih]
    omega
theorem rbn_W {Y : Nat → Nat} (wa : WA A) (wx : WX A Y) (hn : Y 0 < 1900) (n : Nat) : WX A (it (fun _ Z => rb A Z) Y n) := by
  induction n with
  | zero => exact wx
  | succ n ih => exact rb_W wa ih (by have h := rbn_0 (A := A) (Y := Y) n; rw [h]; omega)
theorem nightsBack_f (ha : isAc a) {Y : Nat → Nat} (cv : CV σ 34 A P Y) (hd : a + 8 < 34 ∧ 14 < a) (hN : σ a 4 = nI N) (hN2 : N < 40) {H : Nat → Nat} (hH : ∀ j, j < 8 → σ (a + 8) (N * 8 + j) = nI (H (17 + j))) {n : Nat} (hn : n ≤ 20) (hn2 : n ≤ Y 0) (hn3 : Y 0 < 1900) : RN (fun τ => Fr (Wm 34) σ τ ∧ Mv τ 34 (fun k => if 17 ≤ k ∧ k < 25 then H k else it (fun _ Z => rb A Z) Y n k)) w u (f_X0_takeNightsBack a 34 (nI n) (mk σ w u)) := by
  have hM := CV_M cv
  unfold f_X0_takeNightsBack l_X0_takeNightsBack_2
  rw [Ac_g ha]
  refine lp_S (RN (fun τ => Fr (Wm 34) σ τ ∧ Mv τ 34 (fun k => if 17 ≤ k ∧ k < 25 then H k else it (fun _ Z => rb A Z) Y n k)) w u) (fun i τ => (a, 34, nI n, nI i, mk τ w u)) (fun i τ => Fr (Wm 34) σ τ ∧ CV τ 34 A P (it (fun _ Z => rb A Z) Y i)) n ?_ ?_ n 0 _ σ (by omega) (by omega) ⟨Fr_r _ _, cv⟩
  · intro i hi k τ ⟨fr, cv1⟩ hk
    have e0 := rbn_0 (A := A) (Y := Y) i
    obtain ⟨τ2, ⟨fr2, mv2⟩, e2⟩ := goBack_f (w := w) (u := u) cv1 (by omega)
    have h := hk τ2 ⟨Fr_t fr fr2, CV_mk cv1 fr2 mv2 (rb_W cv.2.2.2.1 (rbn_W cv.2.2.2.1 cv.2.2.2.2.1 hn3 i) (by omega))⟩
    dsimp only at h ⊢
    unfold f_X0_takeNightsBack_2
    rw [if_neg (nI_ge hi (by omega)), e2, Option.bind_some, nI_1]
    exact h
  · intro k τ ⟨fr, cv1⟩
    dsimp only
    unfold f_X0_takeNightsBack_2
    rw [if_pos (nI_le (Nat.le_refl _) (by omega))]
    unfold f_X0_takeNightsBack_17 l_X0_takeNightsBack_19
    refine lp_S (RN (fun τ => Fr (Wm 34) σ τ ∧ Mv τ 34 (fun k => if 17 ≤ k ∧ k < 25 then H k else it (fun _ Z => rb A Z) Y n k)) w u) (fun i τ => (a, 34, nI i, mk τ w u)) (fun i τ => Fr (Wm 34) σ τ ∧ Mv τ 34 (fun k => if 17 ≤ k ∧ k < 17 + i then H k else it (fun _ Z => rb A Z) Y n k)) 8 ?_ ?_ 8 0 _ τ (by omega) (by omega) ⟨fr, Mv_c cv1.2.2.1 (fun k _ => by rw [if_neg (by omega)])⟩
    · intro i hi k2 τ2 ⟨fr2, mv2⟩ hk
      have c0 : τ2 a 4 = nI N := by rw [fr2 a 4 (by unfold Wm; omega)]; exact hN
      have c1 : τ2 (a + 8) (N * 8 + i) = nI (H (17 + i)) := by rw [fr2 _ _ (by unfold Wm; omega)]; exact hH i hi
      have h := hk (s2 τ2 (34 + 6) i (nI (H (17 + i)))) ⟨Fr_st fr2 (by unfold Wm; omega), Mv_c (Mv_o mv2 hi) (fun k hk => by
        by_cases h : k = 17 + i
        · rw [un_at h, if_pos (by omega), h]
        · rw [un_off h]
          by_cases h2 : 17 ≤ k ∧ k < 17 + i
          · rw [if_pos h2, if_pos (by omega)]
          · rw [if_neg h2, if_neg (by omega)])⟩
      dsimp only at h ⊢
      simp (disch := omega) only [f_X0_takeNightsBack_19, l0, l1, l2, l3, l4, l5, l6, l7, l8, l9, l10, l11, l12, l13, l14, l15, l16, l17, l18, l19, l20, l21, l22, l23, l24, l25, l33, l34, l40, l42, l50, l58, l99, l100, l700, l999, l4095, l9999, l10000, x_neg1, nI_add, x_pred, x_m1, x_J1, pk_sub, nJ_pos, Nat.add_sub_cancel, nI_leI, nI_ltI, nI_eq, q_leJ, q_Jle, q_ltJ, q_Jlt, q_eqJ, q_Jeq, q_JJ, q_JJle, q_JJlt, Option.bind_some, if_pos, if_neg, ↓reduceIte, pk_mul, Ac_3 ha, Ac_n ha, c0, M_o hM, Ac_a3 ha, c1, M_so hM]
      exact h
    · intro k2 τ2 ⟨fr2, mv2⟩
      dsimp only
      refine ⟨τ2, ⟨fr2, mv2⟩, ?_⟩
      simp (disch := omega) only [f_X0_takeNightsBack_19, l0, l1, l2, l3, l4, l5, l6, l7, l8, l9, l10, l11, l12, l13, l14, l15, l16, l17, l18, l19, l20, l21, l22, l23, l24, l25, l33, l34, l40, l42, l50, l58, l99, l100, l700, l999, l4095, l9999, l10000, x_neg1, nI_add, x_pred, x_m1, x_J1, pk_sub, nJ_pos, Nat.add_sub_cancel, nI_leI, nI_ltI, nI_eq, q_leJ, q_Jle, q_ltJ, q_Jlt, q_eqJ, q_Jeq, q_JJ, q_JJle, q_JJlt, Option.bind_some, if_pos, if_neg, ↓reduceIte]
def Wk (a q k : Nat) : Prop := Wm 34 q k ∨ (q = a ∧ k = 4)
theorem takeBack_f (ha : isAc a) {Y : Nat → Nat} (cv : CV σ 34 A P Y) (hd : a + 8 < 34 ∧ 14 < a) (ca : CA σ a (N + 1) K O U S) (hk : okK A (K N) (O N) (U N) Y) (hn3 : Y 0 < 1900) : RQ (fun τ => Fr (Wk a) σ τ ∧ Mv τ 34 (bk A (K N) (O N) (U N) (S N) Y) ∧ τ a 4 = nI N) w u (nI N) (f_X0_takeBack a 34 (mk σ w u)) := by
  have hM := CV_M cv
  have hN := ca.1
  have hN2 := ca.2.1
  obtain ⟨x1, x2, x3, x4⟩ := ca.2.2 N (by omega)
  obtain ⟨σ1, hσ1⟩ : ∃ σ1, σ1 = s2 σ a 4 (nI N) := ⟨_, rfl⟩
  have g : ∀ q k, q ≠ a → σ1 q k = σ q k := fun q k h => by rw [hσ1, s2_off (by omega)]
  have f1 : Fr (Wk a) σ σ1 := by rw [hσ1]; exact Fr_s (Or.inr ⟨rfl, rfl⟩)
  have f1s : Fr (fun q _ => q = a) σ σ1 := fun q k h => g q k h
  have n1 : σ1 a 4 = nI N := by rw [hσ1, s2_at rfl rfl]
  have cv1 : CV σ1 34 A P Y := CV_F cv f1s (fun q k e => by omega)
  have wa := cv.2.2.2.1
  have hM8 := wa.2.2.1
  have hR8 := wa.2.2.2.1
  have hB2 := wa.2.1
  have up : ∀ τ, Fr (Wm 34) σ1 τ → Fr (Wk a) σ τ ∧ τ a 4 = nI N := fun τ fr => ⟨Fr_t f1 (Fr_m fr (fun q k e => Or.inl e)), by rw [fr a 4 (by unfold Wm; omega)]; exact n1⟩
  have fin : ∀ τ, Fr (Wm 34) σ1 τ → f_X0_takeBack_121 a (mk τ w u) = some (nI N, mk τ w u) := fun τ fr => by
    unfold f_X0_takeBack_121
    rw [Ac_n ha, Option.bind_some, (up τ fr).2]
  unfold f_X0_takeBack
  rw [Ac_g ha, Ac_n ha, Option.bind_some, hN2, nI_pred, Ac_wn ha, Option.bind_some, ← hσ1, Ac_1 ha, Option.bind_some, Ac_n ha, Option.bind_some, n1, Ac_a1 ha (by omega), Option.bind_some]
  dsimp only
  rw [Ac_2 ha, Option.bind_some, Ac_n ha, Option.bind_some, n1, Ac_a2 ha (by omega), Option.bind_some]
  dsimp only
  rw [Ac_0 ha, Option.bind_some, Ac_n ha, Option.bind_some, n1, Ac_a0 ha (by omega), Option.bind_some]
  dsimp only
  rw [g _ _ (by omega), x1, g _ _ (by omega), x2, g _ _ (by omega), x3]
  unfold bk tw
  rcases hk with ⟨e, h1, h2, h3⟩ | ⟨e, h1, h2⟩ | ⟨e, h1, h2⟩ | ⟨e, h1, h2⟩ | ⟨e, h1, h2⟩
  · rw [e]
    simp (disch := decide) only [if_pos, if_neg]
    obtain ⟨τ, ⟨fr, mv⟩, e5⟩ := nightsBack_f (w := w) (u := u) ha cv1 hd n1 (by omega) (H := S N) (fun j hj => by rw [g _ _ (by omega)]; exact x4 j hj) h1 h2 hn3
    rw [e5, Option.bind_some, fin τ fr]
    exact ⟨τ, ⟨(up τ fr).1, mv, (up τ fr).2⟩, rfl⟩
  · rw [e]
    simp (disch := decide) only [if_pos, if_neg]
    obtain ⟨τ, ⟨fr, mv⟩, e5⟩ := place_f (w := w) (u := u) cv1 (man := O N) (c := U N) (by omega) h2
    rw [e5, Option.bind_some, fin τ fr]
    exact ⟨τ, ⟨(up τ fr).1, mv, (up τ fr).2⟩, rfl⟩
  · rw [e]
    simp (disch := decide) only [if_pos, if_neg]
    obtain ⟨τ, ⟨fr, mv⟩, e5⟩ := turnHeel_f (w := w) (u := u) cv1 (man := O N) (beat := U N) (by omega) (by omega)
    rw [e5, Option.bind_some, fin τ fr]
    exact ⟨τ, ⟨(up τ fr).1, mv, (up τ fr).2⟩, rfl⟩
  · rw [e]
    simp (disch := decide) only [if_pos, if_neg, M_l hM, Option.bind_some]
    obtain ⟨τ, ⟨fr, mv⟩, e5⟩ := setLoud_f (w := w) (u := u) cv1 (man := O N) (a := U N) (by omega)
    rw [e5, Option.bind_some, fin τ fr]
    exact ⟨τ, ⟨(up τ fr).1, mv, (up τ fr).2⟩, rfl⟩
  · rw [e]
    simp (disch := decide) only [if_pos, if_neg]
    obtain ⟨τ, ⟨fr, mv⟩, e5⟩ := exchange_f (w := w) (u := u) cv1 (r := O N) (q := U N) (by omega) (by omega)
    rw [e5, Option.bind_some, fin τ fr]
    exact ⟨τ, ⟨(up τ fr).1, mv, (up τ fr).2⟩, rfl⟩
end AC2
section SI
variable {σ : Nat → Nat → Int32} {w u : Int64} {a m i : Nat} {A X : Nat → Nat} {P : List (Nat × Nat)} {v : Int32} {M : Nat} {s : Nat → Nat → Nat}
theorem Si_g {β : Type} {x : Option β} (h : isSi a) : gd (mk σ w u) a 7 x = x := gdm h.1
theorem Si_0 (h : isSi a) : rd_R (mk σ w u) a 7 0 = some (a + 1) := rR h.1 rfl
theorem Si_1 (h : isSi a) : rd_R (mk σ w u) a 7 1 = some (a + 3) := rR h.1 rfl
theorem Si_2 (h : isSi a) : rd_R (mk σ w u) a 7 2 = some (a + 5) := rR h.1 rfl
theorem Si_3 (h : isSi a) : rd_R (mk σ w u) a 7 3 = some (a + 7) := rR h.1 rfl
theorem Si_n (h : isSi a) : rd_I (mk σ w u) a 7 4 = some (σ a 4) := rI h.1 rfl
theorem Si_wn (h : isSi a) : wr_I (mk σ w u) a 7 4 v = some (mk (s2 σ a 4 v) w u) := wI h.1 rfl
theorem Si_a0 (h : isSi a) (hi : i < 8) : f_X2_at (a + 1) (nI i) (mk σ w u) = some (σ (a + 2) i, mk σ w u) := C_at h.2.1 hi
theorem Si_a1 (h : isSi a) (hi : i < 8) : f_X2_at (a + 3) (nI i) (mk σ w u) = some (σ (a + 4) i, mk σ w u) := C_at h.2.2.1 hi
theorem Si_a2 (h : isSi a) (hi : i < 8) : f_X2_at (a + 5) (nI i) (mk σ w u) = some (σ (a + 6) i, mk σ w u) := C_at h.2.2.2.1 hi
theorem Si_a3 (h : isSi a) (hi : i < 8) : f_X2_at (a + 7) (nI i) (mk σ w u) = some (σ (a + 8) i, mk σ w u) := C_at h.2.2.2.2 hi
theorem Si_s0 (h : isSi a) (hi : i < 8) : f_X2_set (a + 1) (nI i) v (mk σ w u) = some (mk (s2 σ (a + 2) i v) w u) := C_set h.2.1 hi
theorem Si_s1 (h : isSi a) (hi : i < 8) : f_X2_set (a + 3) (nI i) v (mk σ w u) = some (mk (s2 σ (a + 4) i v) w u) := C_set h.2.2.1 hi
theorem Si_s2 (h : isSi a) (hi : i < 8) : f_X2_set (a + 5) (nI i) v (mk σ w u) = some (mk (s2 σ (a + 6) i v) w u) := C_set h.2.2.2.1 hi
theorem Si_s3 (h : isSi a) (hi : i < 8) : f_X2_set (a + 7) (nI i) v (mk σ w u) = some (mk (s2 σ (a + 8) i v) w u) := C_set h.2.2.2.2 hi
def sk1 (M : Nat) (s : Nat → Nat → Nat) (r k b e : Nat) : Nat → Nat → Nat := fun i c => if i = M then (if c = 0 then r else if c = 1 then k else if c = 2 then b else e) else s i c
theorem seeKeep_f (ha : isSi a) (cs : CS σ a M s) (hM : M < 8) {r k b e : Nat} (hk : 1 ≤ k) : RQ (fun τ => Fr (Wa a) σ τ ∧ CS τ a (M + 1) (sk1 M s r k b e)) w u (nI (M + 1)) (f_X7_keep a (nI r) (nI k) (nI b) (nI e) (mk σ w u)) := by
  obtain ⟨-, hN, hC⟩ := cs
  refine ⟨s2 (s2 (s2 (s2 (s2 σ (a + 2) M (nI r)) (a + 4) M (nI (k - 1))) (a + 6) M (nI b)) (a + 8) M (nI e)) a 4 (nI (M + 1)), ⟨Fr_st (Fr_st (Fr_st (Fr_st (Fr_s (by unfold Wa; omega)) (by unfold Wa; omega)) (by unfold Wa; omega)) (by unfold Wa; omega)) (by unfold Wa; omega), by omega, by rw [s2_at rfl rfl], fun i hi => ?_⟩, ?_⟩
  · unfold sk1
    by_cases h : i = M
    · simp (disch := omega) only [s2_at, s2_off, if_pos, if_neg, ↓reduceIte, and_self]
    · simp (disch := omega) only [s2_off, if_neg]
      exact hC i (by omega)
  · have d0 : (s2 σ (a + 2) M (nI r)) a 4 = nI M := by rw [s2_off (by omega)]; exact hN
    have d1 : (s2 (s2 σ (a + 2) M (nI r)) (a + 4) M (nI (k - 1))) a 4 = nI M := by rw [s2_off (by omega)]; exact d0
    have d2 : (s2 (s2 (s2 σ (a + 2) M (nI r)) (a + 4) M (nI (k - 1))) (a + 6) M (nI b)) a 4 = nI M := by rw [s2_off (by omega)]; exact d1
    have d3 : (s2 (s2 (s2 (s2 σ (a + 2) M (nI r)) (a + 4) M (nI (k - 1))) (a + 6) M (nI b)) (a + 8) M (nI e)) a 4 = nI M := by rw [s2_off (by omega)]; exact d2
    have e1 : nI k - 1 = nI (k - 1) := pk_sub (b := 1) hk
    unfold f_X7_keep
    rw [Si_g ha, Si_0 ha, Option.bind_some, Si_n ha, Option.bind_some, hN, Si_s0 ha hM, Option.bind_some, Si_1 ha, Option.bind_some, Si_n ha, Option.bind_some, d0, e1, Si_s1 ha hM, Option.bind_some, Si_2 ha, Option.bind_some, Si_n ha, Option.bind_some, d1, Si_s2 ha hM, Option.bind_some, Si_3 ha, Option.bind_some, Si_n ha, Option.bind_some, d2, Si_s3 ha hM, Option.bind_some, Si_n ha, Option.bind_some, d3, nI_1, Si_wn ha, Option.bind_some, Si_n ha, Option.bind_some, s2_at rfl rfl]
/-- all that is seen holds for X -/
def ah (A : Nat → Nat) (P : List (Nat × Nat)) (X : Nat → Nat) (M : Nat) (s : Nat → Nat → Nat) : Prop := ∀ i, i < M → bt (he A P (rt A (s i 1 - 1) X) (s i 0) (mq A (X 0 + (s i 1 - 1)))) (s i 2) = s i 3
def OkS (A : Nat → Nat) (M : Nat) (s : Nat → Nat → Nat) : Prop := ∀ i, i < M → s i 0 < A 2 ∧ 1 ≤ s i 1 ∧ s i 1 ≤ 12 ∧ s i 2 < A 0 ∧ s i 3 < 2
theorem allHold_f (ha : isSi a) (cv : CV σ m A P X) (cs : CS σ a M s) (ok : OkS A M s) (hx : X 0 < 1900) (hd : a ≠ 10 ∧ a ≠ 14 ∧ a + 2 ≠ 10 ∧ a + 2 ≠ 14 ∧ a + 4 ≠ 10 ∧ a + 4 ≠ 14 ∧ a + 6 ≠ 10 ∧ a + 6 ≠ 14 ∧ a + 8 ≠ 10 ∧ a + 8 ≠ 14) : ∃ r τ, Fr Wc σ τ ∧ ((r = 1 ∧ ah A P X M s) ∨ (r = 0 ∧ ¬ ah A P X M s)) ∧ f_X7_allHold a m (mk σ w u) = some (nI r, mk τ w u) := by
  have hM8 := cs.1
  unfold f_X7_allHold l_X7_allHold_2
  rw [Si_g ha]
  refine lp_S (fun x => ∃ r τ, Fr Wc σ τ ∧ ((r = 1 ∧ ah A P X M s) ∨ (r = 0 ∧ ¬ ah A P X M s)) ∧ x = some (nI r, mk τ w u)) (fun i τ => (a, m, nI i, mk τ w u)) (fun i τ => Fr Wc σ τ ∧ ∀ j, j < i → bt (he A P (rt A (s j 1 - 1) X) (s j 0) (mq A (X 0 + (s j 1 - 1)))) (s j 2) = s j 3) M ?_ ?_ M 0 _ σ (by omega) (by omega) ⟨Fr_r _ _, fun j hj => by omega⟩
  · intro i hi k τ ⟨fr, hI⟩ hk
    have cv1 := CV_fr cv fr
    have cs1 : CS τ a M s := CS_F cs fr (fun q k e => by unfold Wc at e; unfold Wa; omega)
    obtain ⟨o1, o2, o3, o4, o5⟩ := ok i hi
    have hR8 := cv.2.2.2.1.2.2.2.1
    have hB2 := cv.2.2.2.1.2.1
    obtain ⟨τ2, g1, g2⟩ := heardAt_f (w := w) (u := u) cv1 (p := s i 0) (n := s i 1 - 1) (by omega) (by omega)
    have cs2 : CS τ2 a M s := CS_F cs1 g1 (fun q k e => by unfold Wc at e; unfold Wa; omega)
    obtain ⟨c1, c2, c3, c4⟩ := cs1.2.2 i hi
    obtain ⟨b1, b2, b3, b4⟩ := cs2.2.2 i hi
    have c0 := cs1.2.1
    have hl := he_lt A P (rt A (s i 1 - 1) X) (s i 0) (mq A (X 0 + (s i 1 - 1))) hB2
    have hbl := bt_lt (he A P (rt A (s i 1 - 1) X) (s i 0) (mq A (X 0 + (s i 1 - 1)))) (s i 2)
    dsimp only at hk ⊢
    by_cases h : bt (he A P (rt A (s i 1 - 1) X) (s i 0) (mq A (X 0 + (s i 1 - 1)))) (s i 2) = s i 3
    · have h2 := hk τ2 ⟨Fr_t fr g1, fun j hj => by
        by_cases hji : j = i
        · rw [hji]; exact h
        · exact hI j (by omega)⟩
      simp (disch := omega) only [f_X7_allHold_2, l0, l1, l2, l3, l4, l5, l6, l7, l8, l9, l10, l11, l12, l13, l14, l15, l16, l17, l18, l19, l20, l21, l22, l23, l24, l25, l33, l34, l40, l42, l50, l58, l99, l100, l700, l999, l4095, l9999, l10000, x_neg1, nI_add, x_pred, x_m1, x_J1, pk_sub, nJ_pos, Nat.add_sub_cancel, nI_leI, nI_ltI, nI_eq, q_leJ, q_Jle, q_ltJ, q_Jlt, q_eqJ, q_Jeq, q_JJ, q_JJle, q_JJlt, Option.bind_some, if_pos, if_neg, ↓reduceIte, Si_0 ha, Si_1 ha, Si_2 ha, Si_3 ha, Si_n ha, c0, Si_a0 ha, Si_a1 ha, Si_a2 ha, Si_a3 ha, c1, c2, g2, b3, b4, x_bit]
      exact h2
    · refine ⟨0, τ2, Fr_t fr g1, Or.inr ⟨rfl, fun hh => h (hh i hi)⟩, ?_⟩
      simp (disch := omega) only [f_X7_allHold_2, f_X7_allHold_54, l0, l1, l2, l3, l4, l5, l6, l7, l8, l9, l10, l11, l12, l13, l14, l15, l16, l17, l18, l19, l20, l21, l22, l23, l24, l25, l33, l34, l40, l42, l50, l58, l99, l100, l700, l999, l4095, l9999, l10000, x_neg1, nI_add, x_pred, x_m1, x_J1, pk_sub, nJ_pos, Nat.add_sub_cancel, nI_leI, nI_ltI, nI_eq, q_leJ, q_Jle, q_ltJ, q_Jlt, q_eqJ, q_Jeq, q_JJ, q_JJle, q_JJlt, Option.bind_some, if_pos, if_neg, ↓reduceIte, Si_0 ha, Si_1 ha, Si_2 ha, Si_3 ha, Si_n ha, c0, Si_a0 ha, Si_a1 ha, Si_a2 ha, Si_a3 ha, c1, c2, g2, b3, b4, x_bit]
      rfl
  · intro k τ ⟨fr, hI⟩
    have cs1 : CS τ a M s := CS_F cs fr (fun q k e => by unfold Wc at e; unfold Wa; omega)
    have c0 := cs1.2.1
    refine ⟨1, τ, fr, Or.inl ⟨rfl, hI⟩, ?_⟩
    dsimp only
    simp (disch := omega) only [f_X7_allHold_2, f_X7_allHold_62, l0, l1, l2, l3, l4, l5, l6, l7, l8, l9, l10, l11, l12, l13, l14, l15, l16, l17, l18, l19, l20, l21, l22, l23, l24, l25, l33, l34, l40, l42, l50, l58, l99, l100, l700, l999, l4095, l9999, l10000, x_neg1, nI_add, x_pred, x_m1, x_J1, pk_sub, nJ_pos, Nat.add_sub_cancel, nI_leI, nI_ltI, nI_eq, q_leJ, q_Jle, q_ltJ, q_Jlt, q_eqJ, q_Jeq, q_JJ, q_JJle, q_JJlt, Option.bind_some, if_pos, if_neg, ↓reduceIte, Si_n ha, c0]
    rfl
end SI
section ST
variable {σ : Nat → Nat → Int32} {w u : Int64} {a a' : Nat} {X : Nat → Nat} {N M : Nat} {K O U : Nat → Nat} {S : Nat → Nat → Nat} {s : Nat → Nat → Nat}
theorem copyA_f (ha : isAc a) (ha' : isAc a') (hd : a + 8 < a' ∨ a' + 8 < a) (ca : CA σ a' N K O U S) : RN (fun τ => Fr (Wa a) σ τ ∧ CA τ a N K O U S) w u (f_X0_copyFrom a a' (mk σ w u)) := by
  obtain ⟨s1, c1, c2, c3, c4⟩ := ha
  obtain ⟨s1', d1, d2, d3, d4⟩ := ha'
  obtain ⟨hN, hN2, hC⟩ := ca
  unfold f_X0_copyFrom
  rw [gdm s1, rR s1 rfl, Option.bind_some, rR s1' rfl, Option.bind_some, C_copy c1 d1 (by omega) (by decide), Option.bind_some, rR s1 rfl, Option.bind_some, rR s1' rfl, Option.bind_some, C_copy c2 d2 (by omega) (by decide), Option.bind_some, rR s1 rfl, Option.bind_some, rR s1' rfl, Option.bind_some, C_copy c3 d3 (by omega) (by decide), Option.bind_some, rR s1 rfl, Option.bind_some, rR s1' rfl, Option.bind_some, C_copy c4 d4 (by omega) (by decide), Option.bind_some, rI s1' rfl, Option.bind_some, wI s1 rfl, Option.bind_some]
  refine ⟨_, ⟨?_, hN, ?_, fun k hk => ?_⟩, rfl⟩
  · intro q k hw
    unfold Wa at hw
    rw [s2_off (by omega), sr_n (by omega), sr_n (by omega), sr_n (by omega), sr_n (by omega)]
  · rw [s2_at rfl rfl, sr_n (by omega), sr_n (by omega), sr_n (by omega), sr_n (by omega)]
    exact hN2
  · obtain ⟨x1, x2, x3, x4⟩ := hC k hk
    refine ⟨?_, ?_, ?_, fun j hj => ?_⟩
    · rw [s2_off (by omega), sr_n (by omega), sr_n (by omega), sr_n (by omega), sr_s, if_pos (by omega)]
      exact x1
    · rw [s2_off (by omega), sr_n (by omega), sr_n (by omega), sr_s, if_pos (by omega), sr_n (by omega)]
      exact x2
    · rw [s2_off (by omega), sr_n (by omega), sr_s, if_pos (by omega), sr_n (by omega), sr_n (by omega)]
      exact x3
    · rw [s2_off (by omega), sr_s, if_pos (by omega), sr_n (by omega), sr_n (by omega), sr_n (by omega)]
      exact x4 j hj
theorem copyS_f (ha : isSi a) (ha' : isSi a') (hd : a + 8 < a' ∨ a' + 8 < a) (ca : CS σ a' M s) : RN (fun τ => Fr (Wa a) σ τ ∧ CS τ a M s) w u (f_X7_copyFrom a a' (mk σ w u)) := by
  obtain ⟨s1, c1, c2, c3, c4⟩ := ha
  obtain ⟨s1', d1, d2, d3, d4⟩ := ha'
  obtain ⟨hN, hN2, hC⟩ := ca
  unfold f_X7_copyFrom
  rw [gdm s1, rR s1 rfl, Option.bind_some, rR s1' rfl, Option.bind_some, C_copy c1 d1 (by omega) (by decide), Option.bind_some, rR s1 rfl, Option.bind_some, rR s1' rfl, Option.bind_some, C_copy c2 d2 (by omega) (by decide), Option.bind_some, rR s1 rfl, Option.bind_some, rR s1' rfl, Option.bind_some, C_copy c3 d3 (by omega) (by decide), Option.bind_some, rR s1 rfl, Option.bind_some, rR s1' rfl, Option.bind_some, C_copy c4 d4 (by omega) (by decide), Option.bind_some, rI s1' rfl, Option.bind_some, wI s1 rfl, Option.bind_some]
  refine ⟨_, ⟨?_, hN, ?_, fun k hk => ?_⟩, rfl⟩
  · intro q k hw
    unfold Wa at hw
    rw [s2_off (by omega), sr_n (by omega), sr_n (by omega), sr_n (by omega), sr_n (by omega)]
  · rw [s2_at rfl rfl, sr_n (by omega), sr_n (by omega), sr_n (by omega), sr_n (by omega)]
    exact hN2
  · obtain ⟨x1, x2, x3, x4⟩ := hC k hk
    refine ⟨?_, ?_, ?_, ?_⟩
    · rw [s2_off (by omega), sr_n (by omega), sr_n (by omega), sr_n (by omega), sr_s, if_pos (by omega)]
      exact x1
    · rw [s2_off (by omega), sr_n (by omega), sr_n (by omega), sr_s, if_pos (by omega), sr_n (by omega)]
      exact x2
    · rw [s2_off (by omega), sr_n (by omega), sr_s, if_pos (by omega), sr_n (by omega), sr_n (by omega)]
      exact x3
    · rw [s2_off (by omega), sr_s, if_pos (by omega), sr_n (by omega), sr_n (by omega), sr_n (by omega)]
      exact x4
theorem Mv_F {τ : Nat → Nat → Int32} {m : Nat} {W : Nat → Nat → Prop} (mv : Mv σ m X) (fr : Fr W σ τ) (hw : ∀ q k, W q k → ¬ (q = m ∨ q = m + 2 ∨ q = m + 4 ∨ q = m + 6 ∨ q = m + 8)) : Mv τ m X := by
  have g : ∀ q k, (q = m ∨ q = m + 2 ∨ q = m + 4 ∨ q = m + 6 ∨ q = m + 8) → τ q k = σ q k := fun q k h => fr q k (fun e => hw q k e h)
  refine ⟨by rw [g _ _ (by omega)]; exact mv.1, fun i hi => ?_⟩
  rw [g _ _ (by omega), g _ _ (by omega), g _ _ (by omega), g _ _ (by omega)]
  exact mv.2 i hi
/-- what a state's copy writes -/
def Wst (d q k : Nat) : Prop := Wm (34 + d) q k ∨ Wa (16 + d) q k ∨ Wa (25 + d) q k
theorem image_f (mv : Mv σ 34 X) (ca : CA σ 16 N K O U S) (cs : CS σ 25 M s) : RN (fun τ => Fr (Wst 28) σ τ ∧ Mv τ 62 X ∧ CA τ 44 N K O U S ∧ CS τ 53 M s) w u (f_X8_copyFrom 43 15 (mk σ w u)) := by
  obtain ⟨τ, ⟨fr, mv2⟩, e⟩ := copy_f (w := w) (u := u) isN_62 isN_34 (by omega) mv
  obtain ⟨τ2, ⟨fr2, ca2⟩, e2⟩ := copyA_f (w := w) (u := u) isAc_44 isAc_16 (by omega) (CA_F ca fr (fun q k h => by unfold Wm at h; unfold Wa; omega))
  obtain ⟨τ3, ⟨fr3, cs3⟩, e3⟩ := copyS_f (w := w) (u := u) isSi_53 isSi_25 (by omega) (CS_F (CS_F cs fr (fun q k h => by unfold Wm at h; unfold Wa; omega)) fr2 (fun q k h => by unfold Wa at h ⊢; omega))
  refine ⟨τ3, ⟨Fr_t (Fr_t (Fr_m fr (fun q k h => Or.inl h)) (Fr_m fr2 (fun q k h => Or.inr (Or.inl h)))) (Fr_m fr3 (fun q k h => Or.inr (Or.inr h))), Mv_F (Mv_F mv2 fr2 (fun q k h => by unfold Wa at h; omega)) fr3 (fun q k h => by unfold Wa at h; omega), CA_F ca2 fr3 (fun q k h => by unfold Wa at h ⊢; omega), cs3⟩, ?_⟩
  unfold f_X8_copyFrom
  rw [zg43, zr43_0, Option.bind_some, zr15_0, Option.bind_some, e, Option.bind_some, zr43_1, Option.bind_some, zr15_1, Option.bind_some, e2, Option.bind_some, zr43_2, Option.bind_some, zr15_2, Option.bind_some, e3, Option.bind_some]
theorem restore_f (mv : Mv σ 62 X) (ca : CA σ 44 N K O U S) (cs : CS σ 53 M s) : RN (fun τ => Fr (Wst 0) σ τ ∧ Mv τ 34 X ∧ CA τ 16 N K O U S ∧ CS τ 25 M s) w u (f_X8_copyFrom 15 43 (mk σ w u)) := by
  obtain ⟨τ, ⟨fr, mv2⟩, e⟩ := copy_f (w := w) (u := u) isN_34 isN_62 (by omega) mv
  obtain ⟨τ2, ⟨fr2, ca2⟩, e2⟩ := copyA_f (w := w) (u := u) isAc_16 isAc_44 (by omega) (CA_F ca fr (fun q k h => by unfold Wm at h; unfold Wa; omega))
  obtain ⟨τ3, ⟨fr3, cs3⟩, e3⟩ := copyS_f (w := w) (u := u) isSi_25 isSi_53 (by omega) (CS_F (CS_F cs fr (fun q k h => by unfold Wm at h; unfold Wa; omega)) fr2 (fun q k h => by unfold Wa at h ⊢; omega))
  refine ⟨τ3, ⟨Fr_t (Fr_t (Fr_m fr (fun q k h => Or.inl h)) (Fr_m fr2 (fun q k h => Or.inr (Or.inl h)))) (Fr_m fr3 (fun q k h => Or.inr (Or.inr h))), Mv_F (Mv_F mv2 fr2 (fun q k h => by unfold Wa at h; omega)) fr3 (fun q k h => by unfold Wa at h; omega), CA_F ca2 fr3 (fun q k h => by unfold Wa at h ⊢; omega), cs3⟩, ?_⟩
  unfold f_X8_copyFrom
  rw [zg15, zr15_0, Option.bind_some, zr43_0, Option.bind_some, e, Option.bind_some, zr15_1, Option.bind_some, zr43_1, Option.bind_some, e2, Option.bind_some, zr15_2, Option.bind_some, zr43_2, Option.bind_some, e3, Option.bind_some]
end ST
