/-! L3: the reference: acts, sights, image -/
def RAc (σ : Nat → Nat → Int32) (q N : Nat) (S : Nat → Nat → Nat) : Prop := N ≤ 40 ∧ ∀ k, k < N → ∀ j, j < 33 → σ q (33 * k + j) = nI (S k j)
def RSe (σ : Nat → Nat → Int32) (q M : Nat) (s : Nat → Nat → Nat) : Prop := M ≤ 8 ∧ ∀ i, i < M → σ q (4 * i) = nI (s i 0) ∧ σ q (4 * i + 1) = nI (s i 1) ∧ σ q (4 * i + 2) = nI (s i 2) ∧ σ q (4 * i + 3) = nI (s i 3)
def Wra (q k : Nat) : Prop := q = 129 ∨ (q = 118 ∧ k = 38)
section RD
variable {σ τ : Nat → Nat → Int32} {w u : Int64} {X : Nat → Nat} {N M : Nat} {S s : Nat → Nat → Nat} {v : Int32}
theorem RAc_F {W : Nat → Nat → Prop} {q : Nat} (h : RAc σ q N S) (fr : Fr W σ τ) (hw : ∀ k, ¬ W q k) : RAc τ q N S := ⟨h.1, fun k hk j hj => by rw [fr q _ (hw _)]; exact h.2 k hk j hj⟩
theorem RSe_F {W : Nat → Nat → Prop} {q : Nat} (h : RSe σ q M s) (fr : Fr W σ τ) (hw : ∀ k, ¬ W q k) : RSe τ q M s := ⟨h.1, fun i hi => by rw [fr q _ (hw _), fr q _ (hw _), fr q _ (hw _), fr q _ (hw _)]; exact h.2 i hi⟩
theorem keeps50_R (rr : Rr σ 0 X) (hN : σ 118 38 = nI N) (ra : RAc σ 129 N S) (h40 : N < 40) : RN (fun τ => Fr Wra σ τ ∧ τ 118 38 = nI (N + 1) ∧ RAc τ 129 (N + 1) (fun k => if k = N then X else S k)) w u (f_X11_keeps_50 118 (mk σ w u)) := by
  unfold f_X11_keeps_50 l_X11_keeps_52
  refine lp_S (RN (fun τ => Fr Wra σ τ ∧ τ 118 38 = nI (N + 1) ∧ RAc τ 129 (N + 1) (fun k => if k = N then X else S k)) w u) (fun i τ => (118, nI i, mk τ w u)) (fun i τ => Fr Wra σ τ ∧ τ 118 38 = nI N ∧ (∀ k, k < 33 * N → τ 129 k = σ 129 k) ∧ ∀ j, j < i → τ 129 (33 * N + j) = nI (X j)) 33 ?_ ?_ 33 0 _ σ (by omega) (by omega) ⟨Fr_r _ _, hN, fun k _ => rfl, fun j hj => by omega⟩
  · intro i hi k τ ⟨fr, e0, e1, e2⟩ hk
    have c : τ 128 i = nI (X i) := by
      rw [fr 128 i (by unfold Wra; omega)]
      have h := rr i hi
      rw [Nat.zero_add] at h
      exact h
    have h := hk (s2 τ 129 (33 * N + i) (nI (X i))) ⟨Fr_st fr (Or.inl rfl), by rw [s2_off (by omega)]; exact e0, fun k hk => by rw [s2_off (by omega)]; exact e1 k hk, fun j hj => by
      by_cases h : j = i
      · rw [s2_at rfl (by omega), h]
      · rw [s2_off (by omega)]; exact e2 j (by omega)⟩
    dsimp only at h ⊢
    simp (disch := omega) only [f_X11_keeps_52, l0, l1, l2, l3, l4, l5, l6, l7, l8, l9, l10, l11, l12, l13, l14, l15, l16, l17, l18, l19, l20, l21, l22, l23, l24, l25, l33, l34, l40, l42, l50, l58, l99, l100, l700, l999, l4095, l9999, l10000, x_neg1, nI_add, x_pred, x_m1, x_J1, pk_sub, nJ_pos, Nat.add_sub_cancel, nI_leI, nI_ltI, nI_eq, q_leJ, q_Jle, q_ltJ, q_Jlt, q_eqJ, q_Jeq, q_JJ, q_JJle, q_JJlt, Option.bind_some, if_pos, if_neg, ↓reduceIte, pk_mul, zr118_36, zr118_37, zi118_38, e0, za128, c, zb129]
    exact h
  · intro k τ ⟨fr, e0, e1, e2⟩
    dsimp only
    refine ⟨s2 τ 118 38 (nI (N + 1)), ⟨Fr_st fr (Or.inr ⟨rfl, rfl⟩), by rw [s2_at rfl rfl], by omega, fun k hk j hj => ?_⟩, ?_⟩
    · rw [s2_off (by omega)]
      dsimp only
      by_cases h : k = N
      · rw [if_pos h, h]; exact e2 j hj
      · rw [if_neg h, e1 _ (by omega)]; exact ra.2 k (by omega) j hj
    · simp (disch := omega) only [f_X11_keeps_52, f_X11_keeps_84, l0, l1, l2, l3, l4, l5, l6, l7, l8, l9, l10, l11, l12, l13, l14, l15, l16, l17, l18, l19, l20, l21, l22, l23, l24, l25, l33, l34, l40, l42, l50, l58, l99, l100, l700, l999, l4095, l9999, l10000, x_neg1, nI_add, x_pred, x_m1, x_J1, pk_sub, nJ_pos, Nat.add_sub_cancel, nI_leI, nI_ltI, nI_eq, q_leJ, q_Jle, q_ltJ, q_Jlt, q_eqJ, q_Jeq, q_JJ, q_JJle, q_JJlt, Option.bind_some, if_pos, if_neg, ↓reduceIte, zi118_38, e0, zw118_38]
theorem keeps_R (rr : Rr σ 0 X) (hN : σ 118 38 = nI N) (ra : RAc σ 129 N S) : RN (fun τ => Fr Wra σ τ ∧ τ 118 38 = nI (nN N + 1) ∧ RAc τ 129 (nN N + 1) (pu N S X)) w u (f_X11_keeps 118 (mk σ w u)) := by
  have h40 := ra.1
  unfold f_X11_keeps
  rw [zg118, zi118_38, Option.bind_some, hN]
  by_cases h : N = 40
  · subst h
    rw [if_pos (by decide)]
    unfold l_X11_keeps_12
    refine lp_S (RN (fun τ => Fr Wra σ τ ∧ τ 118 38 = nI (nN 40 + 1) ∧ RAc τ 129 (nN 40 + 1) (pu 40 S X)) w u) (fun i τ => (118, nI (33 + i), mk τ w u)) (fun i τ => Fr Wra σ τ ∧ τ 118 38 = nI 40 ∧ ∀ k, τ 129 k = if k < i then σ 129 (k + 33) else σ 129 k) 1287 ?_ ?_ 1287 0 _ σ (by omega) (by omega) ⟨Fr_r _ _, hN, fun k => by rw [if_neg (by omega)]⟩
    · intro i hi k τ ⟨fr, e0, e1⟩ hk
      have c1 := e1 (33 + i)
      rw [if_neg (by omega)] at c1
      have h := hk (s2 τ 129 i (σ 129 (33 + i))) ⟨Fr_st fr (Or.inl rfl), by rw [s2_off (by omega)]; exact e0, fun k => by
        by_cases hk : k = i
        · rw [s2_at rfl hk, if_pos (by omega), hk, Nat.add_comm 33 i]
        · rw [s2_off (by omega), e1]
          by_cases h2 : k < i
          · rw [if_pos h2, if_pos (by omega)]
          · rw [if_neg h2, if_neg (by omega)]⟩
      dsimp only at h ⊢
      rw [show 33 + (i + 1) = 33 + i + 1 by omega] at h
      simp (disch := omega) only [f_X11_keeps_12, l1320, l0, l1, l2, l3, l4, l5, l6, l7, l8, l9, l10, l11, l12, l13, l14, l15, l16, l17, l18, l19, l20, l21, l22, l23, l24, l25, l33, l34, l40, l42, l50, l58, l99, l100, l700, l999, l4095, l9999, l10000, x_neg1, nI_add, x_pred, x_m1, x_J1, pk_sub, nJ_pos, Nat.add_sub_cancel, nI_leI, nI_ltI, nI_eq, q_leJ, q_Jle, q_ltJ, q_Jlt, q_eqJ, q_Jeq, q_JJ, q_JJle, q_JJlt, Option.bind_some, if_pos, if_neg, ↓reduceIte, zr118_37, za129, c1, zb129, Nat.add_sub_cancel_left]
      exact h
    · intro k τ ⟨fr, e0, e1⟩
      dsimp only
      have g : ∀ q k, q ≠ 118 → (s2 τ 118 38 (nI 39)) q k = τ q k := fun q k hq => s2_off (by omega)
      obtain ⟨τ2, ⟨fr2, n2, ra2⟩, e2⟩ := keeps50_R (w := w) (u := u) (σ := s2 τ 118 38 (nI 39)) (X := X) (N := 39) (S := fun k => S (k + 1)) (fun k hk => by rw [g _ _ (by omega), fr 128 _ (by unfold Wra; omega)]; exact rr k hk) (by rw [s2_at rfl rfl]) ⟨by omega, fun k hk j hj => by
        rw [g _ _ (by omega), e1, if_pos (by omega), show 33 * k + j + 33 = 33 * (k + 1) + j by omega]
        exact ra.2 (k + 1) (by omega) j hj⟩ (by omega)
      have e3 : f_X11_keeps_12 (fun a0 a1 a2 => k (a0, a1, a2)) 118 (nI (33 + 1287)) (mk τ w u) = f_X11_keeps_50 118 (mk (s2 τ 118 38 (nI 39)) w u) := by
        unfold f_X11_keeps_12
        rw [if_pos (by decide)]
        unfold f_X11_keeps_40
        rw [zi118_38, Option.bind_some, e0, show nI 40 - 1 = nI 39 by decide, zw118_38, Option.bind_some]
      rw [e3]
      exact ⟨τ2, ⟨Fr_t (Fr_st fr (Or.inr ⟨rfl, rfl⟩)) fr2, n2, ra2⟩, e2⟩
  · rw [if_neg (show ¬ nI N = 40 from fun e => h ((nI_eq (a := N) (b := 40) (by omega) (by decide)).mp e))]
    obtain ⟨τ2, ⟨fr2, n2, ra2⟩, e2⟩ := keeps50_R (w := w) (u := u) rr hN ra (by omega)
    have e1 : nN N = N := by unfold nN; rw [if_neg h]
    refine ⟨τ2, ⟨fr2, by rw [e1]; exact n2, ?_⟩, e2⟩
    unfold pu
    rw [e1]
    simp only [if_neg h]
    exact ra2
def Wru (q k : Nat) : Prop := (q = 128 ∧ k < 33) ∨ (q = 118 ∧ (k = 38 ∨ k = 0))
theorem undo_R (hN : σ 118 38 = nI (N + 1)) (ra : RAc σ 129 (N + 1) S) : RQ (fun τ => Fr Wru σ τ ∧ τ 118 38 = nI N ∧ τ 118 0 = 0 ∧ Rr τ 0 (S N)) w u (nI N) (f_X11_undo 118 (mk σ w u)) := by
  have h40 := ra.1
  have d0 : (s2 σ 118 0 0) 118 38 = nI (N + 1) := by rw [s2_off (by omega)]; exact hN
  unfold f_X11_undo
  rw [zg118, zw118_0, Option.bind_some, zi118_38, Option.bind_some, d0, if_neg (nI_ne0 (by omega) (by omega)), Option.bind_some, nI_pred, zw118_38, Option.bind_some]
  unfold l_X11_undo_26
  refine lp_S (RQ (fun τ => Fr Wru σ τ ∧ τ 118 38 = nI N ∧ τ 118 0 = 0 ∧ Rr τ 0 (S N)) w u (nI N)) (fun i τ => (118, nI i, mk τ w u)) (fun i τ => Fr Wru σ τ ∧ τ 118 38 = nI N ∧ τ 118 0 = 0 ∧ ∀ j, j < i → τ 128 j = nI (S N j)) 33 ?_ ?_ 33 0 _ _ (by omega) (by omega) ⟨Fr_st (Fr_s (by unfold Wru; omega)) (by unfold Wru; omega), by rw [s2_at rfl rfl], by rw [s2_off (by omega), s2_at rfl rfl], fun j hj => by omega⟩
  · intro i hi k τ ⟨fr, e0, e1, e2⟩ hk
    have c : τ 129 (33 * N + i) = nI (S N i) := by rw [fr 129 _ (by unfold Wru; omega)]; exact ra.2 N (by omega) i hi
    have h := hk (s2 τ 128 i (nI (S N i))) ⟨Fr_st fr (by unfold Wru; omega), by rw [s2_off (by omega)]; exact e0, by rw [s2_off (by omega)]; exact e1, fun j hj => by
      by_cases h : j = i
      · rw [s2_at rfl h, h]
      · rw [s2_off (by omega)]; exact e2 j (by omega)⟩
    dsimp only at h ⊢
    simp (disch := omega) only [f_X11_undo_26, l0, l1, l2, l3, l4, l5, l6, l7, l8, l9, l10, l11, l12, l13, l14, l15, l16, l17, l18, l19, l20, l21, l22, l23, l24, l25, l33, l34, l40, l42, l50, l58, l99, l100, l700, l999, l4095, l9999, l10000, x_neg1, nI_add, x_pred, x_m1, x_J1, pk_sub, nJ_pos, Nat.add_sub_cancel, nI_leI, nI_ltI, nI_eq, q_leJ, q_Jle, q_ltJ, q_Jlt, q_eqJ, q_Jeq, q_JJ, q_JJle, q_JJlt, Option.bind_some, if_pos, if_neg, ↓reduceIte, pk_mul, zr118_36, zr118_37, zi118_38, e0, za129, c, zb128]
    exact h
  · intro k τ ⟨fr, e0, e1, e2⟩
    dsimp only
    refine ⟨τ, ⟨fr, e0, e1, fun k hk => by rw [Nat.zero_add]; exact e2 k hk⟩, ?_⟩
    simp (disch := omega) only [f_X11_undo_26, f_X11_undo_58, l0, l1, l2, l3, l4, l5, l6, l7, l8, l9, l10, l11, l12, l13, l14, l15, l16, l17, l18, l19, l20, l21, l22, l23, l24, l25, l33, l34, l40, l42, l50, l58, l99, l100, l700, l999, l4095, l9999, l10000, x_neg1, nI_add, x_pred, x_m1, x_J1, pk_sub, nJ_pos, Nat.add_sub_cancel, nI_leI, nI_ltI, nI_eq, q_leJ, q_Jle, q_ltJ, q_Jlt, q_eqJ, q_Jeq, q_JJ, q_JJle, q_JJlt, Option.bind_some, if_pos, if_neg, ↓reduceIte, zi118_38, e0]
theorem copies_R {q q' n : Nat} (h : sh[q]? = some (.inl (0, n))) (h' : sh[q']? = some (.inl (0, n))) (hne : q ≠ q') (hn : n < 100000) : RN (fun τ => Fr (fun a _ => a = q') σ τ ∧ ∀ j, j < n → τ q' j = σ q j) w u (f_X11_copies 118 q q' (mk σ w u)) := by
  unfold f_X11_copies l_X11_copies_2
  rw [zg118]
  refine lp_S (RN (fun τ => Fr (fun a _ => a = q') σ τ ∧ ∀ j, j < n → τ q' j = σ q j) w u) (fun i τ => (q, q', nI i, mk τ w u)) (fun i τ => Fr (fun a _ => a = q') σ τ ∧ ∀ j, j < i → τ q' j = σ q j) n ?_ ?_ n 0 _ σ (by omega) hn ⟨Fr_r _ _, fun j hj => by omega⟩
  · intro i hi k τ ⟨fr, e0⟩ hk
    have c : τ q i = σ q i := fr q i hne
    have h2 := hk (s2 τ q' i (σ q i)) ⟨Fr_st fr rfl, fun j hj => by
      by_cases h : j = i
      · rw [s2_at rfl h, h]
      · rw [s2_off (by omega)]; exact e0 j (by omega)⟩
    dsimp only at h2 ⊢
    unfold f_X11_copies_2
    rw [show rd_L (mk τ w u) q = some (nI n) from rL h, Option.bind_some, if_neg (nI_ge hi (by omega)), rA h (by decide) (nI_in hi (by omega)), Option.bind_some, nI_clamp (by omega), c, wA h' (nI_in hi (by omega)), Option.bind_some, nI_clamp (by omega), nI_1]
    exact h2
  · intro k τ ⟨fr, e0⟩
    refine ⟨τ, ⟨fr, e0⟩, ?_⟩
    dsimp only
    unfold f_X11_copies_2
    rw [show rd_L (mk τ w u) q = some (nI n) from rL h, Option.bind_some, if_pos (nI_le (Nat.le_refl _) (by omega))]
def Wri (q k : Nat) : Prop := q = 135 ∨ q = 136 ∨ q = 137 ∨ (q = 118 ∧ (k = 0 ∨ k = 49 ∨ k = 50 ∨ k = 51))
theorem image_R (rr : Rr σ 0 X) (hN : σ 118 38 = nI N) (ra : RAc σ 129 N S) (hM : σ 118 45 = nI M) (rs : RSe σ 133 M s) : RN (fun τ => Fr Wri σ τ ∧ τ 118 0 = 0 ∧ τ 118 49 = nI 1 ∧ τ 118 50 = nI N ∧ τ 118 51 = nI M ∧ (∀ k, k < 33 → τ 135 k = nI (X k)) ∧ RAc τ 136 N S ∧ RSe τ 137 M s) w u (f_X11_image 118 (mk σ w u)) := by
  have h40 := ra.1
  have h8 := rs.1
  obtain ⟨σ1, hσ1⟩ : ∃ σ1, σ1 = s2 (s2 (s2 (s2 σ 118 0 0) 118 49 1) 118 50 (nI N)) 118 51 (nI M) := ⟨_, rfl⟩
  have d1 : (s2 (s2 σ 118 0 0) 118 49 1) 118 38 = nI N := by rw [s2_off (by omega), s2_off (by omega)]; exact hN
  have d2 : (s2 (s2 (s2 σ 118 0 0) 118 49 1) 118 50 (nI N)) 118 45 = nI M := by rw [s2_off (by omega), s2_off (by omega), s2_off (by omega)]; exact hM
  have f1 : Fr Wri σ σ1 := by rw [hσ1]; exact Fr_st (Fr_st (Fr_st (Fr_s (by unfold Wri; omega)) (by unfold Wri; omega)) (by unfold Wri; omega)) (by unfold Wri; omega)
  have p0 : σ1 118 0 = 0 := by rw [hσ1, s2_off (by omega), s2_off (by omega), s2_off (by omega), s2_at rfl rfl]
  have p1 : σ1 118 49 = nI 1 := by rw [hσ1, s2_off (by omega), s2_off (by omega), s2_at rfl rfl]; rfl
  have p2 : σ1 118 50 = nI N := by rw [hσ1, s2_off (by omega), s2_at rfl rfl]
  have p3 : σ1 118 51 = nI M := by rw [hσ1, s2_at rfl rfl]
  unfold f_X11_image
  rw [zg118, zw118_0, Option.bind_some, zw118_49 (Or.inr rfl), Option.bind_some, zi118_38, Option.bind_some, d1, zw118_50, Option.bind_some, zi118_45, Option.bind_some, d2, zw118_51, Option.bind_some, ← hσ1]
  unfold l_X11_image_28
  refine lp_S (RN (fun τ => Fr Wri σ τ ∧ τ 118 0 = 0 ∧ τ 118 49 = nI 1 ∧ τ 118 50 = nI N ∧ τ 118 51 = nI M ∧ (∀ k, k < 33 → τ 135 k = nI (X k)) ∧ RAc τ 136 N S ∧ RSe τ 137 M s) w u) (fun i τ => (118, nI i, mk τ w u)) (fun i τ => Fr Wri σ τ ∧ (∀ k, τ 118 k = σ1 118 k) ∧ ∀ j, j < i → τ 135 j = nI (X j)) 33 ?_ ?_ 33 0 _ σ1 (by omega) (by omega) ⟨f1, fun k => rfl, fun j hj => by omega⟩
  · intro i hi k τ ⟨fr, e0, e2⟩ hk
    have c : τ 128 i = nI (X i) := by
      rw [fr 128 i (by unfold Wri; omega)]
      have h := rr i hi
      rw [Nat.zero_add] at h
      exact h
    have h := hk (s2 τ 135 i (nI (X i))) ⟨Fr_st fr (by unfold Wri; omega), fun k => by rw [s2_off (by omega)]; exact e0 k, fun j hj => by
      by_cases h : j = i
      · rw [s2_at rfl h, h]
      · rw [s2_off (by omega)]; exact e2 j (by omega)⟩
    dsimp only at h ⊢
    simp (disch := omega) only [f_X11_image_28, l0, l1, l2, l3, l4, l5, l6, l7, l8, l9, l10, l11, l12, l13, l14, l15, l16, l17, l18, l19, l20, l21, l22, l23, l24, l25, l33, l34, l40, l42, l50, l58, l99, l100, l700, l999, l4095, l9999, l10000, x_neg1, nI_add, x_pred, x_m1, x_J1, pk_sub, nJ_pos, Nat.add_sub_cancel, nI_leI, nI_ltI, nI_eq, q_leJ, q_Jle, q_ltJ, q_Jlt, q_eqJ, q_Jeq, q_JJ, q_JJle, q_JJlt, Option.bind_some, if_pos, if_neg, ↓reduceIte, zr118_36, zr118_52, za128, c, zb135]
    exact h
  · intro k τ ⟨fr, e0, e2⟩
    dsimp only
    obtain ⟨τ2, ⟨fr2, c2⟩, g2⟩ := copies_R (σ := τ) (w := w) (u := u) (q := 129) (q' := 136) (n := 1320) rfl rfl (by decide) (by decide)
    obtain ⟨τ3, ⟨fr3, c3⟩, g3⟩ := copies_R (σ := τ2) (w := w) (u := u) (q := 133) (q' := 137) (n := 32) rfl rfl (by decide) (by decide)
    have b : ∀ q k, q ≠ 136 → q ≠ 137 → τ3 q k = τ q k := fun q k h1 h2 => (fr3 q k h2).trans (fr2 q k h1)
    refine ⟨τ3, ⟨?_, ?_, ?_, ?_, ?_, ?_, ⟨h40, ?_⟩, ⟨h8, ?_⟩⟩, ?_⟩
    · exact Fr_t fr (Fr_t (Fr_m fr2 (fun q k e => by unfold Wri; omega)) (Fr_m fr3 (fun q k e => by unfold Wri; omega)))
    · rw [b _ _ (by omega) (by omega), e0]; exact p0
    · rw [b _ _ (by omega) (by omega), e0]; exact p1
    · rw [b _ _ (by omega) (by omega), e0]; exact p2
    · rw [b _ _ (by omega) (by omega), e0]; exact p3
    · intro k hk; rw [b _ _ (by omega) (by omega)]; exact e2 k hk
    · intro k hk j hj
      rw [fr3 136 _ (by omega), c2 _ (by omega), fr 129 _ (by unfold Wri; omega)]
      exact ra.2 k hk j hj
    · intro i hi
      have g : ∀ j, j < 32 → τ3 137 j = σ 133 j := fun j hj => by rw [c3 j hj, fr2 133 j (by omega), fr 133 j (by unfold Wri; omega)]
      rw [g _ (by omega), g _ (by omega), g _ (by omega), g _ (by omega)]
      exact rs.2 i hi
    · unfold f_X11_image_28
      rw [if_pos (by decide)]
      unfold f_X11_image_52
      rw [zr118_37, Option.bind_some, zr118_53, Option.bind_some, g2, Option.bind_some, zr118_46, Option.bind_some, zr118_54, Option.bind_some, g3, Option.bind_some]
def Wrr (q k : Nat) : Prop := (q = 128 ∧ k < 33) ∨ q = 129 ∨ q = 133 ∨ (q = 118 ∧ (k = 0 ∨ k = 38 ∨ k = 45))
theorem restore_R (hI : σ 118 49 = nI 1) (rx : ∀ k, k < 33 → σ 135 k = nI (X k)) (hN : σ 118 50 = nI N) (ra : RAc σ 136 N S) (hM : σ 118 51 = nI M) (rs : RSe σ 137 M s) : RQ (fun τ => Fr Wrr σ τ ∧ τ 118 0 = 0 ∧ τ 118 38 = nI N ∧ τ 118 45 = nI M ∧ Rr τ 0 X ∧ RAc τ 129 N S ∧ RSe τ 133 M s) w u (nI 1) (f_X11_restore 118 (mk σ w u)) := by
  have h40 := ra.1
  have h8 := rs.1
  obtain ⟨σ1, hσ1⟩ : ∃ σ1, σ1 = s2 (s2 (s2 σ 118 0 0) 118 38 (nI N)) 118 45 (nI M) := ⟨_, rfl⟩
  have d0 : (s2 σ 118 0 0) 118 49 = nI 1 := by rw [s2_off (by omega)]; exact hI
  have d1 : (s2 σ 118 0 0) 118 50 = nI N := by rw [s2_off (by omega)]; exact hN
  have d2 : (s2 (s2 σ 118 0 0) 118 38 (nI N)) 118 51 = nI M := by rw [s2_off (by omega), s2_off (by omega)]; exact hM
  have f1 : Fr Wrr σ σ1 := by rw [hσ1]; exact Fr_st (Fr_st (Fr_s (by unfold Wrr; omega)) (by unfold Wrr; omega)) (by unfold Wrr; omega)
  have p0 : σ1 118 0 = 0 := by rw [hσ1, s2_off (by omega), s2_off (by omega), s2_at rfl rfl]
  have p2 : σ1 118 38 = nI N := by rw [hσ1, s2_off (by omega), s2_at rfl rfl]
  have p3 : σ1 118 45 = nI M := by rw [hσ1, s2_at rfl rfl]
  unfold f_X11_restore
  rw [zg118, zw118_0, Option.bind_some, zi118_49, Option.bind_some, d0, if_neg (by decide), zi118_50, Option.bind_some, d1, zw118_38, Option.bind_some, zi118_51, Option.bind_some, d2, zw118_45, Option.bind_some, ← hσ1]
  unfold l_X11_restore_32
  refine lp_S (RQ (fun τ => Fr Wrr σ τ ∧ τ 118 0 = 0 ∧ τ 118 38 = nI N ∧ τ 118 45 = nI M ∧ Rr τ 0 X ∧ RAc τ 129 N S ∧ RSe τ 133 M s) w u (nI 1)) (fun i τ => (118, nI i, mk τ w u)) (fun i τ => Fr Wrr σ τ ∧ (∀ k, τ 118 k = σ1 118 k) ∧ ∀ j, j < i → τ 128 j = nI (X j)) 33 ?_ ?_ 33 0 _ σ1 (by omega) (by omega) ⟨f1, fun k => rfl, fun j hj => by omega⟩
  · intro i hi k τ ⟨fr, e0, e2⟩ hk
    have c : τ 135 i = nI (X i) := by rw [fr 135 i (by unfold Wrr; omega)]; exact rx i hi
    have h := hk (s2 τ 128 i (nI (X i))) ⟨Fr_st fr (by unfold Wrr; omega), fun k => by rw [s2_off (by omega)]; exact e0 k, fun j hj => by
      by_cases h : j = i
      · rw [s2_at rfl h, h]
      · rw [s2_off (by omega)]; exact e2 j (by omega)⟩
    dsimp only at h ⊢
    simp (disch := omega) only [f_X11_restore_32, l0, l1, l2, l3, l4, l5, l6, l7, l8, l9, l10, l11, l12, l13, l14, l15, l16, l17, l18, l19, l20, l21, l22, l23, l24, l25, l33, l34, l40, l42, l50, l58, l99, l100, l700, l999, l4095, l9999, l10000, x_neg1, nI_add, x_pred, x_m1, x_J1, pk_sub, nJ_pos, Nat.add_sub_cancel, nI_leI, nI_ltI, nI_eq, q_leJ, q_Jle, q_ltJ, q_Jlt, q_eqJ, q_Jeq, q_JJ, q_JJle, q_JJlt, Option.bind_some, if_pos, if_neg, ↓reduceIte, zr118_36, zr118_52, za135, c, zb128]
    exact h
  · intro k τ ⟨fr, e0, e2⟩
    dsimp only
    obtain ⟨τ2, ⟨fr2, c2⟩, g2⟩ := copies_R (σ := τ) (w := w) (u := u) (q := 136) (q' := 129) (n := 1320) rfl rfl (by decide) (by decide)
    obtain ⟨τ3, ⟨fr3, c3⟩, g3⟩ := copies_R (σ := τ2) (w := w) (u := u) (q := 137) (q' := 133) (n := 32) rfl rfl (by decide) (by decide)
    have b : ∀ q k, q ≠ 129 → q ≠ 133 → τ3 q k = τ q k := fun q k h1 h2 => (fr3 q k h2).trans (fr2 q k h1)
    refine ⟨τ3, ⟨?_, ?_, ?_, ?_, ?_, ⟨h40, ?_⟩, ⟨h8, ?_⟩⟩, ?_⟩
    · exact Fr_t fr (Fr_t (Fr_m fr2 (fun q k e => by unfold Wrr; omega)) (Fr_m fr3 (fun q k e => by unfold Wrr; omega)))
    · rw [b _ _ (by omega) (by omega), e0]; exact p0
    · rw [b _ _ (by omega) (by omega), e0]; exact p2
    · rw [b _ _ (by omega) (by omega), e0]; exact p3
    · intro k hk; rw [Nat.zero_add, b _ _ (by omega) (by omega)]; exact e2 k hk
    · intro k hk j hj
      rw [fr3 129 _ (by omega), c2 _ (by omega), fr 136 _ (by unfold Wrr; omega)]
      exact ra.2 k hk j hj
    · intro i hi
      have g : ∀ j, j < 32 → τ3 133 j = σ 137 j := fun j hj => by rw [c3 j hj, fr2 137 j (by omega), fr 137 j (by unfold Wrr; omega)]
      rw [g _ (by omega), g _ (by omega), g _ (by omega), g _ (by omega)]
      exact rs.2 i hi
    · unfold f_X11_restore_32
      rw [if_pos (by decide)]
      unfold f_X11_restore_56
      rw [zr118_53, Option.bind_some, zr118_37, Option.bind_some, g2, Option.bind_some, zr118_54, Option.bind_some, zr118_46, Option.bind_some, g3, Option.bind_some]
      rfl
end RD
