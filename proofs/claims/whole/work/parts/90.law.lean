/-! L3: the law's loop -/
theorem sc_f {L : Nat} {xs : Nat → Int32} {p : Nat} (h : p < L) (hL : L ≤ 3072) : sc_at L xs (nI p) = some (xs p) := by
  unfold sc_at
  rw [nI_clamp (by omega), if_neg (by
    rintro (h1 | h1)
    · exact nI_pos (show p < 2 ^ 31 by omega) h1
    · omega)]
theorem ifx {α : Type} {c : Prop} [Decidable c] {a b : Option α} (h1 : c → ∃ o, a = some o) (h2 : ¬ c → ∃ o, b = some o) : ∃ o, (if c then a else b) = some o := by
  by_cases h : c
  · rw [if_pos h]; exact h1 h
  · rw [if_neg h]; exact h2 h
theorem lg_same (x : Int64) : lg_cmp x x = 0 := by
  unfold lg_cmp
  rw [if_neg (show ¬ x > x from Int64.lt_irrefl), if_pos rfl]
section LW
variable {σ : Nat → Nat → Int32} {w u : Int64}
theorem law_H {e f m : hp_H → Option (Int32 × hp_H)} {c : hp_H → Option hp_H} (ag : Ag e f m) (iv : IV σ) (hc : ∀ τ w u, IV τ → ∃ o, c (mk τ w u) = some o) : ∃ o, ((eh (e (mk σ w u)) (f (mk σ w u))).bind fun r15 => (m r15.2).bind fun r17 => (f_X11_thrown 118 r17.2).bind fun r18 => if r18.1 = r15.1 then (if r15.1 = 0 then ((rd_AJ r18.2 138 0).bind fun v19 => if (lg_cmp v19 (Int32.toInt64 r17.1)) = 0 then c r18.2 else (none)) else c r18.2) else (none)) = some o := by
  obtain ⟨k, v, τ, w', u', h1, iv1, e1, e2, e3, e4⟩ := ag σ w u iv
  rw [e1, Option.bind_some]
  dsimp only
  rw [e2, Option.bind_some]
  dsimp only
  rw [thrown_R, Option.bind_some]
  dsimp only
  rw [e3, if_pos rfl]
  refine ifx (fun h => ?_) (fun _ => hc τ w' u' iv1)
  rw [rAJ, Option.bind_some, e4 h, lg_same, if_pos rfl]
  exact hc τ w' _ iv1
theorem law_0 {f m : hp_H → Option (Int32 × hp_H)} {c : hp_H → Option hp_H} (ag : Ag0 f m) (iv : IV σ) (hc : ∀ τ w u, IV τ → ∃ o, c (mk τ w u) = some o) : ∃ o, ((f (mk σ w u)).bind fun r1 => (m r1.2).bind fun r2 => if r1.1 = r2.1 then c r2.2 else none) = some o := by
  obtain ⟨v, τ, w', h1, iv1, e1, e2⟩ := ag σ w u iv
  rw [e1, Option.bind_some]
  dsimp only
  rw [e2, Option.bind_some]
  dsimp only
  rw [if_pos rfl]
  exact hc τ w' u iv1
theorem law_N {f m : hp_H → Option hp_H} {c : hp_H → Option hp_H} (ag : AgN f m) (iv : IV σ) (hc : ∀ τ w u, IV τ → ∃ o, c (mk τ w u) = some o) : ∃ o, ((f (mk σ w u)).bind fun r1 => (m r1).bind fun r2 => c r2) = some o := by
  obtain ⟨τ, w', h1, iv1, e1, e2⟩ := ag σ w u iv
  rw [e1, Option.bind_some, e2, Option.bind_some]
  exact hc τ w' u iv1
theorem change_b {x y v : Int32} {h h' : hp_H} (e : f_X11_change 118 x y h = some (v, h')) : v = 0 ∨ v = 1 := by
  have k41 : ∀ (t : Int32) (h : hp_H), f_X11_change_41 t h = some (v, h') → v = 0 ∨ v = 1 := by
    intro t h e
    unfold f_X11_change_41 at e
    split at e
    · next c =>
      injection e with e
      injection e with e1 e2
      rw [← e1]
      exact c
    · cases e
  have k21 : ∀ (h : hp_H), f_X11_change_21 h = some (v, h') → v = 0 ∨ v = 1 := by
    intro h e
    unfold f_X11_change_21 at e
    rw [if_pos (by decide)] at e
    injection e with e
    injection e with e1 e2
    exact Or.inl e1.symm
  unfold f_X11_change at e
  have e := (gd_spec e).2
  obtain ⟨a1, -, e⟩ := Option.bind_eq_some_iff.mp e
  obtain ⟨a2, -, e⟩ := Option.bind_eq_some_iff.mp e
  split at e
  · exact k21 _ e
  · obtain ⟨a3, -, e⟩ := Option.bind_eq_some_iff.mp e
    split at e
    · exact k21 _ e
    · split at e
      · obtain ⟨a4, -, e⟩ := Option.bind_eq_some_iff.mp e
        split at e
        · exact k41 _ _ e
        · exact k41 _ _ e
      · obtain ⟨b1, -, e⟩ := Option.bind_eq_some_iff.mp e
        obtain ⟨b2, -, e⟩ := Option.bind_eq_some_iff.mp e
        obtain ⟨b3, -, e⟩ := Option.bind_eq_some_iff.mp e
        obtain ⟨b4, -, e⟩ := Option.bind_eq_some_iff.mp e
        obtain ⟨b5, -, e⟩ := Option.bind_eq_some_iff.mp e
        obtain ⟨b6, -, e⟩ := Option.bind_eq_some_iff.mp e
        obtain ⟨b7, -, e⟩ := Option.bind_eq_some_iff.mp e
        obtain ⟨b8, -, e⟩ := Option.bind_eq_some_iff.mp e
        obtain ⟨b9, -, e⟩ := Option.bind_eq_some_iff.mp e
        rw [if_pos (by decide)] at e
        injection e with e
        injection e with e1 e2
        exact Or.inr e1.symm
theorem law_C {e f : hp_H → Option (Int32 × hp_H)} {x y : Int32} {c : hp_H → Option hp_H} (ag : Ag e f (fun h => f_X11_change 118 x y h)) (iv : IV σ) (hc : ∀ τ w u, IV τ → ∃ o, c (mk τ w u) = some o) : ∃ o, ((eh (e (mk σ w u)) (f (mk σ w u))).bind fun r74 => (f_X11_change 118 x y r74.2).bind fun r77 => (f_X11_thrown 118 r77.2).bind fun r78 => if r78.1 = r74.1 then (if r74.1 = 0 then ((rd_AJ r78.2 138 0).bind fun v79 => if r77.1 = 0 then (if (lg_cmp v79 0) = 0 then c r78.2 else none) else (if (lg_cmp v79 1) = 0 then c r78.2 else none)) else c r78.2) else (none)) = some o := by
  obtain ⟨k, v, τ, w', u', h1, iv1, e1, e2, e3, e4⟩ := ag σ w u iv
  have hb := change_b e2
  rw [e1, Option.bind_some]
  dsimp only at e2 ⊢
  rw [e2, Option.bind_some]
  dsimp only
  rw [thrown_R, Option.bind_some]
  dsimp only
  rw [e3, if_pos rfl]
  refine ifx (fun h => ?_) (fun _ => hc τ w' u' iv1)
  rw [rAJ, Option.bind_some, e4 h]
  rcases hb with hb | hb
  · rw [hb, if_pos rfl, show (0 : Int32).toInt64 = 0 from by decide, lg_same, if_pos rfl]
    exact hc τ w' _ iv1
  · rw [hb, if_neg (by decide), show (1 : Int32).toInt64 = 1 from by decide, lg_same, if_pos rfl]
    exact hc τ w' _ iv1
theorem law_step (har : ∀ x, Ag (fun h => e_L_army 0 x 138 h) (fun h => f_L_army 0 x 138 h) (fun h => f_X11_army 118 x h)) {L p : Nat} {xs : Nat → Int32} (hL : L ≤ 3072) (hp : p + 6 ≤ L) (iv : IV σ) {k : Nat → Nat → Nat → Int32 → hp_H → Option hp_H} (hk : ∀ τ w u, IV τ → ∃ o, k 0 118 138 (nI (p + 6)) (mk τ w u) = some o) : ∃ o, f_L_law_23 L xs k 0 118 138 (nI p) (mk σ w u) = some o := by
  have s0 := sc_f (xs := xs) (show p < L by omega) hL
  have s1 : sc_at L xs (nI p + 1) = some (xs (p + 1)) := by rw [show nI p + (1 : Int32) = nI (p + 1) from nI_add p 1]; exact sc_f (by omega) hL
  have s2 : sc_at L xs (nI p + 2) = some (xs (p + 2)) := by rw [show nI p + (2 : Int32) = nI (p + 2) from nI_add p 2]; exact sc_f (by omega) hL
  have s3 : sc_at L xs (nI p + 3) = some (xs (p + 3)) := by rw [show nI p + (3 : Int32) = nI (p + 3) from nI_add p 3]; exact sc_f (by omega) hL
  have s4 : sc_at L xs (nI p + 4) = some (xs (p + 4)) := by rw [show nI p + (4 : Int32) = nI (p + 4) from nI_add p 4]; exact sc_f (by omega) hL
  have s5 : sc_at L xs (nI p + 5) = some (xs (p + 5)) := by rw [show nI p + (5 : Int32) = nI (p + 5) from nI_add p 5]; exact sc_f (by omega) hL
  have hc : ∀ τ w u, IV τ → ∃ o, f_L_law_2799 L xs k 0 118 138 (nI p) (mk τ w u) = some o := fun τ w u h => by
    unfold f_L_law_2799
    rw [show nI p + (6 : Int32) = nI (p + 6) from nI_add p 6]
    exact hk τ w u h
  unfold f_L_law_23
  rw [if_neg (show ¬ Int32.ofNat L - 6 < nI p from by
    rw [show Int32.ofNat L - 6 = nI (L - 6) from pk_sub (b := 6) (by omega)]
    exact nI_nlt (by omega) (by omega)), s0, Option.bind_some]
  refine ifx (fun _ => ?_) (fun _ => ?_)
  · simp only [s1, s2, s3, s4, s5, Option.bind_some]
    exact law_0 (ag_feed _ _ _ _ _) iv hc
  refine ifx (fun _ => ?_) (fun _ => ?_)
  · simp only [s1, Option.bind_some]
    exact law_H (har _) iv hc
  refine ifx (fun _ => ?_) (fun _ => ?_)
  · exact law_0 ag_fault iv hc
  refine ifx (fun _ => ?_) (fun _ => ?_)
  · simp only [s1, Option.bind_some]
    exact law_H (ag_count _) iv hc
  refine ifx (fun _ => ?_) (fun _ => ?_)
  · simp only [s1, s2, Option.bind_some]
    exact law_H (ag_man _ _) iv hc
  refine ifx (fun _ => ?_) (fun _ => ?_)
  · simp only [s1, s2, Option.bind_some]
    exact law_H (ag_row _ _) iv hc
  refine ifx (fun _ => ?_) (fun _ => ?_)
  · simp only [s1, Option.bind_some]
    exact law_0 (ag_nights _) iv hc
  refine ifx (fun _ => ?_) (fun _ => ?_)
  · simp only [s1, s2, Option.bind_some]
    exact law_H (ag_put _ _) iv hc
  refine ifx (fun _ => ?_) (fun _ => ?_)
  · simp only [s1, s2, Option.bind_some]
    exact law_H (ag_heel _ _) iv hc
  refine ifx (fun _ => ?_) (fun _ => ?_)
  · simp only [s1, s2, Option.bind_some]
    exact law_H (ag_loud _ _) iv hc
  refine ifx (fun _ => ?_) (fun _ => ?_)
  · simp only [s1, s2, Option.bind_some]
    exact law_C (ag_change _ _) iv hc
  refine ifx (fun _ => ?_) (fun _ => ?_)
  · exact law_0 ag_undo iv hc
  refine ifx (fun _ => ?_) (fun _ => ?_)
  · simp only [s1, s2, s3, Option.bind_some]
    exact law_H (ag_then _ _ _) iv hc
  refine ifx (fun _ => ?_) (fun _ => ?_)
  · simp only [s1, s2, Option.bind_some]
    exact law_H (ag_honour _ _) iv hc
  refine ifx (fun _ => ?_) (fun _ => ?_)
  · simp only [s1, Option.bind_some]
    exact law_H (ag_first _) iv hc
  refine ifx (fun _ => ?_) (fun _ => ?_)
  · simp only [s1, Option.bind_some]
    exact law_H (ag_mistaken _) iv hc
  refine ifx (fun _ => ?_) (fun _ => ?_)
  · simp only [s1, Option.bind_some]
    exact law_H (ag_unsung _) iv hc
  refine ifx (fun _ => ?_) (fun _ => ?_)
  · simp only [s1, s2, Option.bind_some]
    exact law_H (ag_far _ _) iv hc
  refine ifx (fun _ => ?_) (fun _ => ?_)
  · exact law_0 ag_nearest iv hc
  refine ifx (fun _ => ?_) (fun _ => ?_)
  · simp only [s1, Option.bind_some]
    exact law_H (ag_apart _) iv hc
  refine ifx (fun _ => ?_) (fun _ => ?_)
  · simp only [s1, Option.bind_some]
    exact law_H (ag_tread _) iv hc
  refine ifx (fun _ => ?_) (fun _ => ?_)
  · simp only [s1, s2, Option.bind_some]
    exact law_H (ag_passes _ _) iv hc
  refine ifx (fun _ => ?_) (fun _ => ?_)
  · simp only [s1, Option.bind_some]
    exact law_H (ag_hidden _) iv hc
  refine ifx (fun _ => ?_) (fun _ => ?_)
  · simp only [s1, Option.bind_some]
    exact law_H (ag_toSock _) iv hc
  refine ifx (fun _ => ?_) (fun _ => ?_)
  · simp only [s1, Option.bind_some]
    exact law_H (ag_review _) iv hc
  refine ifx (fun _ => ?_) (fun _ => ?_)
  · simp only [s1, s2, s3, s4, Option.bind_some]
    refine ifx (fun h => ?_) (fun h => ?_)
    · unfold f_L_law_1677 f_L_law_1716
      simp only [s1, s2, s3, s4, Option.bind_some, if_pos h]
      exact law_H (ag_see _ _ _ _) iv hc
    · unfold f_L_law_1677 f_L_law_1716
      simp only [s1, s2, s3, s4, Option.bind_some, if_neg h]
      exact law_H (ag_see _ _ _ _) iv hc
  refine ifx (fun _ => ?_) (fun _ => ?_)
  · exact law_N ag_forget iv hc
  refine ifx (fun _ => ?_) (fun _ => ?_)
  · simp only [s1, Option.bind_some]
    exact law_H (ag_limped _) iv hc
  refine ifx (fun _ => ?_) (fun _ => ?_)
  · simp only [s1, Option.bind_some]
    exact law_H (ag_next _) iv hc
  refine ifx (fun _ => ?_) (fun _ => ?_)
  · simp only [s1, s2, s3, Option.bind_some]
    exact law_H (ag_byMud _ _ _) iv hc
  refine ifx (fun _ => ?_) (fun _ => ?_)
  · simp only [s1, s2, s3, Option.bind_some]
    exact law_H (ag_game _ _ _) iv hc
  refine ifx (fun _ => ?_) (fun _ => ?_)
  · simp only [s1, s2, s3, Option.bind_some]
    exact law_H (ag_reviews _ _ _) iv hc
  refine ifx (fun _ => ?_) (fun _ => ?_)
  · simp only [s1, Option.bind_some]
    exact law_H (ag_nextTo _) iv hc
  refine ifx (fun _ => ?_) (fun _ => ?_)
  · simp only [s1, Option.bind_some]
    exact law_H (ag_alike _) iv hc
  refine ifx (fun _ => ?_) (fun _ => ?_)
  · simp only [s1, Option.bind_some]
    exact law_H (ag_lost _) iv hc
  refine ifx (fun _ => ?_) (fun _ => ?_)
  · simp only [s1, Option.bind_some]
    exact law_H (ag_mates _) iv hc
  refine ifx (fun _ => ?_) (fun _ => ?_)
  · exact law_0 ag_step iv hc
  refine ifx (fun _ => ?_) (fun _ => ?_)
  · simp only [s1, s2, s3, Option.bind_some]
    exact law_H (ag_chain _ _ _) iv hc
  refine ifx (fun _ => ?_) (fun _ => ?_)
  · simp only [s1, Option.bind_some]
    exact law_H (ag_most _) iv hc
  refine ifx (fun _ => ?_) (fun _ => ?_)
  · simp only [s1, s2, Option.bind_some]
    exact law_H (ag_often _ _) iv hc
  refine ifx (fun _ => ?_) (fun _ => ?_)
  · simp only [s1, Option.bind_some]
    exact law_H (ag_spoilt _) iv hc
  refine ifx (fun _ => ?_) (fun _ => ?_)
  · simp only [s1, s2, Option.bind_some]
    exact law_H (ag_reform _ _) iv hc
  refine ifx (fun _ => ?_) (fun _ => ?_)
  · exact law_0 ag_swap iv hc
  refine ifx (fun _ => ?_) (fun _ => ?_)
  · exact law_0 ag_loudest iv hc
  refine ifx (fun _ => ?_) (fun _ => ?_)
  · simp only [s1, Option.bind_some]
    exact law_H (ag_run _) iv hc
  refine ifx (fun _ => ?_) (fun _ => ?_)
  · exact law_0 ag_rarest iv hc
  refine ifx (fun _ => ?_) (fun _ => ?_)
  · exact law_N ag_image iv hc
  refine ifx (fun _ => ?_) (fun _ => ?_)
  · exact law_0 ag_restore iv hc
  exact hc σ w u iv
theorem IV_0 : IV σ0 := by
  have z : ∀ q k, ¬ (q = 0 ∧ k = 2) → ¬ (q = 5 ∧ k = 0) → ¬ (q = 5 ∧ k = 3) → q ≠ 80 → q ≠ 81 → q ≠ 107 → q ≠ 118 → σ0 q k = 0 := fun q k h1 h2 h3 h4 h5 h6 h7 => by
    unfold σ0
    rw [if_neg h1, if_neg h2, if_neg h3, if_neg (fun e => h4 e.1), if_neg (fun e => h5 e.1), if_neg (fun e => h5 e.1), if_neg (fun e => h6 e.1), if_neg (fun e => h7 e.1), if_neg (fun e => h7 e.1), if_neg (fun e => h7 e.1), if_neg (fun e => h7 e.1), if_neg (fun e => h7 e.1)]
  have zz : ∀ q k, ¬ (q = 0 ∧ k = 2) → ¬ (q = 5 ∧ k = 0) → ¬ (q = 5 ∧ k = 3) → q ≠ 80 → q ≠ 81 → q ≠ 107 → q ≠ 118 → σ0 q k = nI 0 := z
  obtain ⟨A, hA⟩ : ∃ A : Nat → Nat, A = fun k => if k = 0 then 8 else if k = 3 then 2 else 0 := ⟨_, rfl⟩
  obtain ⟨X, hX⟩ : ∃ X : Nat → Nat, X = fun _ => 0 := ⟨_, rfl⟩
  have a0 : A 0 = 8 := by rw [hA]; rfl
  have a3 : A 3 = 2 := by rw [hA]; rfl
  have ak : ∀ k, k ≠ 0 → k ≠ 3 → A k = 0 := fun k h1 h2 => by rw [hA]; dsimp only; rw [if_neg h1, if_neg h2]
  have x0 : ∀ k, X k = 0 := fun k => by rw [hX]
  have wa : WA A := ⟨by omega, by omega, by rw [ak 1 (by omega) (by omega)]; omega, by rw [ak 2 (by omega) (by omega)]; omega, by omega, by rw [ak 4 (by omega) (by omega)]; omega, fun j hj => by rw [ak _ (by omega) (by omega)]; omega⟩
  have b0 : ∀ i, bt 0 i = 0 := fun i => by unfold bt; rw [Nat.zero_div]
  have wx : WX A X := ⟨by rw [x0]; omega, fun i hi => by rw [x0, x0, x0, x0, pc_z]; exact ⟨Nat.two_pow_pos _, by omega, by omega, Nat.two_pow_pos _, by omega⟩, fun r q i hr hq h1 h2 => by rw [x0, b0] at h1; omega, fun r _ _ => x0 _⟩
  have mv : Mv σ0 34 X := ⟨by rw [x0]; exact zz _ _ (by omega) (by omega) (by omega) (by omega) (by omega) (by omega) (by omega), fun i hi => by
    rw [x0, x0, x0, x0]
    exact ⟨zz _ _ (by omega) (by omega) (by omega) (by omega) (by omega) (by omega) (by omega), zz _ _ (by omega) (by omega) (by omega) (by omega) (by omega) (by omega) (by omega), zz _ _ (by omega) (by omega) (by omega) (by omega) (by omega) (by omega) (by omega), zz _ _ (by omega) (by omega) (by omega) (by omega) (by omega) (by omega) (by omega)⟩⟩
  have okA : OkA A X 0 (fun _ => 0) (fun _ => 0) (fun _ => 0) (fun _ _ => 0) := ⟨by rw [x0]; omega, fun k hk => by omega⟩
  refine ⟨A, [], X, ⟨Or.inl rfl, ⟨⟨by rw [a0]; decide, by rw [ak 1 (by omega) (by omega)]; decide, by rw [ak 2 (by omega) (by omega)]; decide, by rw [a3]; decide, by rw [ak 4 (by omega) (by omega)]; decide⟩, fun j hj => by rw [ak _ (by omega) (by omega)]; exact zz _ _ (by omega) (by omega) (by omega) (by omega) (by omega) (by omega) (by omega), by decide, by decide, fun j k n h => by simp at h⟩, mv, wa, wx, Or.inl rfl⟩, ⟨Or.inl rfl, ⟨⟨by rw [a0]; decide, by rw [ak 1 (by omega) (by omega)]; decide, by rw [ak 2 (by omega) (by omega)]; decide, by rw [ak 4 (by omega) (by omega)]; decide, by rw [a3]; decide⟩, fun j hj => by rw [ak _ (by omega) (by omega)]; exact zz _ _ (by omega) (by omega) (by omega) (by omega) (by omega) (by omega) (by omega), Or.inl ⟨rfl, by decide⟩⟩, fun k hk => by rw [x0]; exact zz _ _ (by omega) (by omega) (by omega) (by omega) (by omega) (by omega) (by omega), ⟨by decide, by omega⟩, wa, wx, Or.inl rfl⟩, ⟨0, _, _, _, _, ⟨by omega, by decide, fun k hk => by omega⟩, ⟨by omega, fun k hk => by omega⟩, by decide, okA⟩, ⟨0, fun _ _ => 0, ⟨by omega, by decide, fun k hk => by omega⟩, ⟨by omega, fun k hk => by omega⟩, by decide, fun i hi => by omega⟩, ⟨0, by omega, by decide, by decide, fun h => by omega⟩, ⟨0, fun _ => 0, by omega, by decide, by decide, fun j hj => ⟨by show 0 < 256; decide, zz _ _ (by omega) (by omega) (by omega) (by omega) (by omega) (by omega) (by omega), zz _ _ (by omega) (by omega) (by omega) (by omega) (by omega) (by omega) (by omega)⟩, by decide, fun i hi => by rw [z _ _ (by omega) (by omega) (by omega) (by omega) (by omega) (by omega) (by omega), z _ _ (by omega) (by omega) (by omega) (by omega) (by omega) (by omega) (by omega)]⟩⟩
/-- all but the army's reading -/
theorem law_all (har : ∀ x, Ag (fun h => e_L_army 0 x 138 h) (fun h => f_L_army 0 x 138 h) (fun h => f_X11_army 118 x h)) (L : Nat) (xs : Nat → Int32) (hL : L ≤ 3072) : ∃ o, f_L_law L xs = some o := by
  rw [law_init]
  unfold l_L_law_23
  have h := lp_W (f := fun k (s : Nat × Nat × Nat × Int32 × hp_H) => f_L_law_23 L xs (fun a0 a1 a2 a3 a4 => k (a0, a1, a2, a3, a4)) s.1 s.2.1 s.2.2.1 s.2.2.2.1 s.2.2.2.2) (fun x => ∃ o, x = some o) (fun s => ∃ p τ w u, p ≤ L + 6 ∧ IV τ ∧ s = (0, 118, 138, nI p, mk τ w u)) (fun s => (L + 6 - s.2.2.2.1.toNatClampNeg) / 6) (fun k s ⟨p, τ, w, u, hp, iv, es⟩ hk => by
    subst es
    dsimp only
    by_cases c : p + 6 ≤ L
    · refine law_step har hL c iv (fun τ' w' u' iv' => hk _ ⟨p + 6, τ', w', u', by omega, iv', rfl⟩ ?_)
      dsimp only
      rw [nI_clamp (by omega), nI_clamp (by omega)]
      omega
    · unfold f_L_law_23 f_L_law_2805
      by_cases c6 : L < 6
      · rw [if_pos (show Int32.ofNat L - 6 < nI p from by
          have h6 : ∀ l, l < 6 → Int32.ofNat l - 6 < 0 := by decide
          have h7 := h6 L c6
          have h8 : ¬ nI p < 0 := nI_pos (by omega)
          rw [Int32.lt_iff_toInt_lt] at h7 h8 ⊢
          omega)]
        exact ⟨_, rfl⟩
      · rw [if_pos (show Int32.ofNat L - 6 < nI p from by
          rw [show Int32.ofNat L - 6 = nI (L - 6) from pk_sub (b := 6) (by omega)]
          exact (nI_ltI (by omega) (by omega)).mpr (by omega))]
        exact ⟨_, rfl⟩) 1000 (0, 118, 138, 0, mk σ0 0 0) ⟨0, σ0, 0, 0, by omega, IV_0, rfl⟩ (by
      dsimp only
      have h3 : (0 : Int32).toNatClampNeg = 0 := by decide
      rw [h3]
      omega)
  exact h
end LW
