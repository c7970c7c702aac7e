/-! L3: acts: what both sides keep -/
section AP
variable {σ τ : Nat → Nat → Int32} {w u : Int64} {A X Y : Nat → Nat} {P : List (Nat × Nat)} {N : Nat} {K O U : Nat → Nat} {S : Nat → Nat → Nat}
theorem OkA_push (ok : OkA A X N K O U S) (hN : N ≤ 40) (wx : WX A X) {kd on two : Nat} (hy : Y 0 ≤ 999) (hk : okK A kd on two Y) (hb : ∀ j, j < 33 → bk A kd on two X Y j = X j) : OkA A Y (nN N + 1) (pu N K kd) (pu N O on) (pu N U two) (pu N S X) := by
  refine ⟨hy, fun k hk2 => ?_⟩
  by_cases c : k = nN N
  · have e1 : ∀ {α : Type} (F : Nat → α) (x : α), pu N F x k = x := fun F x => if_pos c
    have e2 : nx (nN N + 1) (pu N S X) Y k = Y := by unfold nx; rw [if_pos (by omega)]
    rw [e1, e1, e1, e1, e2]
    exact ⟨wx, ok.1, hk, hb⟩
  · obtain ⟨k', h1, h2, h3⟩ : ∃ k', k' < N ∧ (∀ {α : Type} (F : Nat → α) (x : α), pu N F x k = F k') ∧ nx (nN N + 1) (pu N S X) Y k = nx N S X k' := by
      by_cases h40 : N = 40
      · have hn : nN N = 39 := by unfold nN; rw [if_pos h40]
        refine ⟨k + 1, by omega, fun F x => ?_, ?_⟩
        · unfold pu; rw [if_neg c, if_pos h40]
        · unfold nx pu
          rw [hn] at c hk2 ⊢
          rw [if_neg (by omega)]
          by_cases c2 : k + 1 = 39
          · rw [if_pos c2, if_pos (by omega)]
          · rw [if_neg c2, if_pos h40, if_neg (by omega)]
      · have hn : nN N = N := by unfold nN; rw [if_neg h40]
        refine ⟨k, by omega, fun F x => ?_, ?_⟩
        · unfold pu; rw [if_neg c, if_neg h40]
        · unfold nx pu
          rw [hn] at c hk2 ⊢
          rw [if_neg (by omega)]
          by_cases c2 : k + 1 = N
          · rw [if_pos c2, if_pos c2]
          · rw [if_neg c2, if_neg h40, if_neg c2]
    rw [h2, h2, h2, h2, h3]
    exact ok.2 k' h1
theorem CV_new {W : Nat → Nat → Prop} (cv : CV σ 34 A P X) (fr : Fr W σ τ) (hw : ∀ q k, W q k → ¬ (q = 5 ∨ q = 7 ∨ q = 8 ∨ q = 12)) (mv : Mv τ 34 Y) (wy : WX A Y) : CV τ 34 A P Y := by
  obtain ⟨hm, ⟨⟨a0, a1, a2, a3, a4⟩, am, al, ap, ac⟩, -, wa, -, wp⟩ := cv
  have g : ∀ q k, q = 5 ∨ q = 7 ∨ q = 8 ∨ q = 12 → τ q k = σ q k := fun q k h => fr q k (fun e => hw q k e h)
  refine ⟨hm, ⟨⟨?_, ?_, ?_, ?_, ?_⟩, ?_, ?_, ap, ?_⟩, mv, wa, wy, wp⟩
  · rw [g _ _ (by omega)]; exact a0
  · rw [g _ _ (by omega)]; exact a1
  · rw [g _ _ (by omega)]; exact a2
  · rw [g _ _ (by omega)]; exact a3
  · rw [g _ _ (by omega)]; exact a4
  · intro j hj; rw [g _ _ (by omega)]; exact am j hj
  · rw [g _ _ (by omega)]; exact al
  · intro j k n hj; rw [g _ _ (by omega)]; exact ac j k n hj
theorem RV_new {W : Nat → Nat → Prop} (rv : RV σ 0 A P X 0) (fr : Fr W σ τ) (hw : ∀ q k, W q k → ¬ (q = 118 ∧ 1 ≤ k ∧ k ≤ 6) ∧ q ≠ 119 ∧ q ≠ 120 ∧ ¬ (q = 118 ∧ k = 41)) (rr : Rr τ 0 Y) (wy : WX A Y) : RV τ 0 A P Y 0 := by
  obtain ⟨h1, h2, -, h4, h5, -, h7⟩ := rv
  exact ⟨h1, Ra_F h2 fr (fun q k e => by have := hw q k e; omega), rr, ⟨by rw [fr 118 41 (fun e => (hw _ _ e).2.2.2 ⟨rfl, rfl⟩)]; exact h4.1, h4.2⟩, h5, wy, h7⟩
def Wcl (q k : Nat) : Prop := Wm 34 q k ∨ Wa 16 q k
def Wre (q k : Nat) : Prop := Wq q k ∨ (q = 128 ∧ k < 33) ∨ Wra q k
def CM (σ : Nat → Nat → Int32) (Y : Nat → Nat) (N : Nat) (K O U : Nat → Nat) (S : Nat → Nat → Nat) (τ : Nat → Nat → Int32) : Prop := Fr Wcl σ τ ∧ Mv τ 34 Y ∧ CA τ 16 N K O U S
def RM (σ : Nat → Nat → Int32) (Y : Nat → Nat) (N : Nat) (S : Nat → Nat → Nat) (τ : Nat → Nat → Int32) : Prop := Fr Wre σ τ ∧ Rr τ 0 Y ∧ RAc τ 129 N S ∧ τ 118 38 = nI N
theorem IV_act (cv : CV σ 34 A P X) (rv : RV σ 0 A P X 0) (is : IS σ A) (ik : IK σ A) (it : IT σ) {τ1 τ2 : Nat → Nat → Int32} (c : CM σ Y N K O U S τ1) (r : RM (s2 τ1 118 0 0) Y N S τ2) (ok : OkA A Y N K O U S) (wy : WX A Y) : IV τ2 := by
  obtain ⟨f1, m1, a1⟩ := c
  obtain ⟨f2, r2, b2, n2⟩ := r
  have f3 : Fr (fun q k => (q = 118 ∧ k = 0) ∨ Wre q k) τ1 τ2 := Fr_t (Fr_s (Or.inl ⟨rfl, rfl⟩)) (Fr_m f2 (fun q k e => Or.inr e))
  have f4 : Fr (fun q k => Wcl q k ∨ (q = 118 ∧ k = 0) ∨ Wre q k) σ τ2 := Fr_t (Fr_m f1 (fun q k e => Or.inl e)) (Fr_m f3 (fun q k e => Or.inr e))
  refine ⟨A, P, Y, CV_new cv f4 (fun q k e => ?_) (Mv_F m1 f3 (fun q k e => ?_)) wy, RV_new rv f4 (fun q k e => ?_) r2 wy, ⟨N, K, O, U, S, CA_F a1 f3 (fun q k e => ?_), b2, n2, ok⟩, IS_F is f4 (fun q k e => ?_), IK_F ik f4 (fun q k e => ?_), IT_F it f4 (fun q k e => ?_)⟩
  · unfold Wcl Wre Wm Wa Wq Wra at e; omega
  · unfold Wre Wq Wra at e; omega
  · unfold Wcl Wre Wm Wa Wq Wra at e; omega
  · unfold Wre Wq Wra at e; unfold Wa; omega
  · unfold Wcl Wre Wm Wa Wq Wra at e; unfold Wa; omega
  · unfold Wcl Wre Wm Wa Wq Wra at e; unfold Wst Wm Wa; omega
  · unfold Wcl Wre Wm Wa Wq Wra at e; omega
theorem Ag_act {e f m : hp_H → Option (Int32 × hp_H)} (cv : CV σ 34 A P X) (rv : RV σ 0 A P X 0) (is : IS σ A) (ik : IK σ A) (it : IT σ) {F : Option (Int32 × hp_H)} {V : Int32} (he : e (mk σ w u) = none) (hf : ∀ τ1, F = some (V, mk τ1 w u) → f (mk σ w u) = some (0, mk τ1 w V.toInt64)) (hc : RQ (CM σ Y N K O U S) w u V F) (hr : ∀ τ1, CM σ Y N K O U S τ1 → RQ (RM (s2 τ1 118 0 0) Y N S) w V.toInt64 V (m (mk τ1 w V.toInt64))) (ok : OkA A Y N K O U S) (wy : WX A Y) : ∃ c v τ w' u' h1, IV τ ∧ eh (e (mk σ w u)) (f (mk σ w u)) = some (c, h1) ∧ m h1 = some (v, mk τ w' u') ∧ τ 118 0 = c ∧ (c = 0 → u' = v.toInt64) := by
  obtain ⟨τ1, c1, e1⟩ := hc
  obtain ⟨τ2, r2, e2⟩ := hr τ1 c1
  refine ⟨0, V, τ2, w, V.toInt64, mk τ1 w V.toInt64, IV_act cv rv is ik it c1 r2 ok wy, ?_, e2, ?_, fun _ => rfl⟩
  · rw [he, eh_n, hf τ1 e1]
  · rw [r2.1 118 0 (by unfold Wre Wq Wra; omega), s2_at rfl rfl]
theorem hf_std {F : Option (Int32 × hp_H)} {V : Int32} : ∀ τ1, F = some (V, mk τ1 w u) → (F.bind fun r1 => (wr_AJ r1.2 138 0 (Int32.toInt64 r1.1)).bind fun h2 => some (0, h2)) = some ((0 : Int32), mk τ1 w V.toInt64) := fun τ1 h => by
  rw [h, Option.bind_some]
  dsimp only
  rw [wAJ, Option.bind_some]
/-- the class keeps an act, then changes the march -/
theorem act_C (cv : CV σ 34 A P X) (ca : CA σ 16 N K O U S) {kd on two : Nat} {G : Option hp_H → Option (Int32 × hp_H)} {V : Int32} {g : hp_H → Option hp_H} (hg : ∀ τ, CV τ 34 A P X → RN (fun τ' => Fr (Wm 34) τ τ' ∧ Mv τ' 34 Y) w u (g (mk τ w u))) (hG : ∀ τ, Fr Wcl σ τ → Mv τ 34 Y → G (some (mk τ w u)) = some (V, mk τ w u)) : RQ (CM σ Y (nN N + 1) (pu N K kd) (pu N O on) (pu N U two) (pu N S X)) w u V (G ((f_X0_keep 16 (nI kd) (nI on) (tw kd two) 34 (mk σ w u)).bind g)) := by
  obtain ⟨τ1, ⟨f1, a1⟩, e1⟩ := keep_f (w := w) (u := u) isAc_16 cv (by omega) ca (kd := kd) (on := on) (two := two)
  obtain ⟨τ2, ⟨f2, m2⟩, e2⟩ := hg τ1 (CV_F cv f1 (fun q k e => by unfold Wa at e; omega))
  have fr : Fr Wcl σ τ2 := Fr_t (Fr_m f1 (fun q k e => Or.inr e)) (Fr_m f2 (fun q k e => Or.inl e))
  rw [e1, Option.bind_some, e2, hG τ2 fr m2]
  exact ⟨τ2, ⟨fr, m2, CA_F a1 f2 (fun q k e => by unfold Wm at e; unfold Wa; omega)⟩, rfl⟩
/-- the reference likewise -/
theorem act_R (rv : RV σ 0 A P X 0) (hN : σ 118 38 = nI N) (ra : RAc σ 129 N S) : ∃ τ, Fr Wre σ τ ∧ RV τ 0 A P X 0 ∧ RAc τ 129 (nN N + 1) (pu N S X) ∧ τ 118 38 = nI (nN N + 1) ∧ f_X11_keeps 118 (mk σ w u) = some (mk τ w u) := by
  obtain ⟨τ, ⟨f1, n1, a1⟩, e1⟩ := keeps_R (w := w) (u := u) rv.2.2.1 hN ra
  exact ⟨τ, Fr_m f1 (fun q k e => Or.inr (Or.inr e)), RV_F rv f1 (fun q k e => by unfold Wra at e; omega), a1, n1, e1⟩
theorem RM_mk {τ1 τ2 : Nat → Nat → Int32} (f1 : Fr Wre σ τ1) (ra : RAc τ1 129 N S) (hN : τ1 118 38 = nI N) (f2 : Fr (fun q k => q = 128 ∧ k < 33) τ1 τ2) (rr : Rr τ2 0 Y) : RM σ Y N S τ2 := ⟨Fr_t f1 (Fr_m f2 (fun q k e => Or.inr (Or.inl e))), rr, RAc_F ra f2 (fun k e => by omega), by rw [f2 118 38 (by omega)]; exact hN⟩
/-- a refusal -/
theorem IV_refuse (iv : IV σ) {i : Nat} (hi : i < 3) : IV (s2 (s2 (s2 σ 4 i (σ 4 i + 1)) 118 0 0) 122 i (σ 122 i + 1)) := by
  obtain ⟨A, P, X, h1, h2, h3, h4, h5, h6⟩ := iv
  have fr : Fr (fun q k => q = 4 ∨ q = 122 ∨ (q = 118 ∧ k = 0)) σ (s2 (s2 (s2 σ 4 i (σ 4 i + 1)) 118 0 0) 122 i (σ 122 i + 1)) := Fr_st (Fr_st (Fr_s (Or.inl rfl)) (Or.inr (Or.inr ⟨rfl, rfl⟩))) (Or.inr (Or.inl rfl))
  refine ⟨A, P, X, CV_F h1 fr (fun q k e => ?_), RV_F h2 fr (fun q k e => ?_), IA_F h3 fr (fun q k e => ?_), IS_F h4 fr (fun q k e => ?_), IK_F h5 fr (fun q k e => ?_), ?_⟩
  · omega
  · omega
  · unfold Wa; omega
  · unfold Wa; omega
  · unfold Wst Wm Wa; omega
  · obtain ⟨t, T, k0, k1, k2, k3, k4, k5⟩ := h6
    refine ⟨t, T, k0, ?_, ?_, fun j hj => ?_, ?_, fun i' hi' => ?_⟩
    · rw [fr 0 1 (by omega)]; exact k1
    · rw [fr 118 10 (by omega)]; exact k2
    · rw [fr 2 j (by omega), fr 121 j (by omega)]; exact k3 j hj
    · rw [fr 0 2 (by omega), fr 118 12 (by omega)]; exact k4
    · by_cases c : i' = i
      · rw [c, s2_off (by omega), s2_off (by omega), s2_at rfl rfl, s2_at rfl rfl, k5 i hi]
      · rw [s2_off (by omega), s2_off (by omega), s2_off (by omega), s2_off (by omega), s2_off (by omega), s2_off (by omega)]
        exact k5 i' hi'
theorem refuse_f {i : Nat} (hi : i < 3) : f_X10_refuse 0 (nI i) (mk σ w u) = some (mk (s2 σ 4 i (σ 4 i + 1)) w u) := by
  unfold f_X10_refuse
  rw [zg0, zr0_3, Option.bind_some, Option.bind_some, zt3 hi, Option.bind_some]
  dsimp only
  rw [zs3 hi, Option.bind_some]
theorem refuses_R {i : Nat} (hi : i < 3) : f_X11_refuses 118 (nI i) (mk σ w u) = some (-1, mk (s2 σ 122 i (σ 122 i + 1)) w u) := by
  unfold f_X11_refuses
  rw [zg118, zr118_13, Option.bind_some, za122 hi, Option.bind_some, zb122 hi, Option.bind_some]
theorem Ag_ref {e f m : hp_H → Option (Int32 × hp_H)} (iv : IV σ) {i : Nat} (hi : i < 3) {V : Int32} (he : e (mk σ w u) = none) (hf : f (mk σ w u) = some (0, mk (s2 σ 4 i (σ 4 i + 1)) w V.toInt64)) (hm : m (mk (s2 σ 4 i (σ 4 i + 1)) w V.toInt64) = some (V, mk (s2 (s2 (s2 σ 4 i (σ 4 i + 1)) 118 0 0) 122 i (σ 122 i + 1)) w V.toInt64)) : ∃ c v τ w' u' h1, IV τ ∧ eh (e (mk σ w u)) (f (mk σ w u)) = some (c, h1) ∧ m h1 = some (v, mk τ w' u') ∧ τ 118 0 = c ∧ (c = 0 → u' = v.toInt64) :=
  ⟨0, V, _, w, _, _, IV_refuse iv hi, by rw [he, eh_n, hf], hm, by rw [s2_off (by omega), s2_at rfl rfl], fun _ => rfl⟩
end AP
