/-! L3: class and reference side by side -/
section AG
variable {σ : Nat → Nat → Int32} {w u : Int64}
theorem Wsq {τ1 τ2 : Nat → Nat → Int32} (f1 : Fr Ws σ τ1) (f2 : Fr Wq (s2 τ1 118 0 0) τ2) : Fr Wz σ τ2 := by
  refine Fr_t (Fr_m f1 (fun q k e => Or.inl e)) (Fr_t (Fr_s (W := Wz) (Or.inr (by unfold Wo; omega))) (Fr_m f2 (fun q k e => Or.inr ?_)))
  unfold Wq at e
  unfold Wo
  omega
theorem Ws_rv {τ : Nat → Nat → Int32} {A X : Nat → Nat} {P : List (Nat × Nat)} (rv : RV σ 0 A P X 0) (fr : Fr Ws σ τ) : RV τ 0 A P X 0 := RV_F rv fr (fun q k e => by unfold Ws at e; omega)
theorem Ag_ok {e f m : hp_H → Option (Int32 × hp_H)} (iv : IV σ) {F : Option (Int32 × hp_H)} {V : Int32} (he : e (mk σ w u) = none) (hf : f (mk σ w u) = F.bind fun r1 => (wr_AJ r1.2 138 0 (Int32.toInt64 r1.1)).bind fun h2 => some (0, h2)) (hc : RQ (Fr Ws σ) w u V F) (hr : ∀ τ, Fr Ws σ τ → RQ (fun τ' => Fr Wq (s2 τ 118 0 0) τ') w V.toInt64 V (m (mk τ w V.toInt64))) : ∃ c v τ w' u' h1, IV τ ∧ eh (e (mk σ w u)) (f (mk σ w u)) = some (c, h1) ∧ m h1 = some (v, mk τ w' u') ∧ τ 118 0 = c ∧ (c = 0 → u' = v.toInt64) := by
  obtain ⟨τ1, f1, e1⟩ := hc
  obtain ⟨τ2, f2, e2⟩ := hr τ1 f1
  refine ⟨0, V, τ2, w, V.toInt64, mk τ1 w V.toInt64, IV_F iv (Wsq f1 f2), ?_, e2, ?_, fun _ => rfl⟩
  · rw [he, eh_n, hf, e1, Option.bind_some]
    dsimp only
    rw [wAJ, Option.bind_some]
  · rw [f2 118 0 (by unfold Wq; omega), s2_at rfl rfl]
theorem Ag_bad {e f m : hp_H → Option (Int32 × hp_H)} (iv : IV σ) {c v : Int32} (hc : c ≠ 0) (he : e (mk σ w u) = some (c, mk σ w u)) (hm : m (mk σ w u) = some (v, mk (s2 (s2 σ 118 0 0) 118 0 c) w u)) : ∃ c v τ w' u' h1, IV τ ∧ eh (e (mk σ w u)) (f (mk σ w u)) = some (c, h1) ∧ m h1 = some (v, mk τ w' u') ∧ τ 118 0 = c ∧ (c = 0 → u' = v.toInt64) := by
  refine ⟨c, v, _, w, u, mk σ w u, IV_F iv (Fr_st (Fr_s (Or.inr (by unfold Wo; omega))) (Or.inr (by unfold Wo; omega))), by rw [he, eh_s], hm, s2_at rfl rfl, fun h => absurd h hc⟩
theorem Ag0_ok {f m : hp_H → Option (Int32 × hp_H)} (iv : IV σ) {V : Int32} (hc : RQ (Fr Ws σ) w u V (f (mk σ w u))) (hr : ∀ τ, Fr Ws σ τ → RQ (fun τ' => Fr Wq (s2 τ 118 0 0) τ') w u V (m (mk τ w u))) : ∃ v τ w' h1, IV τ ∧ f (mk σ w u) = some (v, h1) ∧ m h1 = some (v, mk τ w' u) := by
  obtain ⟨τ1, f1, e1⟩ := hc
  obtain ⟨τ2, f2, e2⟩ := hr τ1 f1
  exact ⟨V, τ2, w, mk τ1 w u, IV_F iv (Wsq f1 f2), e1, e2⟩
end AG
