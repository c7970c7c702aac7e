/-! L3: the class reads a rule, all levels -/
theorem isW_u {T : Nat → Nat} {s e : Nat} {l l' : List Nat} (h1 : isW T s e l = true) (h2 : isW T s e l' = true) : l = l' := by
  have a1 := of_decide_eq_true h1
  have a2 := of_decide_eq_true h2
  apply List.ext_getElem
  · omega
  · intro i hi hi2
    have b1 := a1.2 i hi
    have b2 := a2.2 i hi2
    rw [List.getD_eq_getElem?_getD, List.getElem?_eq_getElem hi] at b1
    rw [List.getD_eq_getElem?_getD, List.getElem?_eq_getElem hi2] at b2
    have b1 : T (s + i) = l[i] := b1
    have b2 : T (s + i) = l'[i] := b2
    rw [← b1, ← b2]
theorem wrd_u : ∀ i, i < 14 → ∀ j, j < 14 → wrd i = wrd j → i = j := by decide
theorem kw_is {T : Nat → Nat} {K : Nat × Nat × Nat} {i : Nat} (hi : i < 14) : (K.2.2 = 2 ∧ isW T K.1 K.2.1 (wrd i) = true) ↔ kw T K = i + 1 := by
  unfold kw
  by_cases c : K.2.2 = 2
  · rw [if_pos c]
    have key : ∀ j, fi (fun k => if isW T K.1 K.2.1 (wrd k) = true then 1 else 0) 14 0 = j + 1 → j < 14 ∧ isW T K.1 K.2.1 (wrd j) = true := by
      intro j hj
      obtain ⟨-, a2, a3, -⟩ := fi_S _ 14 0 j hj
      refine ⟨by omega, ?_⟩
      by_cases c2 : isW T K.1 K.2.1 (wrd j) = true
      · exact c2
      · exact absurd (if_neg c2) a3
    constructor
    · rintro ⟨-, h⟩
      cases hj : fi (fun k => if isW T K.1 K.2.1 (wrd k) = true then 1 else 0) 14 0 with
      | zero =>
        have := (fi_0 _ _ _).mp hj i (by omega) (by omega)
        rw [if_pos h] at this
        omega
      | succ j =>
        obtain ⟨k1, k2⟩ := key j hj
        rw [wrd_u i hi j k1 (isW_u h k2)]
    · intro h
      exact ⟨c, (key i h).2⟩
  · rw [if_neg c]
    exact ⟨fun h => absurd h.1 c, fun h => by omega⟩
section CP
variable {σ τ : Nat → Nat → Int32} {w u : Int64} {T : Nat → Nat} {n : Nat} {K : Nat × Nat × Nat} {C : List (Nat × Nat)} {e : Nat}
theorem isw_k {k : UInt32} {i : Nat} (hi : i < 14) (hw : Wd k (wrd i)) (cg : CG σ T n K) : f_X5_isWord 80 k (mk σ w u) = some (nI (if kw T K = i + 1 then 1 else 0), mk σ w u) := by
  obtain ⟨h1, h2, h3, h5, ct, ok, okl, hn⟩ := cg
  rw [isWord_f hw (by have := (wrd_b i hi).1; omega) (fun j hj => by have := (wrd_b i hi).2 j hj; omega) h1 h2 ct ok hn]
  by_cases c : kw T K = i + 1
  · rw [if_pos c, if_pos ((kw_is hi).mpr c)]
  · rw [if_neg c, if_neg (fun e => c ((kw_is hi).mp e))]
theorem isw_1 {k : UInt32} {i : Nat} (hi : i < 14) (hw : Wd k (wrd i)) (cg : CG σ T n K) (c : kw T K = i + 1) : f_X5_isWord 80 k (mk σ w u) = some (nI 1, mk σ w u) := by
  rw [isw_k hi hw cg, if_pos c]
theorem isw_0 {k : UInt32} {i : Nat} (hi : i < 14) (hw : Wd k (wrd i)) (cg : CG σ T n K) (c : ¬ kw T K = i + 1) : f_X5_isWord 80 k (mk σ w u) = some (nI 0, mk σ w u) := by
  rw [isw_k hi hw cg, if_neg c]
theorem isg_1 {c : Nat} {x : Int32} (hx : x = nI c) (hc : c < 256) (cg : CG σ T n K) (h : K.2.2 = 3 ∧ T K.1 = c) : f_X5_isSign 80 x (mk σ w u) = some (nI 1, mk σ w u) := by
  obtain ⟨h1, h2, h3, h5, ct, ok, okl, hn⟩ := cg
  rw [hx, isSign_f hc h1 h2 ct ok hn, if_pos h]
theorem isg_0 {c : Nat} {x : Int32} (hx : x = nI c) (hc : c < 256) (cg : CG σ T n K) (h : ¬ (K.2.2 = 3 ∧ T K.1 = c)) : f_X5_isSign 80 x (mk σ w u) = some (nI 0, mk σ w u) := by
  obtain ⟨h1, h2, h3, h5, ct, ok, okl, hn⟩ := cg
  rw [hx, isSign_f hc h1 h2 ct ok hn, if_neg h]
theorem take_f (cg : CG σ T n K) {lo hi : Nat} (hl : lo ≤ 9999) (hh : hi ≤ 9999) : (nmOk T K lo hi ∧ RQ (fun τ => Fr Wrd σ τ ∧ CG τ T n (nxt T n K)) w u (nI (vl T K.1 (K.2.1 - K.1))) (f_X5_take 80 (nI lo) (nI hi) (mk σ w u))) ∨ (¬ nmOk T K lo hi ∧ RQ (fun τ => Fr Wrd σ τ ∧ CF τ (nmF K) K.1) w u (nI 0) (f_X5_take 80 (nI lo) (nI hi) (mk σ w u))) := by
  unfold f_X5_take
  rcases peek_f (w := w) (u := u) cg hl hh with ⟨h1, e⟩ | ⟨h1, τ, ⟨fr, cf⟩, e⟩
  · left
    refine ⟨h1, ?_⟩
    obtain ⟨τ, q, e2⟩ := adv_G (w := w) (u := u) cg
    rw [zg80, e, Option.bind_some]
    dsimp only
    rw [e2, Option.bind_some]
    exact ⟨τ, q, rfl⟩
  · right
    refine ⟨h1, τ, ⟨fr, cf⟩, ?_⟩
    rw [zg80, e, Option.bind_some]
    dsimp only
    rw [advance_n cf.1 cf.2.2.1 cf.2.2.2, Option.bind_some]
theorem take_n {f p : Nat} {a b : Int32} (cf : CF σ f p) : ∃ v, f_X5_take 80 a b (mk σ w u) = some (v, mk σ w u) := by
  have hp : ∃ v, f_X5_peek 80 a b (mk σ w u) = some (v, mk σ w u) := by
    unfold f_X5_peek f_X5_peek_44
    have ff : ∀ x, f_X5_fail 80 x (mk σ w u) = some (mk σ w u) := fun x => fail_n cf.1 cf.2.2.1 cf.2.2.2
    rw [zg80]
    simp only [ff, zi80_6, zi80_7, zi80_8, zi80_9, Option.bind_some]
    split
    · split
      · exact ⟨_, rfl⟩
      · split
        · exact ⟨_, rfl⟩
        · split
          · exact ⟨_, rfl⟩
          · exact ⟨_, rfl⟩
    · exact ⟨_, rfl⟩
  obtain ⟨v, e⟩ := hp
  refine ⟨v, ?_⟩
  unfold f_X5_take
  rw [zg80, e, Option.bind_some]
  dsimp only
  rw [advance_n cf.1 cf.2.2.1 cf.2.2.2, Option.bind_some]
theorem pass_1 {c : Nat} (hc : c < 256) (cg : CG σ T n K) (h : K.2.2 = 3 ∧ T K.1 = c) : RN (fun τ => Fr Wrd σ τ ∧ CG τ T n (nxt T n K)) w u (f_X5_pass 80 (nI c) (mk σ w u)) := by
  unfold f_X5_pass f_X5_pass_13
  obtain ⟨τ, q, e2⟩ := adv_G (w := w) (u := u) cg
  rw [zg80, isg_1 rfl hc cg h, Option.bind_some]
  dsimp only
  rw [if_neg (show ¬ nI 1 = 0 by decide), e2, Option.bind_some]
  exact ⟨τ, q, rfl⟩
theorem pass_0 {c : Nat} (hc : c < 256) (cg : CG σ T n K) (h : ¬ (K.2.2 = 3 ∧ T K.1 = c)) : RN (fun τ => Fr Wrd σ τ ∧ CF τ 1 K.1) w u (f_X5_pass 80 (nI c) (mk σ w u)) := by
  unfold f_X5_pass f_X5_pass_13
  obtain ⟨τ, ⟨fr, cf⟩, e2⟩ := fail_G (w := w) (u := u) cg (f := 1) (by omega) (by omega)
  rw [zg80, isg_0 rfl hc cg h, Option.bind_some]
  dsimp only
  rw [if_pos (show nI 0 = 0 from rfl), show f_X5_fail 80 1 (mk σ w u) = some (mk τ w u) from e2, Option.bind_some, advance_n cf.1 cf.2.2.1 cf.2.2.2, Option.bind_some]
  exact ⟨τ, ⟨fr, cf⟩, rfl⟩
theorem pass_n {f p : Nat} {x : Int32} (cf : CF σ f p) : f_X5_pass 80 x (mk σ w u) = some (mk σ w u) := by
  unfold f_X5_pass f_X5_pass_13
  rw [zg80, isSign_n cf.1 cf.2.2.1 cf.2.2.2, Option.bind_some]
  dsimp only
  rw [if_pos (show nI 0 = 0 from rfl), fail_n cf.1 cf.2.2.1 cf.2.2.2, Option.bind_some, advance_n cf.1 cf.2.2.1 cf.2.2.2, Option.bind_some]
def pq (T : Nat → Nat) (n : Nat) (σ : Nat → Nat → Int32) (C : List (Nat × Nat)) (e : Nat) (w u : Int64) : (Nat × Nat) ⊕ (List (Nat × Nat) × Nat × Nat × Nat) → Option hp_H → Prop
  | .inl (f, p), r => RN (fun τ => Fr Wx σ τ ∧ CF τ f p) w u r
  | .inr (c, K'), r => (C ++ c).length + e ≤ K'.1 ∧ RN (fun τ => Fr Wx σ τ ∧ CG τ T n K' ∧ CR τ (C ++ c)) w u r
theorem pq_t {x : (Nat × Nat) ⊕ (List (Nat × Nat) × Nat × Nat × Nat)} {r : Option hp_H} (fr : Fr Wx σ τ) (h : pq T n τ C e w u x r) : pq T n σ C e w u x r := by
  match x, h with
  | .inl (f, p), ⟨τ', ⟨f1, h1⟩, h2⟩ => exact ⟨τ', ⟨Fr_t fr f1, h1⟩, h2⟩
  | .inr (c, K'), ⟨h0, τ', ⟨f1, h1⟩, h2⟩ => exact ⟨h0, τ', ⟨Fr_t fr f1, h1⟩, h2⟩
def FN (w u : Int64) (G : hp_H → Option hp_H) : Prop := ∀ τ f p, CF τ f p → RN (fun τ' => Fr Wx τ τ' ∧ CF τ' f p) w u (G (mk τ w u))
theorem FN_some : FN w u some := fun τ f p cf => ⟨τ, ⟨Fr_r _ _, cf⟩, rfl⟩
theorem pq_bnd {r : Option ((Nat × Nat) ⊕ (List (Nat × Nat) × Nat × Nat × Nat))} {f : Nat × Nat × Nat → Option ((Nat × Nat) ⊕ (List (Nat × Nat) × Nat × Nat × Nat))} {x : (Nat × Nat) ⊕ (List (Nat × Nat) × Nat × Nat × Nat)} (eq : bnd r f = some x) {A : Option hp_H} {B : hp_H → Option hp_H} (h1 : ∀ y, r = some y → pq T n σ C e w u y A) (h2 : ∀ K' y τ c, f K' = some y → CG τ T n K' → CR τ (C ++ c) → (C ++ c).length + e ≤ K'.1 → pq T n τ (C ++ c) e w u y (B (mk τ w u))) (h3 : FN w u B) : pq T n σ C e w u x (A.bind B) := by
  match r, eq, h1 with
  | none, eq, h1 => cases eq
  | some (.inl (f1, p1)), eq, h1 =>
    cases eq
    obtain ⟨τ, ⟨fr, cf⟩, hA⟩ := h1 _ rfl
    obtain ⟨τ', ⟨fr2, cf2⟩, hB⟩ := h3 τ _ _ cf
    exact ⟨τ', ⟨Fr_t fr fr2, cf2⟩, by rw [hA, Option.bind_some, hB]⟩
  | some (.inr (c, K1)), eq, h1 =>
    obtain ⟨hl, τ, ⟨fr, cg, cr⟩, hA⟩ := h1 _ rfl
    unfold bnd at eq
    dsimp only at eq
    rw [hA, Option.bind_some]
    match hf : f K1, eq with
    | none, eq => cases eq
    | some (.inl (f1, p1)), eq =>
      cases eq
      exact pq_t fr (h2 K1 _ τ c hf cg cr hl)
    | some (.inr (c2, K2)), eq =>
      cases eq
      have h9 := pq_t fr (h2 K1 _ τ c hf cg cr hl)
      obtain ⟨p1, τ9, ⟨p2, p3, p4⟩, p5⟩ := h9
      rw [List.append_assoc] at p1 p4
      exact ⟨p1, τ9, ⟨p2, p3, p4⟩, p5⟩
theorem pq_op {o : Nat} {t0 : Int32} {r : Option ((Nat × Nat) ⊕ (List (Nat × Nat) × Nat × Nat × Nat))} {f : Nat × Nat × Nat → Option ((Nat × Nat) ⊕ (List (Nat × Nat) × Nat × Nat × Nat))} {x : (Nat × Nat) ⊕ (List (Nat × Nat) × Nat × Nat × Nat)} (eq : bnd (suf (o, 0) r) f = some x) (cg : CG σ T n K) (cr : CR σ C) (hl : C.length + e ≤ K.1) (hk0 : K.2.2 ≠ 0) (ht : t0 = eC o 0) {B G : hp_H → Option hp_H} (h1 : ∀ y τ, r = some y → CG τ T n (nxt T n K) → CR τ C → C.length + (e + 1) ≤ (nxt T n K).1 → pq T n τ C (e + 1) w u y (B (mk τ w u))) (h2 : ∀ K' y τ c, f K' = some y → CG τ T n K' → CR τ (C ++ c) → (C ++ c).length + e ≤ K'.1 → C.length < (C ++ c).length → pq T n τ (C ++ c) e w u y (G (mk τ w u))) (h3 : FN w u G) : pq T n σ C e w u x ((f_X5_advance 80 (mk σ w u)).bind fun r1 => (B r1).bind fun r2 => (rd_R r2 80 5 0).bind fun v3 => (rd_R r2 v3 1 6).bind fun v4 => (f_X6_add v4 t0 r2).bind fun r5 => G r5) := by
  have hn := cg.2.2.2.2.2.2.2
  have hgt : K.1 < (nxt T n K).1 := Nat.lt_of_lt_of_le (cg.2.2.2.2.2.1.2.2.2.1 hk0) (tok_ok hn cg.2.2.2.2.2.1.2.1).2
  obtain ⟨τ, ⟨fr, cg1⟩, eA⟩ := adv_G (w := w) (u := u) cg
  have cr1 : CR τ C := CR_F cr fr (fun q k e => by unfold Wrd at e; omega)
  rw [eA, Option.bind_some]
  refine pq_t (Wrd_x fr) ?_
  match r, eq, h1 with
  | none, eq, h1 => cases eq
  | some (.inl (f1, p1)), eq, h1 =>
    cases eq
    obtain ⟨τ2, ⟨fr2, cf2⟩, hB⟩ := h1 _ τ rfl cg1 cr1 (by omega)
    obtain ⟨τ3, fr3, hadd⟩ := add_any (σ := τ2) (w := w) (u := u) t0
    obtain ⟨τ4, ⟨fr4, cf4⟩, hG⟩ := h3 τ3 _ _ (CF_F cf2 fr3 (fun q k e => by unfold Wad2 at e; omega))
    refine ⟨τ4, ⟨Fr_t fr2 (Fr_t (Wad2_x fr3) fr4), cf4⟩, ?_⟩
    rw [hB, Option.bind_some, zr80_0, Option.bind_some, zr81_6, Option.bind_some, hadd, Option.bind_some, hG]
  | some (.inr (c, K1)), eq, h1 =>
    obtain ⟨hl2, τ2, ⟨fr2, cg2, cr2⟩, hB⟩ := h1 _ τ rfl cg1 cr1 (by omega)
    have hK1 : K1.1 ≤ 700 := Nat.le_trans cg2.2.2.2.2.2.1.1 (Nat.le_trans cg2.2.2.2.2.2.1.2.1 hn)
    obtain ⟨τ3, fr3, cr3, hadd⟩ := add_f (w := w) (u := u) cr2 (by omega) o 0
    have cg3 : CG τ3 T n K1 := CG_F cg2 fr3 (fun q k e => by unfold Wad2 at e; omega)
    rw [← ht] at hadd
    rw [hB, Option.bind_some, zr80_0, Option.bind_some, zr81_6, Option.bind_some, hadd, Option.bind_some]
    refine pq_t (Fr_t fr2 (Wad2_x fr3)) ?_
    rw [List.append_assoc] at cr3
    have hl3 : (C ++ (c ++ [(o, 0)])).length + e ≤ K1.1 := by
      rw [← List.append_assoc, List.length_append]
      show (C ++ c).length + 1 + e ≤ K1.1
      omega
    have hlt : C.length < (C ++ (c ++ [(o, 0)])).length := by
      rw [List.length_append, List.length_append]
      show C.length < C.length + (c.length + 1)
      omega
    unfold suf bnd at eq
    dsimp only at eq
    match hf : f K1, eq with
    | none, eq => cases eq
    | some (.inl (f1, p1)), eq =>
      cases eq
      exact h2 K1 _ τ3 _ hf cg3 cr3 hl3 hlt
    | some (.inr (c2, K2)), eq =>
      cases eq
      have h9 := h2 K1 _ τ3 _ hf cg3 cr3 hl3 hlt
      obtain ⟨p1, τ9, ⟨p2, p3, p4⟩, p5⟩ := h9
      rw [List.append_assoc] at p1 p4
      exact ⟨p1, τ9, ⟨p2, p3, p4⟩, p5⟩
theorem pq_nil {x : (Nat × Nat) ⊕ (List (Nat × Nat) × Nat × Nat × Nat)} (eq : some (.inr ([], K)) = some x) (cg : CG σ T n K) (cr : CR σ C) (hl : C.length + e ≤ K.1) : pq T n σ C e w u x (some (mk σ w u)) := by
  cases eq
  refine ⟨by rw [List.append_nil]; exact hl, σ, ⟨Fr_r _ _, cg, ?_⟩, rfl⟩
  rw [List.append_nil]
  exact cr
theorem e_nil (r : Option ((Nat × Nat) ⊕ (List (Nat × Nat) × Nat × Nat × Nat))) : bnd r (fun K => some (.inr ([], K))) = r := by
  match r with
  | none => rfl
  | some (.inl _) => rfl
  | some (.inr (c, K)) => show some (Sum.inr (c ++ [], K)) = _; rw [List.append_nil]
section IN
variable {rec : Nat → Int32 → hp_H → Option hp_H} {f p : Nat} {x i : Int32}
def b7 (rec : Nat → Int32 → hp_H → Option hp_H) : (Nat × Int32 × Int32 × hp_H → Option hp_H) → Nat × Int32 × Int32 × hp_H → Option hp_H := fun k s => f_X5_readProduct_7 rec (fun a0 a1 a2 a3 => k (a0, a1, a2, a3)) s.1 s.2.1 s.2.2.1 s.2.2.2
def b8 (rec : Nat → Int32 → hp_H → Option hp_H) : (Nat × Int32 × Int32 × hp_H → Option hp_H) → Nat × Int32 × Int32 × hp_H → Option hp_H := fun k s => f_X5_readSum_7 rec (fun a0 a1 a2 a3 => k (a0, a1, a2, a3)) s.1 s.2.1 s.2.2.1 s.2.2.2
def b9 (rec : Nat → Int32 → hp_H → Option hp_H) : (Nat × Int32 × Int32 × hp_H → Option hp_H) → Nat × Int32 × Int32 × hp_H → Option hp_H := fun k s => f_X5_readAnd_7 rec (fun a0 a1 a2 a3 => k (a0, a1, a2, a3)) s.1 s.2.1 s.2.2.1 s.2.2.2
def b10 (rec : Nat → Int32 → hp_H → Option hp_H) : (Nat × Int32 × Int32 × hp_H → Option hp_H) → Nat × Int32 × Int32 × hp_H → Option hp_H := fun k s => f_X5_readExpr_48 rec (fun a0 a1 a2 a3 => k (a0, a1, a2, a3)) s.1 s.2.1 s.2.2.1 s.2.2.2
def b11 (rec : Nat → Int32 → hp_H → Option hp_H) : (Nat × Int32 × Int32 × Int32 × hp_H → Option hp_H) → Nat × Int32 × Int32 × Int32 × hp_H → Option hp_H := fun k s => f_X5_readNot_4 rec (fun a0 a1 a2 a3 a4 => k (a0, a1, a2, a3, a4)) s.1 s.2.1 s.2.2.1 s.2.2.2.1 s.2.2.2.2
def b53 (rec : Nat → Int32 → hp_H → Option hp_H) : (Nat × Int32 × Int32 × hp_H → Option hp_H) → Nat × Int32 × Int32 × hp_H → Option hp_H := fun k s => f_X5_readNot_53 rec (fun a0 a1 a2 a3 => k (a0, a1, a2, a3)) s.1 s.2.1 s.2.2.1 s.2.2.2
theorem b7_1 {x0 : Nat} {h : hp_H} {N : Nat} : lp (b7 rec) (N + 1) (x0, x, i, h) = f_X5_readProduct_7 rec (fun a0 a1 a2 a3 => lp (b7 rec) N (a0, a1, a2, a3)) x0 x i h := rfl
theorem b8_1 {x0 : Nat} {h : hp_H} {N : Nat} : lp (b8 rec) (N + 1) (x0, x, i, h) = f_X5_readSum_7 rec (fun a0 a1 a2 a3 => lp (b8 rec) N (a0, a1, a2, a3)) x0 x i h := rfl
theorem b9_1 {x0 : Nat} {h : hp_H} {N : Nat} : lp (b9 rec) (N + 1) (x0, x, i, h) = f_X5_readAnd_7 rec (fun a0 a1 a2 a3 => lp (b9 rec) N (a0, a1, a2, a3)) x0 x i h := rfl
theorem b10_1 {x0 : Nat} {h : hp_H} {N : Nat} : lp (b10 rec) (N + 1) (x0, x, i, h) = f_X5_readExpr_48 rec (fun a0 a1 a2 a3 => lp (b10 rec) N (a0, a1, a2, a3)) x0 x i h := rfl
theorem b53_1 {x0 : Nat} {h : hp_H} {N : Nat} : lp (b53 rec) (N + 1) (x0, x, i, h) = f_X5_readNot_53 rec (fun a0 a1 a2 a3 => lp (b53 rec) N (a0, a1, a2, a3)) x0 x i h := rfl
theorem b11_1 {x0 : Nat} {h : hp_H} {N : Nat} {y : Int32} : lp (b11 rec) (N + 1) (x0, x, y, i, h) = f_X5_readNot_4 rec (fun a0 a1 a2 a3 a4 => lp (b11 rec) N (a0, a1, a2, a3, a4)) x0 x y i h := rfl
theorem b7_l {x0 : Nat} {h : hp_H} : l_X5_readProduct_7 rec x0 x i h = lp (b7 rec) (99999 + 1) (x0, x, i, h) := rfl
theorem b8_l {x0 : Nat} {h : hp_H} : l_X5_readSum_7 rec x0 x i h = lp (b8 rec) (99999 + 1) (x0, x, i, h) := rfl
theorem b9_l {x0 : Nat} {h : hp_H} : l_X5_readAnd_7 rec x0 x i h = lp (b9 rec) (99999 + 1) (x0, x, i, h) := rfl
theorem b10_l {x0 : Nat} {h : hp_H} : l_X5_readExpr_48 rec x0 x i h = lp (b10 rec) (99999 + 1) (x0, x, i, h) := rfl
theorem b53_l {x0 : Nat} {h : hp_H} : l_X5_readNot_53 rec x0 x i h = lp (b53 rec) (99999 + 1) (x0, x, i, h) := rfl
theorem b11_l {x0 : Nat} {h : hp_H} {y : Int32} : l_X5_readNot_4 rec x0 x y i h = lp (b11 rec) (99999 + 1) (x0, x, y, i, h) := rfl
theorem in_part (cf : CF σ f p) : f_X5_readPart rec 80 x (mk σ w u) = some (mk σ w u) := by
  unfold f_X5_readPart
  rw [zg80, zi80_2, Option.bind_some, cf.1, if_neg (nI_ne0 (by have := cf.2.2.1; omega) (by have := cf.2.2.2; omega))]
theorem in_l7 (cf : CF σ f p) (N : Nat) : lp (b7 rec) (N + 1) (80, x, i, mk σ w u) = some (mk σ w u) := by
  rw [b7_1]
  unfold f_X5_readProduct_7 f_X5_readProduct_76
  rw [zi80_5, Option.bind_some]
  split
  · rfl
  · rw [isSign_n cf.1 cf.2.2.1 cf.2.2.2, Option.bind_some]
    dsimp only
    rw [if_pos (show nI 0 = 0 from rfl), isSign_n cf.1 cf.2.2.1 cf.2.2.2, Option.bind_some]
    dsimp only
    rw [if_pos (show nI 0 = 0 from rfl)]
theorem in_l8 (cf : CF σ f p) (N : Nat) : lp (b8 rec) (N + 1) (80, x, i, mk σ w u) = some (mk σ w u) := by
  rw [b8_1]
  unfold f_X5_readSum_7 f_X5_readSum_76
  rw [zi80_5, Option.bind_some]
  split
  · rfl
  · rw [isSign_n cf.1 cf.2.2.1 cf.2.2.2, Option.bind_some]
    dsimp only
    rw [if_pos (show nI 0 = 0 from rfl), isSign_n cf.1 cf.2.2.1 cf.2.2.2, Option.bind_some]
    dsimp only
    rw [if_pos (show nI 0 = 0 from rfl)]
theorem in_product (cf : CF σ f p) : f_X5_readProduct rec 80 x (mk σ w u) = some (mk σ w u) := by
  unfold f_X5_readProduct
  rw [zg80, in_part cf, Option.bind_some]
  rw [b7_l]
  exact in_l7 cf 99999
theorem in_sum (cf : CF σ f p) : f_X5_readSum rec 80 x (mk σ w u) = some (mk σ w u) := by
  unfold f_X5_readSum
  rw [zg80, in_product cf, Option.bind_some]
  rw [b8_l]
  exact in_l8 cf 99999
theorem in_test (cf : CF σ f p) : f_X5_readTest rec 80 x (mk σ w u) = some (mk σ w u) := by
  unfold f_X5_readTest f_X5_readTest_60
  rw [zg80, in_sum cf, Option.bind_some, isSign_n cf.1 cf.2.2.1 cf.2.2.2, Option.bind_some]
  dsimp only
  rw [if_pos (show nI 0 = 0 from rfl), isSign_n cf.1 cf.2.2.1 cf.2.2.2, Option.bind_some]
  dsimp only
  rw [if_pos (show nI 0 = 0 from rfl)]
theorem in_l53 (cf : CF σ f p) {j : Nat} : ∀ m i N σ, CF σ f p → i + m = j → j < 100 → m < N → RN (fun τ => Fr Wx σ τ ∧ CF τ f p) w u (lp (b53 rec) N (80, nI j, nI i, mk σ w u)) := by
  intro m
  induction m with
  | zero =>
    intro i N σ cf hi hj hN
    obtain ⟨N, rfl⟩ : ∃ M, N = M + 1 := ⟨N - 1, by omega⟩
    rw [b53_1]
    unfold f_X5_readNot_53
    rw [if_pos (nI_le (by omega) (by omega))]
    exact ⟨σ, ⟨Fr_r _ _, cf⟩, rfl⟩
  | succ m ih =>
    intro i N σ cf hi hj hN
    obtain ⟨N, rfl⟩ : ∃ M, N = M + 1 := ⟨N - 1, by omega⟩
    rw [b53_1]
    unfold f_X5_readNot_53
    obtain ⟨τ, fr, hadd⟩ := add_any (σ := σ) (w := w) (u := u) (-7)
    rw [if_neg (nI_ge (by omega) (by omega)), zr80_0, Option.bind_some, zr81_6, Option.bind_some, hadd, Option.bind_some, nI_1]
    obtain ⟨τ2, ⟨fr2, cf2⟩, h2⟩ := ih (i + 1) N τ (CF_F cf fr (fun q k e => by unfold Wad2 at e; omega)) (by omega) hj (by omega)
    exact ⟨τ2, ⟨Fr_t (Wad2_x fr) fr2, cf2⟩, h2⟩
theorem in_46 (cf : CF σ f p) {j : Nat} (hj : j < 100) : RN (fun τ => Fr Wx σ τ ∧ CF τ f p) w u (f_X5_readNot_46 rec 80 x (nI j) (mk σ w u)) := by
  unfold f_X5_readNot_46
  rw [in_test cf, Option.bind_some]
  rw [b53_l]
  exact in_l53 cf j 0 (99999 + 1) σ cf (by omega) hj (by omega)
theorem in_32 (cf : CF σ f p) {j : Nat} (hj : j < 100) : RN (fun τ => Fr Wx σ τ ∧ CF τ f p) w u (f_X5_readNot_32 rec 80 x (nI j) (mk σ w u)) := by
  unfold f_X5_readNot_32
  rw [isWord_n cf.2.2.1 cf.2.2.2 cf.1, Option.bind_some]
  dsimp only
  rw [if_pos (show nI 0 = 0 from rfl)]
  exact in_46 cf hj
theorem in_not (cf : CF σ f p) : RN (fun τ => Fr Wx σ τ ∧ CF τ f p) w u (f_X5_readNot rec 80 x (mk σ w u)) := by
  unfold f_X5_readNot
  rw [zg80, b11_l, b11_1]
  unfold f_X5_readNot_4
  rw [if_neg (by decide), isWord_n cf.2.2.1 cf.2.2.2 cf.1, Option.bind_some]
  dsimp only
  rw [if_pos (show nI 0 = 0 from rfl)]
  exact in_32 (j := 0) cf (by omega)
theorem in_l9 (cf : CF σ f p) (N : Nat) : lp (b9 rec) (N + 1) (80, x, i, mk σ w u) = some (mk σ w u) := by
  rw [b9_1]
  unfold f_X5_readAnd_7 f_X5_readAnd_51
  rw [zi80_5, Option.bind_some]
  split
  · rfl
  · rw [isWord_n cf.2.2.1 cf.2.2.2 cf.1, Option.bind_some]
    dsimp only
    rw [if_pos (show nI 0 = 0 from rfl)]
theorem in_l10 (cf : CF σ f p) (N : Nat) : lp (b10 rec) (N + 1) (80, x, i, mk σ w u) = some (mk σ w u) := by
  rw [b10_1]
  unfold f_X5_readExpr_48 f_X5_readExpr_92
  rw [zi80_5, Option.bind_some]
  split
  · rfl
  · rw [isWord_n cf.2.2.1 cf.2.2.2 cf.1, Option.bind_some]
    dsimp only
    rw [if_pos (show nI 0 = 0 from rfl)]
theorem in_and (cf : CF σ f p) : RN (fun τ => Fr Wx σ τ ∧ CF τ f p) w u (f_X5_readAnd rec 80 x (mk σ w u)) := by
  unfold f_X5_readAnd
  obtain ⟨τ, ⟨fr, cf2⟩, e1⟩ := in_not (w := w) (u := u) (rec := rec) (x := x) cf
  rw [zg80, e1, Option.bind_some, b9_l]
  exact ⟨τ, ⟨fr, cf2⟩, in_l9 cf2 99999⟩
theorem in_expr (cf : CF σ f p) {v : Nat} (hv : v < 6) : RN (fun τ => Fr Wx σ τ ∧ CF τ f p) w u (f_X5_readExpr rec 80 (nI v) (mk σ w u)) := by
  unfold f_X5_readExpr
  obtain ⟨τ, ⟨fr, cf2⟩, e1⟩ := in_and (w := w) (u := u) (rec := rec) (x := nI v) cf
  rw [zg80, if_pos (show nI v < 6 from (nI_ltI (b := 6) (by omega) (by decide)).mpr hv), e1, Option.bind_some, b10_l]
  exact ⟨τ, ⟨fr, cf2⟩, in_l10 cf2 99999⟩
end IN
end CP
