/-! L3: the reference's states while it reads -/
def fl : List (Nat × Nat) → List Int32
  | [] => []
  | (k, n) :: P => if k ≤ 2 then nI k :: nI n :: fl P else nI k :: fl P
theorem fl_a : ∀ P Q, fl (P ++ Q) = fl P ++ fl Q := by
  intro P Q
  induction P with
  | nil => rfl
  | cons p P ih =>
    obtain ⟨k, n⟩ := p
    show (if k ≤ 2 then nI k :: nI n :: fl (P ++ Q) else nI k :: fl (P ++ Q)) = (if k ≤ 2 then nI k :: nI n :: fl P else nI k :: fl P) ++ fl Q
    rw [ih]
    split <;> rfl
theorem fl_cds : ∀ Q : List Nat, (∀ x, x ∈ Q → 3 ≤ x) → fl (cds Q) = Q.map nI := by
  intro Q
  induction Q with
  | nil => intro _; rfl
  | cons x Q ih =>
    intro h
    have h3 := h x (List.mem_cons_self ..)
    show (if x ≤ 2 then nI x :: nI 0 :: fl (cds Q) else nI x :: fl (cds Q)) = nI x :: Q.map nI
    rw [if_neg (by omega), ih (fun y hy => h y (List.mem_cons_of_mem _ hy))]
theorem dr_e (b : Nat) : ∀ W, (dr b W).1 ++ (dr b W).2 = W := by
  intro W
  induction W with
  | nil => rfl
  | cons x W ih =>
    unfold dr
    split
    · show x :: ((dr b W).1 ++ (dr b W).2) = x :: W
      rw [ih]
    · rfl
theorem dr_o : ∀ W, (∀ x, x ∈ W → 3 ≤ x ∧ x ≤ 14) → 14 ∈ W → ∃ R, (dr 0 W).2 = 14 :: R := by
  intro W
  induction W with
  | nil => intro _ h; cases h
  | cons x W ih =>
    intro hb h
    unfold dr
    by_cases c : x < 14
    · rw [if_pos ⟨c, Nat.zero_le _⟩]
      refine ih (fun y hy => hb y (List.mem_cons_of_mem _ hy)) ?_
      cases h with
      | head => omega
      | tail _ h => exact h
    · rw [if_neg (by omega)]
      have := hb x (List.mem_cons_self ..)
      exact ⟨W, by rw [show x = 14 by omega]⟩
def WS (τ : Nat → Nat → Int32) : List Nat → Prop
  | [] => True
  | x :: W => τ 126 W.length = nI x ∧ WS τ W
def DS (τ : Nat → Nat → Int32) : List Bool → Prop
  | [] => True
  | b :: D => τ 127 (D.length + 1) = nI (if b = true then 1 else 0) ∧ DS τ D
section RX
variable {σ τ : Nat → Nat → Int32} {w u : Int64} {T : Nat → Nat} {n : Nat} {K : Nat × Nat × Nat} {F : List Int32} {W : List Nat} {D : List Bool}
theorem WS_F : ∀ W, (∀ k, k < W.length → τ 126 k = σ 126 k) → WS σ W → WS τ W := by
  intro W
  induction W with
  | nil => intro _ _; exact True.intro
  | cons x W ih =>
    intro h hw
    exact ⟨by rw [h W.length (Nat.lt_succ_self _)]; exact hw.1, ih (fun k hk => h k (Nat.lt_succ_of_lt hk)) hw.2⟩
theorem DS_F : ∀ D, (∀ k, k ≤ D.length → τ 127 k = σ 127 k) → DS σ D → DS τ D := by
  intro D
  induction D with
  | nil => intro _ _; exact True.intro
  | cons x D ih =>
    intro h hw
    exact ⟨by rw [h (D.length + 1) (Nat.le_refl _)]; exact hw.1, ih (fun k hk => h k (Nat.le_succ_of_le hk)) hw.2⟩
def RG (σ : Nat → Nat → Int32) (w : Int64) (T : Nat → Nat) (n : Nat) (K : Nat × Nat × Nat) : Prop := Tp σ 121 T ∧ σ 118 11 = nI 0 ∧ σ 118 12 = nJ 0 ∧ σ 118 14 = nI n ∧ RT σ w T n K ∧ okT n K ∧ (okL T K ∧ okD T K) ∧ n ≤ 700
def RF (σ : Nat → Nat → Int32) (f p : Nat) : Prop := σ 118 11 = nI f ∧ σ 118 12 = nI p ∧ f ≠ 0 ∧ f < 100
def Wgf (q k : Nat) : Prop := q = 118 ∧ (k = 11 ∨ k = 12)
def Wdr (q k : Nat) : Prop := (q = 118 ∧ (k = 28 ∨ k = 29)) ∨ q = 125
def Wdp (q k : Nat) : Prop := (q = 118 ∧ k = 30) ∨ q = 127
def Wwt (q k : Nat) : Prop := (q = 118 ∧ k = 29) ∨ q = 126
def Wex (q k : Nat) : Prop := (q = 118 ∧ (k = 11 ∨ k = 12 ∨ (15 ≤ k ∧ k ≤ 20) ∨ (28 ≤ k ∧ k ≤ 30))) ∨ q = 125 ∨ q = 126 ∨ q = 127
theorem Wgo_x (h : Fr Wgo σ τ) : Fr Wex σ τ := Fr_m h (fun q k e => by unfold Wgo at e; unfold Wex; omega)
theorem Wgf_x (h : Fr Wgf σ τ) : Fr Wex σ τ := Fr_m h (fun q k e => by unfold Wgf at e; unfold Wex; omega)
theorem Wdr_x (h : Fr Wdr σ τ) : Fr Wex σ τ := Fr_m h (fun q k e => by unfold Wdr at e; unfold Wex; omega)
theorem Wdp_x (h : Fr Wdp σ τ) : Fr Wex σ τ := Fr_m h (fun q k e => by unfold Wdp at e; unfold Wex; omega)
theorem Wwt_x (h : Fr Wwt σ τ) : Fr Wex σ τ := Fr_m h (fun q k e => by unfold Wwt at e; unfold Wex; omega)
theorem RG_F {V : Nat → Nat → Prop} (rg : RG σ w T n K) (fr : Fr V σ τ) (hw : ∀ q k, V q k → q ≠ 121 ∧ ¬ (q = 118 ∧ (k = 11 ∨ k = 12 ∨ (14 ≤ k ∧ k ≤ 20)))) : RG τ w T n K := by
  obtain ⟨h1, h2, h3, h4, ⟨c15, c16, c17, c18, c19, c20, cw⟩, h6, h7, h8⟩ := rg
  have g : ∀ k, (k = 11 ∨ k = 12 ∨ (14 ≤ k ∧ k ≤ 20)) → τ 118 k = σ 118 k := fun k h => fr 118 k (fun e => (hw 118 k e).2 ⟨rfl, h⟩)
  exact ⟨Tp_F h1 fr (fun k e => (hw _ _ e).1 rfl), by rw [g 11 (by omega)]; exact h2, by rw [g 12 (by omega)]; exact h3, by rw [g 14 (by omega)]; exact h4, ⟨by rw [g 15 (by omega)]; exact c15, by rw [g 16 (by omega)]; exact c16, by rw [g 17 (by omega)]; exact c17, by rw [g 18 (by omega)]; exact c18, by rw [g 19 (by omega)]; exact c19, by rw [g 20 (by omega)]; exact c20, cw⟩, h6, h7, h8⟩
theorem RF_F {V : Nat → Nat → Prop} {f p : Nat} (rf : RF σ f p) (fr : Fr V σ τ) (hw : ∀ q k, V q k → ¬ (q = 118 ∧ (k = 11 ∨ k = 12))) : RF τ f p := ⟨by rw [fr 118 11 (fun e => hw _ _ e (by omega))]; exact rf.1, by rw [fr 118 12 (fun e => hw _ _ e (by omega))]; exact rf.2.1, rf.2.2⟩
theorem goes_G (rg : RG σ w T n K) : RW (fun τ w' => Fr Wgo σ τ ∧ RG τ w' T n (nxt T n K)) u (f_X11_goes 118 (mk σ w u)) := by
  obtain ⟨h1, h2, h3, h4, rt, ok, okl, hn⟩ := rg
  obtain ⟨τ, w', ⟨fr, rt2⟩, e⟩ := goes_f (w := w) (u := u) h1 hn h4 rt.1 ok.2.1
  exact ⟨τ, w', ⟨fr, Tp_F h1 fr (fun k e => by unfold Wgo at e; omega), by rw [fr 118 11 (by unfold Wgo; omega)]; exact h2, by rw [fr 118 12 (by unfold Wgo; omega)]; exact h3, by rw [fr 118 14 (by unfold Wgo; omega)]; exact h4, rt2, (tok_ok hn ok.2.1).1, ⟨tok_L, tok_D⟩, hn⟩, e⟩
theorem wrong_G (rg : RG σ w T n K) {f : Nat} (hf : f ≠ 0) (hf2 : f < 100) : RN (fun τ => Fr Wgf σ τ ∧ RF τ f K.1) w u (f_X11_wrong 118 (nI f) (mk σ w u)) := by
  obtain ⟨h1, h2, h3, h4, rt, ok, okl, hn⟩ := rg
  exact ⟨_, ⟨Fr_st (Fr_s ⟨rfl, by omega⟩) ⟨rfl, by omega⟩, by rw [s2_off (by omega), s2_at rfl rfl], by rw [s2_at rfl rfl]; exact rt.2.2.1, hf, hf2⟩, wrong_0 h2⟩
def RS (τ : Nat → Nat → Int32) (F : List Int32) (W : List Nat) (D : List Bool) : Prop := τ 118 28 = nI F.length ∧ (∀ j x, F[j]? = some x → τ 125 j = x) ∧ τ 118 29 = nI W.length ∧ WS τ W ∧ τ 118 30 = nI D.length ∧ DS τ D ∧ ∀ x, x ∈ W → 3 ≤ x ∧ x ≤ 14
theorem RS_F {V : Nat → Nat → Prop} (rs : RS σ F W D) (fr : Fr V σ τ) (hw : ∀ q k, V q k → q ≠ 125 ∧ q ≠ 126 ∧ q ≠ 127 ∧ ¬ (q = 118 ∧ 28 ≤ k ∧ k ≤ 30)) : RS τ F W D := by
  obtain ⟨r1, r2, r3, r4, r5, r6, r7⟩ := rs
  exact ⟨by rw [fr 118 28 (fun e => by have := hw _ _ e; omega)]; exact r1, fun j x h => by rw [fr 125 j (fun e => by have := hw _ _ e; omega)]; exact r2 j x h, by rw [fr 118 29 (fun e => by have := hw _ _ e; omega)]; exact r3, WS_F W (fun k _ => fr 126 k (fun e => by have := hw _ _ e; omega)) r4, by rw [fr 118 30 (fun e => by have := hw _ _ e; omega)]; exact r5, DS_F D (fun k _ => fr 127 k (fun e => by have := hw _ _ e; omega)) r6, r7⟩
theorem puts_f (rs : RS σ F W D) (hF : F.length < 1400) (v : Int32) : RN (fun τ => Fr Wdr σ τ ∧ RS τ (F ++ [v]) W D) w u (f_X11_puts 118 v (mk σ w u)) := by
  obtain ⟨r1, r2, r3, r4, r5, r6, r7⟩ := rs
  refine ⟨s2 (s2 σ 125 F.length v) 118 28 (nI (F.length + 1)), ⟨Fr_st (Fr_s (by unfold Wdr; omega)) (by unfold Wdr; omega), ?_, ?_, ?_, ?_, ?_, ?_, r7⟩, ?_⟩
  · rw [s2_at rfl rfl, List.length_append]; rfl
  · intro j x h
    rw [s2_off (by omega)]
    rw [List.getElem?_append] at h
    split at h
    · next h9 => rw [s2_off (by omega)]; exact r2 j x h
    · next h9 =>
      have hj : j = F.length := by
        by_cases c : j - F.length = 0
        · omega
        · rw [List.getElem?_eq_none (by show 1 ≤ _; omega)] at h; cases h
      subst hj
      rw [Nat.sub_self] at h
      have h2 : v = x := by injection h
      rw [s2_at rfl rfl, h2]
  · rw [s2_off (by omega), s2_off (by omega)]; exact r3
  · exact WS_F W (fun k _ => by rw [s2_off (by omega), s2_off (by omega)]) r4
  · rw [s2_off (by omega), s2_off (by omega)]; exact r5
  · exact DS_F D (fun k _ => by rw [s2_off (by omega), s2_off (by omega)]) r6
  · unfold f_X11_puts
    rw [zg118, zr118_33, Option.bind_some, zi118_28, Option.bind_some, r1, zb125 hF, Option.bind_some, zi118_28, Option.bind_some, s2_off (by omega), r1, nI_1, zw118_28, Option.bind_some]
theorem RS_push (rs : RS σ F W D) {x : Nat} (hx : 3 ≤ x ∧ x ≤ 14) : RS (s2 (s2 σ 126 W.length (nI x)) 118 29 (nI (W.length + 1))) F (x :: W) D := by
  obtain ⟨r1, r2, r3, r4, r5, r6, r7⟩ := rs
  refine ⟨?_, ?_, ?_, ⟨?_, ?_⟩, ?_, ?_, ?_⟩
  · rw [s2_off (by omega), s2_off (by omega)]; exact r1
  · intro j y h; rw [s2_off (by omega), s2_off (by omega)]; exact r2 j y h
  · rw [s2_at rfl rfl]; rfl
  · rw [s2_off (by omega), s2_at rfl rfl]
  · exact WS_F W (fun k hk => by rw [s2_off (by omega), s2_off (by omega)]) r4
  · rw [s2_off (by omega), s2_off (by omega)]; exact r5
  · exact DS_F D (fun k _ => by rw [s2_off (by omega), s2_off (by omega)]) r6
  · intro y hy
    cases hy with
    | head => exact hx
    | tail _ h => exact r7 y h
theorem RS_pop {x : Nat} (rs : RS σ F (x :: W) D) : RS (s2 σ 118 29 (nI W.length)) F W D := by
  obtain ⟨r1, r2, r3, r4, r5, r6, r7⟩ := rs
  refine ⟨?_, ?_, ?_, ?_, ?_, ?_, fun y hy => r7 y (List.mem_cons_of_mem _ hy)⟩
  · rw [s2_off (by omega)]; exact r1
  · intro j y h; rw [s2_off (by omega)]; exact r2 j y h
  · rw [s2_at rfl rfl]
  · exact WS_F W (fun k hk => by rw [s2_off (by omega)]) r4.2
  · rw [s2_off (by omega)]; exact r5
  · exact DS_F D (fun k _ => by rw [s2_off (by omega)]) r6
theorem waits_f (rs : RS σ F W D) (hW : W.length < 950) {x : Nat} (hx : 3 ≤ x ∧ x ≤ 14) : RN (fun τ => Fr Wwt σ τ ∧ RS τ F (x :: W) D) w u (f_X11_waitsFor 118 (nI x) (mk σ w u)) := by
  refine ⟨_, ⟨Fr_st (Fr_s (by unfold Wwt; omega)) (by unfold Wwt; omega), RS_push rs hx⟩, ?_⟩
  have r3 := rs.2.2.1
  unfold f_X11_waitsFor
  rw [zg118, zr118_34, Option.bind_some, zi118_29, Option.bind_some, r3, zb126 hW, Option.bind_some, zi118_29, Option.bind_some, s2_off (by omega), r3, nI_1, zw118_29, Option.bind_some]
theorem isOpen_f {x : Nat} (hx : x ≤ 14) (h : hp_H) : f_X11_isOpen (nI x) h = some (nI (if x < 14 then 0 else 1), h) := by
  unfold f_X11_isOpen f_X11_isOpen_11
  by_cases c : x < 14
  · rw [if_pos (show nI x < 14 from (nI_ltI (b := 14) (by omega) (by decide)).mpr c), if_pos (by decide), if_pos c]; rfl
  · rw [if_neg (show ¬ nI x < 14 from nI_nlt (b := 14) (by omega) (by omega)), if_pos (by decide), if_neg c]; rfl
theorem strength_f {x : Nat} (hx : x ≤ 14) (h : hp_H) : f_X11_strength (nI x) h = some (nI (stg x), h) := by
  unfold f_X11_strength f_X11_strength_39 f_X11_strength_55 f_X11_strength_61
  have hh : x = 0 ∨ x = 1 ∨ x = 2 ∨ x = 3 ∨ x = 4 ∨ x = 5 ∨ x = 6 ∨ x = 7 ∨ x = 8 ∨ x = 9 ∨ x = 10 ∨ x = 11 ∨ x = 12 ∨ x = 13 ∨ x = 14 := by omega
  rcases hh with e | e | e | e | e | e | e | e | e | e | e | e | e | e | e <;> subst e <;> rfl
theorem stg_le (x : Nat) : stg x ≤ 6 := by
  unfold stg
  (repeat' split) <;> omega
def bd9 : (Nat × Int32 × hp_H → Option hp_H) → Nat × Int32 × hp_H → Option hp_H := fun k s => f_X11_drops_0 (fun a0 a1 a2 => k (a0, a1, a2)) s.1 s.2.1 s.2.2
theorem bd9_1 {x0 : Nat} {y : Int32} {h : hp_H} {N : Nat} : lp bd9 (N + 1) (x0, y, h) = f_X11_drops_0 (fun a0 a1 a2 => lp bd9 N (a0, a1, a2)) x0 y h := rfl
theorem bd9_l {x0 : Nat} {y : Int32} {h : hp_H} : l_X11_drops_0 x0 y h = lp bd9 (99999 + 1) (x0, y, h) := rfl
theorem drops_l {b : Nat} (hb : b < 100) : ∀ W N σ F, RS σ F W D → F.length + W.length ≤ 1400 → W.length ≤ 900 → W.length < N → RN (fun τ => Fr Wdr σ τ ∧ RS τ (F ++ (dr b W).1.map nI) (dr b W).2 D) w u (lp bd9 N (118, nI b, mk σ w u)) := by
  intro W
  induction W with
  | nil =>
    intro N σ F rs hF hW hN
    obtain ⟨N, rfl⟩ : ∃ M, N = M + 1 := ⟨N - 1, by omega⟩
    rw [bd9_1]
    unfold f_X11_drops_0 f_X11_drops_68
    rw [zi118_29, Option.bind_some, rs.2.2.1, if_pos (by decide)]
    refine ⟨σ, ⟨Fr_r _ _, ?_⟩, rfl⟩
    show RS σ (F ++ []) [] D
    rw [List.append_nil]
    exact rs
  | cons x W ih =>
    intro N σ F rs hF hW hN
    obtain ⟨N, rfl⟩ : ∃ M, N = M + 1 := ⟨N - 1, by omega⟩
    have hl : (x :: W).length = W.length + 1 := rfl
    rw [hl] at hF hW hN
    have r3 := rs.2.2.1
    have rx := rs.2.2.2.1.1
    have hx := rs.2.2.2.2.2.2 x (List.mem_cons_self ..)
    have hst := stg_le x
    have esub : nI (W.length + 1) - (1 : Int32) = nI W.length := pk_sub (b := 1) (by omega)
    rw [hl] at r3
    rw [bd9_1]
    unfold f_X11_drops_0 f_X11_drops_68
    rw [zi118_29, Option.bind_some, r3, if_neg (show ¬ nI (W.length + 1) ≤ 0 from nI_ge (a := 0) (by omega) (by omega)), zr118_34, Option.bind_some, Option.bind_some, esub, za126 (by omega), Option.bind_some, rx, isOpen_f hx.2, Option.bind_some]
    dsimp only
    by_cases c : x < 14
    · rw [if_pos c, if_pos (show nI 0 = 0 from rfl), zr118_34, Option.bind_some, zi118_29, Option.bind_some, r3, esub, za126 (by omega), Option.bind_some, rx, strength_f hx.2, Option.bind_some]
      dsimp only
      by_cases c2 : b ≤ stg x
      · obtain ⟨τ, ⟨fr, rs2⟩, e2⟩ := puts_f (w := w) (u := u) (RS_pop rs) (by omega) (nI x)
        obtain ⟨τ2, ⟨fr2, rs3⟩, e3⟩ := ih N τ (F ++ [nI x]) rs2 (by rw [List.length_append]; show F.length + 1 + W.length ≤ 1400; omega) (by omega) (by omega)
        rw [if_neg (nI_nlt c2 (by omega)), zi118_29, Option.bind_some, r3, esub, zw118_29, Option.bind_some, zr118_34, Option.bind_some, zi118_29, Option.bind_some, s2_at rfl rfl, za126 (by omega), Option.bind_some, s2_off (by omega), rx, e2, Option.bind_some]
        refine ⟨τ2, ⟨Fr_t (Fr_s (by unfold Wdr; omega)) (Fr_t fr fr2), ?_⟩, e3⟩
        rw [List.append_assoc] at rs3
        unfold dr
        rw [if_pos ⟨c, c2⟩]
        exact rs3
      · rw [if_pos ((nI_ltI (by omega) (by omega)).mpr (by omega))]
        refine ⟨σ, ⟨Fr_r _ _, ?_⟩, rfl⟩
        unfold dr
        rw [if_neg (by omega)]
        show RS σ (F ++ []) _ D
        rw [List.append_nil]
        exact rs
    · rw [if_neg c, if_neg (show ¬ nI 1 = 0 by decide)]
      refine ⟨σ, ⟨Fr_r _ _, ?_⟩, rfl⟩
      unfold dr
      rw [if_neg (by omega)]
      show RS σ (F ++ []) _ D
      rw [List.append_nil]
      exact rs
theorem drops_f {b : Nat} {y : Int32} (hy : y = nI b) (hb : b < 100) (rs : RS σ F W D) (hF : F.length + W.length ≤ 1400) (hW : W.length ≤ 900) : RN (fun τ => Fr Wdr σ τ ∧ RS τ (F ++ (dr b W).1.map nI) (dr b W).2 D) w u (f_X11_drops 118 y (mk σ w u)) := by
  subst hy
  unfold f_X11_drops
  rw [zg118, bd9_l]
  exact drops_l hb W (99999 + 1) σ F rs hF hW (by omega)
def bo9 : (Nat × Int32 × hp_H → Option (Int32 × hp_H)) → Nat × Int32 × hp_H → Option (Int32 × hp_H) := fun k s => f_X11_isOpened_7 (fun a0 a1 a2 => k (a0, a1, a2)) s.1 s.2.1 s.2.2
theorem bo9_1 {x0 : Nat} {y : Int32} {h : hp_H} {N : Nat} : lp bo9 (N + 1) (x0, y, h) = f_X11_isOpened_7 (fun a0 a1 a2 => lp bo9 N (a0, a1, a2)) x0 y h := rfl
theorem bo9_l {x0 : Nat} {y : Int32} {h : hp_H} : l_X11_isOpened_7 x0 y h = lp bo9 (99999 + 1) (x0, y, h) := rfl
theorem opened_l : ∀ W N, WS σ W → (∀ x, x ∈ W → 3 ≤ x ∧ x ≤ 14) → W.length ≤ 900 → W.length < N → lp bo9 N (118, nJ W.length, mk σ w u) = some (nI (if 14 ∈ W then 1 else 0), mk σ w u) := by
  intro W
  induction W with
  | nil =>
    intro N _ _ _ hN
    obtain ⟨N, rfl⟩ : ∃ M, N = M + 1 := ⟨N - 1, by omega⟩
    rw [bo9_1]
    show f_X11_isOpened_7 (fun a0 a1 a2 => lp bo9 N (a0, a1, a2)) 118 (nJ 0) (mk σ w u) = _
    unfold f_X11_isOpened_7 f_X11_isOpened_29 f_X11_isOpened_38
    rw [if_pos (by decide), if_pos (by decide), if_pos (by decide), if_neg (fun h => by cases h)]
    rfl
  | cons x W ih =>
    intro N ws hb hW hN
    obtain ⟨N, rfl⟩ : ∃ M, N = M + 1 := ⟨N - 1, by omega⟩
    have hl : (x :: W).length = W.length + 1 := rfl
    rw [hl] at hW hN ⊢
    have hx := hb x (List.mem_cons_self ..)
    have e1 : nJ (W.length + 1) = nI W.length := pk_sub (b := 1) (by omega)
    rw [e1, bo9_1]
    unfold f_X11_isOpened_7 f_X11_isOpened_29 f_X11_isOpened_38
    rw [if_neg (nI_pos (by omega)), zr118_34, Option.bind_some, za126 (by omega), Option.bind_some, ws.1, isOpen_f hx.2, Option.bind_some]
    dsimp only
    by_cases c : x < 14
    · rw [if_pos c, if_pos (show nI 0 = 0 from rfl), show nI W.length + (-1) = nJ W.length by unfold nJ; rw [Int32.sub_eq_add_neg]]
      have h9 := ih N ws.2 (fun y hy => hb y (List.mem_cons_of_mem _ hy)) (by omega) (by omega)
      refine Eq.trans h9 ?_
      by_cases c2 : 14 ∈ W
      · rw [if_pos c2, if_pos (List.mem_cons_of_mem _ c2)]
      · rw [if_neg c2, if_neg (fun h => by
          cases h with
          | head => omega
          | tail _ h => exact c2 h)]
    · rw [if_neg c, if_neg (show ¬ nI 1 = 0 by decide), if_neg (nI_pos (by omega)), if_pos (by decide), if_pos (by rw [show x = 14 by omega]; exact List.mem_cons_self ..)]
      rfl
theorem opened_f (rs : RS σ F W D) (hW : W.length ≤ 900) : f_X11_isOpened 118 (mk σ w u) = some (nI (if 14 ∈ W then 1 else 0), mk σ w u) := by
  unfold f_X11_isOpened
  rw [zg118, zi118_29, Option.bind_some, rs.2.2.1, bo9_l]
  exact opened_l W (99999 + 1) rs.2.2.2.1 rs.2.2.2.2.2.2 hW (by omega)
theorem rsg_1 {c : Nat} {x : Int32} (hx : x = nI c) (hc : c < 256) (rg : RG σ w T n K) (h : K.2.2 = 3 ∧ T K.1 = c) : f_X11_isSign 118 x (mk σ w u) = some (nI 1, mk σ w u) := by
  obtain ⟨h1, h2, h3, h4, rt, ok, okl, hn⟩ := rg
  rw [hx, isSign_R hc (fun i hi => (h1 i hi).1) rt ok hn, if_pos h]
theorem rsg_0 {c : Nat} {x : Int32} (hx : x = nI c) (hc : c < 256) (rg : RG σ w T n K) (h : ¬ (K.2.2 = 3 ∧ T K.1 = c)) : f_X11_isSign 118 x (mk σ w u) = some (nI 0, mk σ w u) := by
  obtain ⟨h1, h2, h3, h4, rt, ok, okl, hn⟩ := rg
  rw [hx, isSign_R hc (fun i hi => (h1 i hi).1) rt ok hn, if_neg h]
theorem rkw (rg : RG σ w T n K) : f_X11_knownWord 118 (mk σ w u) = some (nJ (kw T K), mk σ w u) := by
  obtain ⟨h1, h2, h3, h4, rt, ok, okl, hn⟩ := rg
  exact knownWord_R rt ok okl.1 hn
theorem srt_1 (rg : RG σ w T n K) : (σ 118 16 = 2 ↔ K.2.2 = 1) ∧ (σ 118 16 = 1 ↔ K.2.2 = 2) ∧ (σ 118 16 = 0 ↔ K.2.2 = 0) := by
  obtain ⟨h1, h2, h3, h4, rt, ok, okl, hn⟩ := rg
  have o3 := ok.2.2.1
  have hs : ∀ k, k ≤ 4 → ((nI (srt k) = 2 ↔ k = 1) ∧ (nI (srt k) = 1 ↔ k = 2) ∧ (nI (srt k) = 0 ↔ k = 0)) := by decide
  rw [rt.2.1]
  exact hs _ o3
end RX
