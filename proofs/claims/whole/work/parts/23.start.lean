/-! OWN: from the law's entry: what the statement gives, the two objects, the loop. Open: the pure claim over f_L_law -/
section WST
variable {p : Program} {l : Launch} {e : Env} {R : Room} {s : State} {m : MethodId} {args : Array Value} {below : List Frame} {meth : Method} {c : Code} {Q : State → Prop}
variable {G : hp_G} {cc : ByteArray} {nL kc ks pc : Nat} {own : String} {ret : Option FieldType} {lv : List (Nat × Value)} {st : List Value} {h : hp_H} {α : Type} {o : α}
theorem wt_astore_n (X : wx G p s m args meth c cc nL own ret) {f : Fin 4} {x : Nat} {lv' : List (Nat × Value)} (hd : decode cc pc = .ok (.astore_n f, 1)) (hn : (f : Nat) < nL) (hl : ((f : Nat), Value.ref x) :: lv.filter (fun q => !(q.1 == (f : Nat)) && !(q.1 + 1 == (f : Nat) && q.2.category == 2)) = lv') (k : wt p l e R s m args below meth c Q G nL kc ks (pc + 1) lv' st h) : wt p l e R s m args below meth c Q G nL kc ks pc lv (.ref x :: st) h :=
  fun H locs ls hz hP hS hL => lv_astore_n (i := (f : Nat)) (lv' := hp_l G lv') X.1.1 X.1.2.1 hd rfl hL hn (by rw [hp_l_filter]; subst hl; rfl) (fun ls' hL' => k H locs ls' hz hP hS hL')
theorem wt_istore (X : wx G p s m args meth c cc nL own ret) {i : Nat} {x : Int32} {lv' : List (Nat × Value)} (hd : decode cc pc = .ok (.istore i, 2)) (hn : i < nL) (hl : (i, Value.int x) :: lv.filter (fun q => !(q.1 == i) && !(q.1 + 1 == i && q.2.category == 2)) = lv') (k : wt p l e R s m args below meth c Q G nL kc ks (pc + 2) lv' st h) : wt p l e R s m args below meth c Q G nL kc ks pc lv (.int x :: st) h :=
  fun H locs ls hz hP hS hL => lv_istore (lv' := hp_l G lv') X.1.1 X.1.2.1 hd hL hn (by rw [hp_l_filter]; subst hl; rfl) (fun ls' hL' => k H locs ls' hz hP hS hL')
theorem wt_newaJB (X : wx G p s m args meth c cc nL own ret) {RK mc ms N : Nat} {n : Int32} {F : Nat × hp_H → Option α} (hd : decode cc pc = .ok (.newarray .long, 2)) (hN : n.toNatClampNeg = N) (hn : ¬ n < 0) (hb : N ≤ 1000000) (hcs : kc + 1 ≤ mc ∧ ks + N ≤ ms) (hf : (nw_A h 2 N).bind F = some o) (k : ∀ r, F r = some o → wt p l e (mt_R RK mc ms) s m args below meth c Q G nL (kc + 1) (ks + N) (pc + 2) lv (.ref r.1 :: st) r.2) : wt p l e (mt_R RK mc ms) s m args below meth c Q G nL kc ks pc lv (.int n :: st) h := by
  intro H locs ls hz hP hS hL
  refine va_newaK (atype := .long) X.1.1 X.1.2.1 (X.1.2.2.2.2 _ my_long) rfl hd rfl hn hN (by show N * 8 ≤ 536870912; omega) hcs.1 hcs.2 hz fun H1 cA e1 z1 o1 hA hfc => ?_
  have hcA : cA = G.2.2.1 2 := by
    have h1 := (X.2.1.2 2 (G.2.2.1 2, .long) rfl).2
    have h2 : s.vm.findClass ("[" ++ (FieldType.long).toString) = some (G.2.2.1 2) := h1
    exact Option.some.inj (hfc.symm.trans h2)
  have hk : ∀ (k : Nat) (x : Nat × va_E), (hp_w G h)[k]? = some x → H1[x.1]? = H[x.1]? := fun k x hx => o1 x.1 (by rw [← hz]; exact (hP k x hx).lt)
  refine k (h.length, h ++ [na_C 2 N]) (show F (h.length, h ++ [na_C 2 N]) = some o from hf) H1 locs ls (by rw [z1, List.length_append]; rfl) ?_ ⟨Nat.le_trans hS.1 (by omega), fun x h1 h2 => (o1 x (by have := hS.1; omega)).trans (hS.2.1 x h1 h2), hS.2.2⟩ hL
  rw [hp_w_push]
  refine (hP.kept hk).app (fun k x hx => ?_)
  have hz0 : k < 1 := (List.getElem?_eq_some_iff.mp hx).1
  rw [show k = 0 by omega] at hx
  cases hx
  subst hcA
  exact e1
theorem wt_of (k : wq p l e R s m args below meth c Q G nL kc ks pc lv st h) : wt p l e R s m args below meth c Q G nL kc ks pc lv st h := fun H locs ls _ hP hS hL => k H locs ls hP hS hL
theorem wq_room {R' : Room} {H : Heap} {locs : List Loc} {g : JFrame} (h1 : R'.frames ≤ R.frames) (h2 : R'.locals ≤ R.locals) (h3 : R'.cells ≤ R.cells) (h4 : R'.slots ≤ R.slots) (k : W p l e R' s m args below meth c H locs kc ks Q g) : W p l e R s m args below meth c H locs kc ks Q g := by
  intro T hT X
  have hroom : s.hasRoom e.platform R' = true := by
    have h := X.room
    simp only [State.hasRoom, Bool.and_eq_true, decide_eq_true_eq] at h ⊢
    exact ⟨⟨⟨⟨by omega, by omega, by omega, by omega, by omega, h.1.1.1.2.2.2.2.2⟩, by omega⟩, by omega⟩, h.2⟩
  exact k T hT { X with room := hroom }
end WST
theorem nw_L_8 : nw_ok RL 8 10 15 [.null, .int 0, .int 0, .null, .null, .null, .null, .int 0, .null, .null, .null, .null, .null, .null, .null] := ⟨RX10, TX10, tyX10, rfl, mf_X10, tyX10_ok, mq_L_8, mj_X10, mk_X10, by decide +kernel, fun v hv G => by simp only [List.mem_cons, List.not_mem_nil, or_false] at hv; rcases hv with rfl | rfl | rfl | rfl | rfl | rfl | rfl | rfl | rfl | rfl | rfl | rfl | rfl | rfl | rfl <;> rfl⟩
theorem nw_L_127 : nw_ok RL 127 11 55 [.int 0, .int 0, .int 0, .int 0, .int 0, .int 0, .int 0, .null, .null, .null, .int 0, .int 0, .int 0, .null, .int 0, .int 0, .int 0, .int 0, .int 0, .int 0, .int 0, .long 0, .int 0, .int 0, .int 0, .int 0, .int 0, .int 0, .int 0, .int 0, .int 0, .null, .null, .null, .null, .null, .null, .null, .int 0, .null, .null, .int 0, .int 0, .int 0, .null, .int 0, .null, .null, .int 0, .int 0, .int 0, .int 0, .null, .null, .null] := ⟨RX11, TX11, tyX11, rfl, mf_X11, tyX11_ok, mq_L_127, mj_X11, mk_X11, by decide +kernel, fun v hv G => by simp only [List.mem_cons, List.not_mem_nil, or_false] at hv; rcases hv with rfl | rfl | rfl | rfl | rfl | rfl | rfl | rfl | rfl | rfl | rfl | rfl | rfl | rfl | rfl | rfl | rfl | rfl | rfl | rfl | rfl | rfl | rfl | rfl | rfl | rfl | rfl | rfl | rfl | rfl | rfl | rfl | rfl | rfl | rfl | rfl | rfl | rfl | rfl | rfl | rfl | rfl | rfl | rfl | rfl | rfl | rfl | rfl | rfl | rfl | rfl | rfl | rfl | rfl | rfl <;> rfl⟩
theorem io_L_126 : ic_ok RL 126 yX10_init cX10_init 1 0 := ⟨⟨Or.inl ml_L_126, mi_X10_init, mk_X10, mc_X10_init⟩, by decide, rfl, by decide +kernel, by decide +kernel, by decide +kernel⟩
theorem io_L_129 : ic_ok RL 129 yX11_init cX11_init 1 0 := ⟨⟨Or.inl ml_L_129, mi_X11_init, mk_X11, mc_X11_init⟩, by decide, rfl, by decide +kernel, by decide +kernel, by decide +kernel⟩
/-- the law's picture: both objects made, then its loop; the heap at its end, if it answers true -/
def f_L_law (L : Nat) (xs : Nat → Int32) : Option hp_H :=
  (nw_O [] 10 [.null, .int 0, .int 0, .null, .null, .null, .null, .int 0, .null, .null, .null, .null, .null, .null, .null]).bind fun r1 => (f_X10_init r1.1 r1.2).bind fun h2 => (nw_O h2 11 [.int 0, .int 0, .int 0, .int 0, .int 0, .int 0, .int 0, .null, .null, .null, .int 0, .int 0, .int 0, .null, .int 0, .int 0, .int 0, .int 0, .int 0, .int 0, .int 0, .long 0, .int 0, .int 0, .int 0, .int 0, .int 0, .int 0, .int 0, .int 0, .int 0, .null, .null, .null, .null, .null, .null, .null, .int 0, .null, .null, .int 0, .int 0, .int 0, .null, .int 0, .null, .null, .int 0, .int 0, .int 0, .int 0, .null, .null, .null]).bind fun r3 => (f_X11_init r3.1 r3.2).bind fun h4 => (nw_A h4 2 1).bind fun r5 => l_L_law_23 L xs r1.1 r3.1 r5.1 0 r5.2
set_option maxRecDepth 20000 in
theorem law_start {p : Program} {l : Launch} {e : Env} {s : State} {m : MethodId} {b : Nat} {below : List Frame} {meth : Method} {c : Code} {G : hp_G} {o : hp_H} {L : Nat} {xs : Nat → Int32} (hl : l.stackTraces = false) (X : wx G p s m #[Value.ref b] meth c cL_law 7 RL (some .boolean)) (HX : wsc G s L xs ∧ G.1 = s.heap.size) (hf : f_L_law L xs = some o) :
    wt p l e (mt_R 1750 601024 7293034) s m #[Value.ref b] below meth c (lw_Z below #[Value.ref b] s) G 7 0 0 0 [(0, .float 97)] [] [] := by
  unfold f_L_law at hf
  refine wt_newB X dL_law_0 nw_L_8 (by decide) hf (fun r1 hf => ?_)
  refine wt_dup X dL_law_3 rfl ?_
  refine wt_callIv (mc := 117) (ms := 4213) X [] [.ref r1.1] dL_law_4 rfl io_L_126 rfl (by decide) (Nat.le_of_ble_eq_true rfl) (by decide) hf (c_X10_init l _ _) (fun h2 hf => ?_)
  refine wt_astore_n (lv' := [(1, .ref r1.1), (0, .float 97)]) X dL_law_7 (by decide) rfl ?_
  refine wt_newB X dL_law_8 nw_L_127 (by decide) hf (fun r3 hf => ?_)
  refine wt_dup X dL_law_11 rfl ?_
  refine wt_callIv (mc := 19) (ms := 9046) X [] [.ref r3.1] dL_law_12 rfl io_L_129 rfl (by decide) (Nat.le_of_ble_eq_true rfl) (by decide) hf (c_X11_init l _ _) (fun h4 hf => ?_)
  refine wt_astore_n (lv' := [(2, .ref r3.1), (1, .ref r1.1), (0, .float 97)]) X dL_law_15 (by decide) rfl ?_
  refine wt_iconst X dL_law_16 ic_1 ?_
  refine wt_newaJB X dL_law_17 (N := 1) (by decide) (by decide) (by decide) (by decide) hf (fun r5 hf => ?_)
  refine wt_astore_n (lv' := [(3, .ref r5.1), (2, .ref r3.1), (1, .ref r1.1), (0, .float 97)]) X dL_law_19 (by decide) rfl ?_
  refine wt_iconst X dL_law_20 ic_0 ?_
  refine wt_istore (lv' := [(4, .int 0), (3, .ref r5.1), (2, .ref r3.1), (1, .ref r1.1), (0, .float 97)]) X dL_law_21 (by decide) rfl ?_
  exact wt_of (wq_sub [4, 3, 2, 1, 0] rfl (wl_L_law_23 (by decide) hl X HX _ _ _ _ _ hf))
/-- what holds at the law's entry (the skeleton's) -/
def lw_At (p : Program) (s : State) (m : MethodId) (meth : Method) (c : Code) (b L : Nat) (xs : Nat → Int32) : Prop :=
  p.tables.exec = Jvm.exec ∧ c.code = code ∧ meth.sig.returnType = ret ∧ c.maxLocals = 7 ∧ s.vm.findClass R_law = some m.cls ∧ (∀ w ∈ lw_tbl, w.before #[Value.ref b] s = true) ∧ va_X b L xs s s.heap ∧ b < s.heap.size ∧ meth.locks = false ∧ (Jvm.Cond.and given_1 narrow_1).before #[Value.ref b] s = true
theorem vk_S_congr {N : Nat} {len : List Nat} {byt : List (List Int32)} {adK adV adK' adV' : Nat → Nat} {A : Nat → Prop} {U : State} {H : Heap} (h : vk_S N len byt adK adV A U H) (h1 : ∀ i, i < N → adK' i = adK i) (h2 : ∀ i, i < N → adV' i = adV i) : vk_S N len byt adK' adV' A U H := by
  refine ⟨fun i hi => ?_, fun i j hi hj e => h.2 i j hi hj (by rw [← h1 i hi, ← h1 j hj]; exact e)⟩
  rw [h1 i hi, h2 i hi]
  exact h.1 i hi
set_option maxHeartbeats 1000000 in
theorem law_G {p : Program} {s : State} {m : MethodId} {meth : Method} {c : Code} {b L : Nat} {xs : Nat → Int32} (C0 : lw_At p s m meth c b L xs) : ∃ G : hp_G, wx G p s m #[Value.ref b] meth c cL_law 7 RL (some .boolean) ∧ wsc G s L xs ∧ G.1 = s.heap.size ∧ G.2.1 97 = b := by
  obtain ⟨hx, hb, hr, hml, hown, hts, hX, hbl, hlocks, hgv⟩ := C0
  have hgt : ∀ w ∈ gt_tbl, w.before #[Value.ref b] s = true := fun w hw => hts w (List.mem_filter.mp hw).1
  have htb : ∀ (i : Nat) (w : Cond), tb i w = true → w.before #[Value.ref b] s = true := fun i w h => hts w (List.mem_append_right _ (List.mem_of_getElem? (of_decide_eq_true h)))
  have hnf : ∀ (i : Nat) (w : Cond), nb i w = true → w.before #[Value.ref b] s = true := fun i w h => flat_of_before _ hgv w (show w ∈ flatC given_1 ++ flatC narrow_1 from List.mem_append_right _ (List.mem_of_getElem? (of_decide_eq_true h)))
  have hA : ∀ a : Nat, a < s.heap.size → ¬ (fun q : Nat => s.heap.size ≤ q) a := fun a ha => Nat.not_le.mpr ha
  obtain ⟨c0, iS0, hKn0⟩ := u_known (C := RX0) (T := TX0) (N := 5) (n := 5) hgt mf_X0 (hgt _ mj_X0)
  obtain ⟨c1, iS1, hKn1⟩ := u_known (C := RX1) (T := TX1) (N := 7) (n := 7) hgt mf_X1 (hgt _ mj_X1)
  obtain ⟨c2, iS2, hKn2⟩ := u_known (C := RX2) (T := TX2) (N := 1) (n := 1) hgt mf_X2 (hgt _ mj_X2)
  obtain ⟨c3, iS3, hKn3⟩ := u_known (C := RX3) (T := TX3) (N := 6) (n := 6) hgt mf_X3 (hgt _ mj_X3)
  obtain ⟨c4, iS4, hKn4⟩ := u_known (C := RX4) (T := TX4) (N := 4) (n := 4) hgt mf_X4 (hgt _ mj_X4)
  obtain ⟨c5, iS5, hKn5⟩ := u_known (C := RX5) (T := TX5) (N := 12) (n := 12) hgt mf_X5 (hgt _ mj_X5)
  obtain ⟨c6, iS6, hKn6⟩ := u_known (C := RX6) (T := TX6) (N := 4) (n := 4) hgt mf_X6 (hgt _ mj_X6)
  obtain ⟨c7, iS7, hKn7⟩ := u_known (C := RX7) (T := TX7) (N := 5) (n := 5) hgt mf_X7 (hgt _ mj_X7)
  obtain ⟨c8, iS8, hKn8⟩ := u_known (C := RX8) (T := TX8) (N := 3) (n := 3) hgt mf_X8 (hgt _ mj_X8)
  obtain ⟨c9, iS9, hKn9⟩ := u_known (C := RX9) (T := TX9) (N := 4) (n := 4) hgt mf_X9 (hgt _ mj_X9)
  obtain ⟨c10, iS10, hKn10⟩ := u_known (C := RX10) (T := TX10) (N := 15) (n := 15) hgt mf_X10 (hgt _ mj_X10)
  obtain ⟨c11, iS11, hKn11⟩ := u_known (C := RX11) (T := TX11) (N := 55) (n := 55) hgt mf_X11 (hgt _ mj_X11)
  obtain ⟨dC, dI, hKc⟩ : ∃ (dC : Nat → ClassId) (dI : Nat → Nat → Nat), ∀ (k : Nat) (q : vw_C), vwCl[k]? = some q → u_Kn s q.1 q.2.1 q.2.2 (dC k) (dI k) := by
    refine ⟨fun k => [c0, c1, c2, c3, c4, c5, c6, c7, c8, c9, c10, c11].getD k c0, fun k => [iS0, iS1, iS2, iS3, iS4, iS5, iS6, iS7, iS8, iS9, iS10, iS11].getD k iS0, ?_⟩
    intro k q hq
    match k, hq with
    | 0, hq => cases hq; exact hKn0
    | 1, hq => cases hq; exact hKn1
    | 2, hq => cases hq; exact hKn2
    | 3, hq => cases hq; exact hKn3
    | 4, hq => cases hq; exact hKn4
    | 5, hq => cases hq; exact hKn5
    | 6, hq => cases hq; exact hKn6
    | 7, hq => cases hq; exact hKn7
    | 8, hq => cases hq; exact hKn8
    | 9, hq => cases hq; exact hKn9
    | 10, hq => cases hq; exact hKn10
    | 11, hq => cases hq; exact hKn11
    | k + 12, hq => simp [vwCl] at hq
  obtain ⟨cI, kI, compI, aI1, aI2, aI3⟩ := Cond.arrayClass_spec (hgt _ my_int)
  obtain ⟨cZ, kZ, compZ, aZ1, aZ2, aZ3⟩ := Cond.arrayClass_spec (hgt _ my_boolean)
  obtain ⟨cJ, kJ, compJ, aJ1, aJ2, aJ3⟩ := Cond.arrayClass_spec (hgt _ my_long)
  obtain ⟨adK, adV, hvS, hev⟩ := vk_Sof (args := #[Value.ref b]) (s := s) (N := 25) (tm := js_tm) (len := js_len) (byt := js_byt) (A := fun q : Nat => s.heap.size ≤ q) nq_len
    (fun i hi => hnf _ _ (List.all_eq_true.mp nq_ex i (List.mem_range.mpr hi))) (fun i hi => hnf _ _ (List.all_eq_true.mp nq_co i (List.mem_range.mpr hi))) (fun i hi => hnf _ _ (List.all_eq_true.mp nq_ar i (List.mem_range.mpr hi))) (fun i hi => hnf _ _ (List.all_eq_true.mp nq_le i (List.mem_range.mpr hi)))
    (fun i hi j hj => hnf _ _ (List.all_eq_true.mp (List.all_eq_true.mp nq_el i (List.mem_range.mpr hi)) j (List.mem_range.mpr hj)))
    (fun i j hi hj hij => by
      have h1 := List.all_eq_true.mp (List.all_eq_true.mp nq_ne i (List.mem_range.mpr hi)) j (List.mem_range.mpr hj)
      simp only [Bool.or_eq_true, decide_eq_true_eq] at h1
      rcases h1 with (h1 | h1) | h1
      · exact absurd h1 hij
      · exact Or.inl (hnf _ _ h1)
      · exact Or.inr (hnf _ _ h1)) hA
  obtain ⟨zf, tf, hzf⟩ : ∃ zf tf : Nat, va_Z "jdk/internal/util/Preconditions" "SIOOBE_FORMATTER" "Ljava/util/function/BiFunction;" (if zf = 0 then .null else .ref tf) (fun q : Nat => s.heap.size ≤ q) s s.heap := by
    rcases va_Zqof (htb _ _ nt_f) (hgt _ mk_J3) (hnf _ _ nq_f) hA with h | ⟨t, h⟩
    · exact ⟨0, 0, h⟩
    · exact ⟨1, t, h⟩
  have hG1 : ∀ i : Nat, i < 25 → (fun i : Nat => if i < 25 then adK i else if i < 50 then adV (i - 25) else if i = 97 then b else if i = 98 then zf else tf) i = adK i := fun i hi => if_pos hi
  have hG2 : ∀ i : Nat, i < 25 → (fun i : Nat => if i < 25 then adK i else if i < 50 then adV (i - 25) else if i = 97 then b else if i = 98 then zf else tf) (25 + i) = adV i := fun i hi => by
    show (if 25 + i < 25 then _ else _) = _
    rw [if_neg (by omega), if_pos (by omega), show 25 + i - 25 = i by omega]
  refine ⟨(s.heap.size, fun i : Nat => if i < 25 then adK i else if i < 50 then adV (i - 25) else if i = 97 then b else if i = 98 then zf else tf, fun t : Nat => if t = 0 then cI else if t = 1 then cZ else cJ, dC, dI), ⟨⟨hx, hb, hml, hown, hgt⟩, ⟨hKc, ?_⟩, Nat.le_refl _, ⟨?_, ?_, ?_, ?_, ?_, ?_, ?_, ?_, ?_⟩, hr, hlocks⟩, ⟨?_, ?_, ?_⟩, rfl, rfl⟩
  · intro k q hk
    match k, hk with
    | 0, hk => cases hk; exact ⟨fun n z => ⟨fun k h => (by cases h), kI, aI2, compI, aI3⟩, aI1⟩
    | 1, hk => cases hk; exact ⟨fun n z => ⟨fun k h => (by cases h), kZ, aZ2, compZ, aZ3⟩, aZ1⟩
    | 2, hk => cases hk; exact ⟨fun n z => ⟨fun k h => (by cases h), kJ, aJ2, compJ, aJ3⟩, aJ1⟩
    | k + 3, hk => simp [hp_T] at hk
  · exact vk_S_congr hvS hG1 hG2
  · intro i hi
    have h1 := htb _ _ (List.all_eq_true.mp nq_sr i (List.mem_range.mpr hi))
    have h2 := hev i hi
    have h3 := vk_R.of h1 h2
    show vk_R _ _ _ ((fun i : Nat => if i < 25 then adK i else if i < 50 then adV (i - 25) else if i = 97 then b else if i = 98 then zf else tf) i) s
    rw [hG1 i hi]
    exact h3
  · exact vx_Zqof (htb _ _ nt_u) (hgt _ mk_javalangThrowable) (hnf _ _ nq_u) hA
  · exact vx_Zqof (htb _ _ nt_n) (hgt _ mk_javalangThrowable) (hnf _ _ nq_n) hA
  · exact va_Zof (htb _ _ nt_c) (hgt _ mk_J0) (va_eqi (hnf _ _ nq_c)) hA
  · intro q hq
    obtain ⟨i, hi⟩ := List.getElem?_of_mem hq
    have hi10 : i < 10 := (List.getElem?_eq_some_iff.mp hi).1
    have h1 := List.all_eq_true.mp nt_h i (List.mem_range.mpr hi10)
    simp only [hi] at h1
    exact va_Nw.of rfl (htb _ _ h1)
  · have e1 : hp_v (s.heap.size, (fun i : Nat => if i < 25 then adK i else if i < 50 then adV (i - 25) else if i = 97 then b else if i = 98 then zf else tf), (fun t : Nat => if t = 0 then cI else if t = 1 then cZ else cJ), dC, dI) (.float 99) = (if zf = 0 then .null else .ref tf) := by
      show va_rf (if (99 : UInt32).toNat = 99 ∧ zf = 0 then none else some tf) = _
      by_cases hz : zf = 0
      · rw [if_pos ⟨rfl, hz⟩, if_pos hz]; rfl
      · rw [if_neg (fun q => hz q.2), if_neg hz]; rfl
    rw [e1]
    exact hzf
  · intro w hw
    obtain ⟨i, hi⟩ := List.getElem?_of_mem hw
    have hi5 : i < 5 := (List.getElem?_eq_some_iff.mp hi).1
    have h1 := List.all_eq_true.mp nt_x i (List.mem_range.mpr hi5)
    have h2 : xw_tab.getD i .returned = w := by rw [List.getD_eq_getElem?_getD, hi]; rfl
    rw [h2] at h1
    exact va_Nw.of (xw_on w hw) (htb _ _ h1)
  · exact va_Nc.of (hnf _ _ nq_x)
  · exact hX
  · exact hbl
  · exact Nat.not_le.mpr hbl
/-- from the entry, if the picture of the law ends -/
theorem whole_start_open {p : Program} {e : Env} {s : State} {m : MethodId} {below : List Frame} {meth : Method} {c : Code} (l : Launch) (hl : l.stackTraces = false) {b L : Nat} {xs : Nat → Int32} (hpure : ∃ o, f_L_law L xs = some o) (C0 : lw_At p s m meth c b L xs) : W p l e room_1 s m #[Value.ref b] below meth c s.heap [] 0 0 (lw_Z below #[Value.ref b] s) (entryFrame m ([Value.ref b] : List Value).toArray 7) := by
  obtain ⟨o, hf⟩ := hpure
  obtain ⟨G, X, HX, hG, h97⟩ := law_G C0
  have k := law_start (e := e) (below := below) hl X ⟨HX, hG⟩ hf
  have hl0 := lv_entry ([.ref b]) (n := 7) (Nat.le_of_ble_eq_true rfl)
  rw [lg_entry_eq]
  have hl1 : lv_has ((lg_sl [Value.ref b] ++ List.replicate (7 - (lg_sl [Value.ref b]).length) Slot.unset).toArray) 7 (hp_l G [(0, .float 97)]) := by
    have e1 : hp_l G [(0, .float 97)] = [(0, .ref b)] := by
      show [(0, hp_v G (.float 97))] = _
      rw [hp_v97, h97]
    rw [e1]
    exact hl0
  refine wq_room (R' := mt_R 1750 601024 7293034) (by decide) (by decide) (by decide) (by decide) ?_
  exact k s.heap [] _ (by rw [hG]; rfl) (fun k q h => by simp [hp_w] at h) va_S.rf hl1
/-! the claim out of the pure claim over f_L_law (the skeleton's tail, with the launch's flag) -/
set_option maxHeartbeats 4000000 in
theorem lw_walk (hpure : ∀ (L : Nat) (xs : Nat → Int32), L ≤ 3072 → ∃ o, f_L_law L xs = some o) (l : Launch) (hl : l.stackTraces = false) (b : Addr) (xs : List Int32) : MetFree l x (headSpec (Jvm.Cond.code x code maxLocals ret :: tables_1) room_1) (lw_P b xs) (fun _ _ _ _ _ => True) lw_Q := by
  refine MetFree.of_bodyS (code := code) (maxLocals := maxLocals) (ret := ret) (by decide) ?_ ?_
  · intro args s m h hn
    obtain ⟨meth, c, h1, h2, h3, h4, h5, h6, -, -⟩ := Cond.code_spec hn (atoms_spec (ws := Jvm.Cond.code x code maxLocals ret :: tables_1) h _ List.mem_cons_self)
    exact ⟨meth, c, h1, h2, h3, h4, h5, h6⟩
  · intro p e s m args below meth c s₁ B hml0 hP _
    obtain ⟨rfl, hx, hbd, hgv⟩ := hP
    obtain ⟨scr, harrAt, hlist, hof, hsmall⟩ := hx
    obtain ⟨hcb, hkn, -, -⟩ := State.arrayAt?_spec harrAt
    have hown : s.vm.findClass R_law = some m.cls := findClass_of_methodNamed B.named
    have hts0 : ∀ c ∈ (Jvm.Cond.code x code maxLocals ret :: tables_1), c.before #[Value.ref b] s = true := atoms_spec (ws := Jvm.Cond.code x code maxLocals ret :: tables_1) B.pre
    have hts : ∀ w ∈ lw_tbl, w.before #[Value.ref b] s = true := k2_hts_sels lw_privs (fun w hw => hts0 w (List.mem_cons_of_mem _ hw)) lw_privs_ok
    have hml : c.maxLocals = 7 := B.maxLocals_eq (hts0 _ List.mem_cons_self)
    have X₀ : Stand p l e room_1 s m #[Value.ref b] below meth c s₁ [] 0 0 := Stand.of_body B
    have hh0 : s₁.heap = s.heap := by rw [B.state]; rfl
    have hsz : scr.slots.size = xs.length := by rw [← Array.length_toList, hlist, List.length_map]
    have hval : ∀ j : Nat, j < xs.length → scr.slots[j]? = some (.int (xs.getD j 0)) := fun j hj => by
      rw [← Array.getElem?_toList, hlist]
      simp [hj]
    have hbl : b < s.heap.size := (Array.getElem?_eq_some_iff.mp hcb).1
    have hX : va_X b xs.length (fun j => xs.getD j 0) s s.heap := ⟨scr, hcb, hof, hkn, hsz, hval⟩
    have K : W p l e room_1 s m #[Value.ref b] below meth c s₁.heap [] 0 0 (lw_Z below #[Value.ref b] s) (entryFrame m ([Value.ref b] : List Value).toArray 7) := by
      rw [hh0]
      exact whole_start_open l hl (hpure _ _ hbd) ⟨B.exec, B.bytes, B.returns, hml, hown, hts, hX, hbl, B.notSynchronized, hgv⟩
    obtain ⟨t, a1, o, b1, b2, b3⟩ := K s₁ rfl X₀
    exact ⟨t, o, a1, b1, b2, b3⟩
theorem lw_pre_spec {args : Array Value} {s : State} (h : (Jvm.Cond.and given_1 narrow_1).before args s = true) (hr : rest_1_c.before args s = true) : ∃ (b : Addr) (xs : List Int32), lw_P b xs args s := by
  have hs := flat_of_before _ h
  have hq := flat_of_before _ hr
  have hc : (Cond.count 1).before args s = true := hs _ (by decide +kernel)
  have harr : (Cond.arrayOf (.arg 0) .int).before args s = true := hs _ (by decide +kernel)
  have hle : (Cond.le (.length (.arg 0)) (.int 3072)).before args s = true := hs _ (by decide +kernel)
  have hlen : (Cond.isInt (.length (.arg 0))).before args s = true := hq _ (by decide +kernel)
  have hall : (Cond.all (.arg 0) (.isInt (.elem (.arg 0) (.index 0)))).before args s = true := hq _ (by decide +kernel)
  obtain ⟨b, xs, hb, hx⟩ := State.ints_of_pre rfl harr hlen hall
  have hsm : xs.length < 2 ^ 31 := hx.choose_spec.2.2.2
  have hev : (Term.length (.arg 0)).eval args s none [] s = some (.int xs.length.toInt32) := hx.length_eval hb
  have hv := Cond.le_ints hev (show (Term.int 3072).eval args s none [] s = some (.int 3072) from rfl)
  have hd : xs.length.toInt32 ≤ 3072 := by
    simpa [Cond.before, Cond.holds, hv] using hle
  have hN : xs.length ≤ 3072 := (Int32.ofNat_le_ofNat hsm (by decide)).mp (show Int32.ofNat xs.length ≤ Int32.ofNat 3072 from hd)
  exact ⟨b, xs, Cond.one_arg hc (show args[0]? = some (.ref b) from hb), hx, hN, h⟩
theorem lw_flag {l : Launch} (h : l.flags = flags0) : l.stackTraces = false := by
  unfold Launch.stackTraces
  rw [h]
  decide +kernel
theorem lw_limb (hpure : ∀ (L : Nat) (xs : Nat → Int32), L ≤ 3072 → ∃ o, f_L_law L xs = some o) (L : Cond) (hL : ∀ (args : Array Value) (s t : State), L.after args s (.returned (some (.int 1))) t = true) :
    ArmFor flags0 classFile x code maxLocals ret World_1 tables_1 room_1 Calls_1 rest_1 Pre_1
      (fun tb e a s o t => postC L tb e a s o t ∧ Framed s o t (fieldLocs frame_1_writes a s ++ arrayLocs frame_1_arrays a s ++ staticLocs frame_1_statics s) 601024 7293034) := by
  intro l hfl _ _ p e ha hc hk s m args below hf hfit hheap happ hpre
  obtain ⟨b, xs, hP⟩ := lw_pre_spec hpre.2.2 hpre.2.1
  obtain ⟨k, o, h1, h2, h3, rfl, hF⟩ := lw_walk hpure l (lw_flag hfl) b xs p e ha hc hk s m args below hf ((Spec.applies_iff_loose hf).mp happ).1 hP trivial
  exact ⟨k, _, h1, h2, h3, hL args s _, hF⟩
/-- OPEN: the claim, if the law's picture ends on every script -/
theorem i_vc_open (hpure : ∀ (L : Nat) (xs : Nat → Int32), L ≤ 3072 → ∃ o, f_L_law L xs = some o) : Claimed_1_1 ∧ Claimed_1_2 := ⟨lw_limb hpure limb_1_1 (fun args s t => by simp [limb_1_1, Cond.after, Cond.holds, Cond.value]), lw_limb hpure limb_1_2 (fun args s t => Cond.after_iff.mpr (by
  first | (rw [show limb_1_2 = Cond.eq .result (.int 1) from rfl, Cond.eq_ints (x := 1) (y := 1) rfl rfl]; simp; done) | (simp [limb_1_2, Cond.value, Term.eval]; done)))⟩
