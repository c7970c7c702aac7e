/-! OWN: the law's helpers: static methods with an exception table -/
def mw (l : Launch) (rk mc ms : Nat) (y : MethodName) (cy : ByteArray) (mL : Nat) (ry : Option FieldType) (hh : List (Nat × Nat × Nat × Nat)) (av : List Value) (h : hp_H) (rv : Option Value) (h' : hp_H) : Prop :=
  ∀ G : hp_G, Met l y (Cond.codeWith y cy mL ry hh :: gt_tbl) (mt_R rk mc ms) (va_Pc (av.map (hp_v G)) (hp_B G h)) (mt_Q G rv h') mc ms (hp_A G)
theorem mw_of {l : Launch} {rk mL mc ms : Nat} {y : MethodName} {cy : ByteArray} {ry : Option FieldType} {hh : List (Nat × Nat × Nat × Nat)} {av : List Value} {lv : List (Nat × Value)} {h h' : hp_H} {rv : Option Value} (hy : plainName y.cls = true) (hlen : (lg_sl av).length ≤ mL) (hlv : lv_args 0 av = lv)
    (H : ∀ (p : Program) (e : Env) (s : State) (m : MethodId) (args : Array Value) (below : List Frame) (meth : Method) (c : Code) (G : hp_G), c.exceptionTable.toList = tableOf hh → wx G p s m args meth c cy mL y.cls ry → wq p l e (mt_R rk mc ms) s m args below meth c (MQ below (mt_Q G rv h') args s mc ms (hp_A G)) G mL 0 0 0 lv [] h) :
    mw l rk mc ms y cy mL ry hh av h rv h' := by
  intro G
  refine va_MetW (cc := cy) (maxL := mL) (ret := ry) hy rfl ?_
  intro p e s m args below meth c s₁ B hml hv
  obtain ⟨rfl, hP, hK, hb, hZ⟩ := hv
  have hts := atoms_spec (ws := Cond.codeWith y cy mL ry hh :: gt_tbl) B.pre
  have X : wx G p s m (av.map (hp_v G)).toArray meth c cy mL y.cls ry := ⟨⟨B.exec, B.bytes, hml, findClass_of_methodNamed B.named, fun w hw => hts w (List.mem_cons_of_mem _ hw)⟩, hK, hb, hZ, B.returns, B.notSynchronized⟩
  have hl := lv_entry (av.map (hp_v G)) (n := mL) (by rw [hp_len]; exact hlen)
  rw [lg_entry_eq]
  rw [hp_args, hlv] at hl
  exact H p e s m _ below meth c G (vx_table (x := y) B (hts _ List.mem_cons_self)) X s.heap [] _ hP va_S.rf hl
section WH
variable {p : Program} {l : Launch} {e : Env} {R : Room} {s : State} {m : MethodId} {args : Array Value} {below : List Frame} {meth : Method} {c : Code}
variable {G : hp_G} {cc : ByteArray} {nL pc : Nat} {own : String} {lv : List (Nat × Value)} {st : List Value} {h : hp_H}
/-- the handler: it keeps the exception in a local and answers a number -/
def hd_ok (cc : ByteArray) (nL hpc : Nat) (v : Int32) : Prop := ∃ (n : Int) (i len : Nat), i < nL ∧ (decode cc hpc = .ok (.astore i, 2) ∧ len = 2 ∨ (∃ f : Fin 4, (f : Nat) = i ∧ decode cc hpc = .ok (.astore_n f, 1)) ∧ len = 1) ∧ decode cc (hpc + len) = .ok (.iconst n, 1) ∧ Int32.ofInt n = v ∧ decode cc (hpc + len + 1) = .ok (.ireturn, 1)
theorem hd_walk (X : wx G p s m args meth c cc nL own (some .int)) {hpc : Nat} {v : Int32} (hh : hd_ok cc nL hpc v) {H : Heap} {locs : List Loc} {ls : Array Slot} {q kc ks : Nat} (hP : va_P G.2.2.2 vwCl (hp_w G h) H) (hS : va_S (hp_A G) s.heap H locs) (hL : lv_has ls nL (hp_l G lv)) :
    W p l e R s m args below meth c H locs kc ks (MQ below (mt_Q G (some (.int v)) h) args s kc ks (hp_A G)) (F0 m hpc ls [.ref q]) := by
  obtain ⟨n, i, len, hi, hd, hd2, hn, hd3⟩ := hh
  have hend : ∀ ls' : Array Slot, W p l e R s m args below meth c H locs kc ks (MQ below (mt_Q G (some (.int v)) h) args s kc ks (hp_A G)) (F0 m (hpc + len) ls' []) := fun ls' => by
    refine lv_iconst X.1.1 X.1.2.1 hd2 hn ?_
    exact W.iret X.1.1 X.1.2.1 X.2.2.2.2.1 (fun t ht _ => mt_Q_end (rv := some (.int v)) X.2.2.1 hP hS ht) hS.2.2 hd3 X.2.2.2.2.2
  rcases hd with ⟨hd, rfl⟩ | ⟨⟨f, hf, hd⟩, rfl⟩
  · exact lv_astore X.1.1 X.1.2.1 hd hL hi rfl (fun ls' _ => hend ls')
  · exact lv_astore_n X.1.1 X.1.2.1 hd hf hL hi rfl (fun ls' _ => hend ls')
/-- a call whose throw is caught by the row x of the table -/
theorem wk_caught (X : wx G p s m args meth c cc nL own (some .int)) {RK rk mL i ci q n k : Nat} {y : MethodName} {cy : ByteArray} {ry : Option FieldType} (av rest : List Value) {stk : List Value} {h' : hp_H} {v : Int32}
    (hd : decode cc pc = .ok (.invokevirtual i, 3)) (hs : stk = av.reverse ++ .ref q :: rest) (w : vc_ok own i y cy mL ry ci n) (hn : av.length = n) (hr : rk < RK) (hcat : (rest.map fun v => v.category).sum ≤ 8)
    (hM : cvx l rk y cy mL ry ci q av h k h') (pre : List ExceptionTableEntry) (x : ExceptionTableEntry) (suf : List ExceptionTableEntry) (hsplit : c.exceptionTable.toList = pre ++ x :: suf)
    (hpass : ∀ z ∈ pre, z.catchType ≠ 0 ∧ Cond.classLink own z.catchType (xn 0) ∈ gt_tbl ∧ xn k = xn 1) (hx : covers x pc = true) (h0 : x.catchType ≠ 0) (hlink : Cond.classLink own x.catchType (xn k) ∈ gt_tbl) (hcast : Cond.castable (xn k) (xn k) ∈ xw_tab) (hh : hd_ok cc nL x.handlerPc v) :
    wq p l e (mt_R RK 1 6) s m args below meth c (MQ below (mt_Q G (some (.int v)) h') args s 1 6 (hp_A G)) G nL 0 0 pc lv stk h := by
  obtain ⟨C, T, N, w0, ⟨w1, w2, w3, w4, w5⟩, w6, w7, w8, w9, w10⟩ := w
  obtain ⟨⟨fs, hq⟩, hM⟩ := hM
  intro H locs ls hP hS hL
  subst hs
  have hG : GoodIn gt_tbl (wsV own i C y (Cond.code y cy mL ry :: gt_tbl)) := gt_GoodIn (fun _ h => h) (by
    intro w hw
    simp only [wsV, List.mem_append, List.mem_cons, List.not_mem_nil, or_false] at hw
    rcases hw with (rfl | rfl | rfl | rfl) | rfl | hw
    · exact w1
    · exact w2
    · exact w3
    · exact w4
    · exact w5
    · exact hw)
  have hcw : CallW (mt_R RK 1 6) s args own C i y cy mL ry (Cond.code y cy mL ry :: gt_tbl) (mt_R rk 1 6) 1 6 n := cwV n X.1.2.2.2.2 hG rfl rfl rfl ⟨w7, w8, w9, w10⟩ ⟨hr, by show 8 + (mL + 11) + 48 * rk ≤ 48 * RK; omega⟩
  have hrec := va_recv X.2.1 hP w0 (hp_w_some hq)
  have hr0 := vx_runV (l := l) (e := e) (below := below) (meth := meth) (locs := locs) (cells := 0) (slots := 0) (As := av.map (hp_v G)) (rest := hp_s G rest) (b := G.1 + q) (g := F0 m pc ls (hp_s G (av.reverse ++ .ref q :: rest))) X.1 (hM G) hcw
    ⟨hp_B.blind, hrec, fun U hU hW => ⟨rfl, hp_B_at X hP hS hU hW⟩⟩ rfl (by simpa using hn) hL.1 (by simp [hp_s, hp_v]) (by
      have h1 := hp_sum G rest
      show 2 * 0 + _ ≤ 8
      omega) hd ⟨Nat.le_refl _, Nat.le_refl _⟩
  have hxw : (Cond.castable (xn k) (xn k)).before args s = true := va_Nw.use rfl (X.2.2.2.1.2.2.2.2.2.2.2.1 _ hcast)
  intro T1 hT1 XS
  rcases hr0 T1 hT1 XS with ⟨v, st₀, t, T', L, h0', X', hL', e1, e2, hq', go⟩ | ⟨q9, st₀, t, T', L, E, ce, h0', X', hL', e1, e2, ⟨hE, hP1, hF⟩, hce, hcv, hcl, st9⟩
  · exact hq'.elim
  · subst hE
    have hS' : va_S (hp_A G) s.heap T'.heap (locs ++ L) := by
      refine ⟨?_, ?_, ?_⟩
      · rw [e1]; exact Nat.le_trans hS.1 (by rw [← h0']; exact hF.1)
      · intro q hq hA
        rw [e1, hF.2 q (by rw [h0']; exact Nat.lt_of_lt_of_le hq hS.1) hA, h0']
        exact hS.2.1 q hq hA
      · intro z hz
        rcases List.mem_append.mp hz with hz | hz
        · exact hS.2.2 z hz
        · exact hL' z hz
    have hv := vx_catch (p := p) (l := l) (e := e) (R := mt_R RK 1 6) (below := below) (meth := meth) (locs := locs ++ L) (cells := 0 + 1) (slots := 0 + 6) (pc := pc) (ls := ls) (rest := hp_s G rest) (Q := MQ below (mt_Q G (some (.int v)) h') args s 1 6 (hp_A G)) (H := T'.heap) X.1.2.2.2.1 pre x suf hsplit
      (fun z hz => by
        obtain ⟨a1, a2, a3⟩ := hpass z hz
        refine Or.inr ⟨a1, xn 0, X.1.2.2.2.2 _ a2, ?_⟩
        rw [a3]
        exact X.2.2.2.1.2.2.2.2.2.2.2.2) hx h0 (X.1.2.2.2.2 _ hlink) hxw (by rw [e1]; exact hce) hcv hcl
      (hd_walk X hh (by rw [e1]; exact hP1) hS' hL)
    obtain ⟨t2, a1, b1⟩ := hv T' rfl X'
    exact ⟨t2, st9.trans a1, b1⟩
end WH
