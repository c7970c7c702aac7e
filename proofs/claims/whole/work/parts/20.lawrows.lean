/-! OWN: the law's own rows: calls with cells and slots counted, the script, the end -/
section WLw
variable {p : Program} {l : Launch} {e : Env} {R : Room} {s : State} {m : MethodId} {args : Array Value} {below : List Frame} {meth : Method} {c : Code} {Q : State → Prop}
variable {G : hp_G} {cc : ByteArray} {nL kc ks pc : Nat} {own : String} {ret : Option FieldType} {lv : List (Nat × Value)} {st : List Value} {h : hp_H} {α : Type} {o : α}
theorem wl_callV (X : wx G p s m args meth c cc nL own ret) {RK mc ms rk mL i ci q n : Nat} {y : MethodName} {cy : ByteArray} {ry : Option FieldType} (av rest : List Value) {stk : List Value} {rv : Option Value} {h' : hp_H}
    (hd : decode cc pc = .ok (.invokevirtual i, 3)) (hs : stk = av.reverse ++ .ref q :: rest) (w : vc_ok own i y cy mL ry ci n) (hn : av.length = n) (hr : rk < RK) (hcat : (rest.map fun v => v.category).sum ≤ 8) (hcs : kc ≤ mc ∧ ks ≤ ms)
    (hM : cv l rk y cy mL ry ci q av h rv h') (kk : wq p l e (mt_R RK mc ms) s m args below meth c Q G nL kc ks (pc + 3) lv (rv.toList ++ rest) h') : wq p l e (mt_R RK mc ms) s m args below meth c Q G nL kc ks pc lv stk h := by
  obtain ⟨C, T, N, w0, ⟨w1, w2, w3, w4, w5⟩, w6, w7, w8, w9, w10⟩ := w
  obtain ⟨⟨fs, hq⟩, hM⟩ := hM
  intro H locs ls hP hS hL
  subst hs
  have hG : GoodIn gt_tbl (wsV own i C y (Cond.code y cy mL ry :: gt_tbl)) := gt_GoodIn (fun _ h => h) (by
    intro w hw
    simp only [wsV, List.mem_append, List.mem_cons, List.not_mem_nil, or_false] at hw
    rcases hw with (rfl | rfl | rfl | rfl) | rfl | hw
    · exact w1
    · exact w2
    · exact w3
    · exact w4
    · exact w5
    · exact hw)
  have hcw : CallW (mt_R RK mc ms) s args own C i y cy mL ry (Cond.code y cy mL ry :: gt_tbl) (mt_R rk 0 0) 0 0 n := cwV n X.1.2.2.2.2 hG rfl rfl rfl ⟨w7, w8, w9, w10⟩ ⟨hr, by show 8 + (mL + 11) + 48 * rk ≤ 48 * RK; omega⟩
  have hrec := va_recv X.2.1 hP w0 (hp_w_some hq)
  have hr0 := va_runV (l := l) (e := e) (below := below) (meth := meth) (locs := locs) (cells := kc) (slots := ks) (As := av.map (hp_v G)) (rest := hp_s G rest) (b := G.1 + q) (g := F0 m pc ls (hp_s G (av.reverse ++ .ref q :: rest))) X.1 (hM G) hcw
    ⟨hp_B.blind, hrec, fun U hU hW => ⟨rfl, hp_B_at X hP hS hU hW⟩⟩ rfl (by simpa using hn) hL.1 (by simp [hp_s, hp_v]) (by
      have h1 := hp_sum G rest
      show 2 * 0 + _ ≤ 8
      omega) hd hcs
  refine wq_run hr0 hS ?_
  intro H1 locs1 hP1 hS1
  have k1 := kk H1 locs1 ls hP1 hS1 hL
  have e1 : hp_s G (rv.toList ++ rest) = (rv.map (hp_v G)).toList ++ hp_s G rest := by cases rv <;> rfl
  rw [← e1]
  exact k1
theorem wl_callVi (X : wx G p s m args meth c cc nL own ret) {RK mc ms rk mL i ci q n : Nat} {y : MethodName} {cy : ByteArray} {ry : Option FieldType} (av rest : List Value) {stk : List Value} {f : Option (Int32 × hp_H)} {F : Int32 × hp_H → Option α}
    (hd : decode cc pc = .ok (.invokevirtual i, 3)) (hs : stk = av.reverse ++ .ref q :: rest) (w : vc_ok own i y cy mL ry ci n) (hn : av.length = n) (hr : rk < RK) (hcat : (rest.map fun v => v.category).sum ≤ 8) (hcs : kc ≤ mc ∧ ks ≤ ms) (hf : f.bind F = some o)
    (hM : ∀ r, f = some r → cv l rk y cy mL ry ci q av h (some (.int r.1)) r.2) (kk : ∀ r, F r = some o → wq p l e (mt_R RK mc ms) s m args below meth c Q G nL kc ks (pc + 3) lv (.int r.1 :: rest) r.2) : wq p l e (mt_R RK mc ms) s m args below meth c Q G nL kc ks pc lv stk h := by
  obtain ⟨r, h1, h2⟩ := Option.bind_eq_some_iff.mp hf
  exact wl_callV X av rest hd hs w hn hr hcat hcs (hM r h1) (kk r h2)
theorem wl_callVv (X : wx G p s m args meth c cc nL own ret) {RK mc ms rk mL i ci q n : Nat} {y : MethodName} {cy : ByteArray} {ry : Option FieldType} (av rest : List Value) {stk : List Value} {f : Option hp_H} {F : hp_H → Option α}
    (hd : decode cc pc = .ok (.invokevirtual i, 3)) (hs : stk = av.reverse ++ .ref q :: rest) (w : vc_ok own i y cy mL ry ci n) (hn : av.length = n) (hr : rk < RK) (hcat : (rest.map fun v => v.category).sum ≤ 8) (hcs : kc ≤ mc ∧ ks ≤ ms) (hf : f.bind F = some o)
    (hM : ∀ r, f = some r → cv l rk y cy mL ry ci q av h none r) (kk : ∀ r, F r = some o → wq p l e (mt_R RK mc ms) s m args below meth c Q G nL kc ks (pc + 3) lv rest r) : wq p l e (mt_R RK mc ms) s m args below meth c Q G nL kc ks pc lv stk h := by
  obtain ⟨r, h1, h2⟩ := Option.bind_eq_some_iff.mp hf
  exact wl_callV X av rest hd hs w hn hr hcat hcs (hM r h1) (kk r h2)
/-- a helper: it catches (1 cell, 6 slots) or goes through -/
def eh (e f : Option (Int32 × hp_H)) : Option (Int32 × hp_H) := match e with
  | some r => some r
  | none => f
def sw_ok (own : String) (i : Nat) (y : MethodName) (cy : ByteArray) (mL : Nat) (ry : Option FieldType) (hh : List (Nat × Nat × Nat × Nat)) (n : Nat) : Prop := (Cond.methodLink own i y ∈ gt_tbl ∧ Cond.static y ∈ gt_tbl ∧ Cond.initialized y.cls ∈ gt_tbl ∧ Cond.codeWith y cy mL ry hh ∈ gt_tbl) ∧ mL ≤ 29 ∧ y.cls ≠ "java/lang/invoke/MethodHandle" ∧ y.cls ≠ "java/lang/invoke/VarHandle" ∧ (parseMethodDescriptor y.desc).map (fun d => d.parameters.length) = some n
theorem wl_runH {H : Heap} {locs : List Loc} {ls : Array Slot} {st0 rest : List Value} {a : Array Value} {rv : Option Value} {h' : hp_H} {mc ms : Nat}
    (hr : va_Run p l e R s m args below meth c H locs kc ks mc ms (F0 m pc ls st0) rest (mt_Q G rv h' a) (hp_A G)) (hS : va_S (hp_A G) s.heap H locs)
    (kk : ∀ (H1 : Heap) (locs1 : List Loc), va_P G.2.2.2 vwCl (hp_w G h') H1 → va_S (hp_A G) s.heap H1 locs1 → W p l e R s m args below meth c H1 locs1 (kc + mc) (ks + ms) Q (F0 m (pc + 3) ls ((rv.map (hp_v G)).toList ++ rest))) : W p l e R s m args below meth c H locs kc ks Q (F0 m pc ls st0) := by
  intro T hT X
  obtain ⟨v, st0, t, T', L, e0, X', hL, e1, e2, hq, go⟩ := hr T hT X
  obtain ⟨ho, hP, hF⟩ := hq
  cases ho
  have hS' : va_S (hp_A G) s.heap T'.heap (locs ++ L) := by
    refine ⟨?_, ?_, ?_⟩
    · rw [e1]; exact Nat.le_trans hS.1 (by rw [← e0]; exact hF.1)
    · intro q hq hA
      rw [e1, hF.2 q (by rw [e0]; exact Nat.lt_of_lt_of_le hq hS.1) hA, e0]
      exact hS.2.1 q hq hA
    · intro z hz
      rcases List.mem_append.mp hz with hz | hz
      · exact hS.2.2 z hz
      · exact hL z hz
  obtain ⟨t2, a1, b1⟩ := kk T'.heap (locs ++ L) (by rw [e1]; exact hP) hS' T' rfl X'
  exact ⟨t2, go t2 a1, b1⟩
theorem wl_callH0 (X : wx G p s m args meth c cc nL own ret) {RK MC MS rk mL i n mc ms : Nat} {y : MethodName} {cy : ByteArray} {ry : Option FieldType} {hh : List (Nat × Nat × Nat × Nat)} (av rest : List Value) {stk : List Value} {rv : Option Value} {h' : hp_H}
    (hd : decode cc pc = .ok (.invokestatic i, 3)) (hs : stk = av.reverse ++ rest) (w : sw_ok own i y cy mL ry hh n) (hn : av.length = n) (hr : rk < RK) (hcat : (rest.map fun v => v.category).sum ≤ 8) (hcs : kc + mc ≤ MC ∧ ks + ms ≤ MS)
    (hM : mw l rk mc ms y cy mL ry hh av h rv h') (kk : wq p l e (mt_R RK MC MS) s m args below meth c Q G nL (kc + mc) (ks + ms) (pc + 3) lv (rv.toList ++ rest) h') : wq p l e (mt_R RK MC MS) s m args below meth c Q G nL kc ks pc lv stk h := by
  obtain ⟨⟨w1, w2, w4, w5⟩, w6, w8, w9, w10⟩ := w
  intro H locs ls hP hS hL
  subst hs
  have hG : GoodIn gt_tbl (va_wsS own i y (Cond.codeWith y cy mL ry hh :: gt_tbl)) := gt_GoodIn (fun _ h => h) (by
    intro w hw
    simp only [va_wsS, List.mem_append, List.mem_cons, List.not_mem_nil, or_false] at hw
    rcases hw with (rfl | rfl | rfl) | rfl | hw
    · exact w1
    · exact w2
    · exact w4
    · exact w5
    · exact hw)
  have hcw := vx_cwSW (R := mt_R RK MC MS) (s := s) (args := args) (ws := Cond.codeWith y cy mL ry hh :: gt_tbl) (rm := mt_R rk mc ms) (mc := mc) (ms := ms) n X.1.2.2.2.2 hG rfl rfl rfl ⟨w8, w9, w10⟩ ⟨hr, by show 8 + (mL + 11) + 48 * rk ≤ 48 * RK; omega⟩
  have hr0 := vx_runSW (l := l) (e := e) (below := below) (meth := meth) (locs := locs) (cells := kc) (slots := ks) (As := av.map (hp_v G)) (rest := hp_s G rest) (g := F0 m pc ls (hp_s G (av.reverse ++ rest))) X.1 (hM G) hcw
    ⟨hp_B.blind, fun U hU hW => ⟨rfl, hp_B_at X hP hS hU hW⟩⟩ rfl (by simpa using hn) hL.1 (by simp [hp_s]) (by
      have h1 := hp_sum G rest
      show 2 * 0 + _ ≤ 8
      omega) hd hcs
  refine wl_runH hr0 hS ?_
  intro H1 locs1 hP1 hS1
  have k1 := kk H1 locs1 ls hP1 hS1 hL
  have e1 : hp_s G (rv.toList ++ rest) = (rv.map (hp_v G)).toList ++ hp_s G rest := by cases rv <;> rfl
  rw [← e1]
  exact k1
theorem wl_widen {kc' ks' : Nat} (h1 : kc ≤ kc') (h2 : ks ≤ ks') (k : wq p l e R s m args below meth c Q G nL kc' ks' pc lv st h) : wq p l e R s m args below meth c Q G nL kc ks pc lv st h := fun H locs ls hP hS hL => W.widen h1 h2 (k H locs ls hP hS hL)
theorem wl_callH (X : wx G p s m args meth c cc nL own ret) {RK MC MS rk mL i n : Nat} {y : MethodName} {cy : ByteArray} {ry : Option FieldType} {hh : List (Nat × Nat × Nat × Nat)} (av rest : List Value) {stk : List Value} {e0 f0 : Option (Int32 × hp_H)} {F : Int32 × hp_H → Option α}
    (hd : decode cc pc = .ok (.invokestatic i, 3)) (hs : stk = av.reverse ++ rest) (w : sw_ok own i y cy mL ry hh n) (hn : av.length = n) (hr : rk < RK) (hcat : (rest.map fun v => v.category).sum ≤ 8) (hcs : kc + 1 ≤ MC ∧ ks + 6 ≤ MS) (hf : (eh e0 f0).bind F = some o)
    (hE : ∀ r, e0 = some r → mw l rk 1 6 y cy mL ry hh av h (some (.int r.1)) r.2) (hM : ∀ r, f0 = some r → mw l rk 0 0 y cy mL ry hh av h (some (.int r.1)) r.2) (kk : ∀ r, F r = some o → wq p l e (mt_R RK MC MS) s m args below meth c Q G nL (kc + 1) (ks + 6) (pc + 3) lv (.int r.1 :: rest) r.2) : wq p l e (mt_R RK MC MS) s m args below meth c Q G nL kc ks pc lv stk h := by
  obtain ⟨r, h1, h2⟩ := Option.bind_eq_some_iff.mp hf
  unfold eh at h1
  split at h1
  · rename_i r0
    cases h1
    exact wl_callH0 X av rest hd hs w hn hr hcat hcs (hE r rfl) (kk r h2)
  · exact wl_callH0 X av rest hd hs w hn hr hcat ⟨by omega, by omega⟩ (hM r h1) (wl_widen (by omega) (by omega) (kk r h2))
/-- the script -/
def wsc (G : hp_G) (s : State) (L : Nat) (xs : Nat → Int32) : Prop := va_X (G.2.1 97) L xs s s.heap ∧ G.2.1 97 < s.heap.size ∧ ¬ hp_A G (G.2.1 97)
def sc_at (L : Nat) (xs : Nat → Int32) (i : Int32) : Option Int32 := if i < 0 ∨ L ≤ i.toNatClampNeg then none else some (xs i.toNatClampNeg)
theorem hp_v97 (G : hp_G) : hp_v G (.float 97) = .ref (G.2.1 97) := by
  show va_rf (hp_f G 97) = _
  rw [hp_f, if_neg (fun q => absurd q.1 (by decide))]
  rfl
theorem wk_sld (X : wx G p s m args meth c cc nL own ret) {L : Nat} {xs : Nat → Int32} (hX : wsc G s L xs) {i : Int32} {F : Int32 → Option α} (hd : decode cc pc = .ok (.iaload, 1)) (hf : (sc_at L xs i).bind F = some o) (kk : ∀ v, F v = some o → wq p l e R s m args below meth c Q G nL kc ks (pc + 1) lv (.int v :: st) h) : wq p l e R s m args below meth c Q G nL kc ks pc lv (.int i :: .float 97 :: st) h := by
  obtain ⟨v, h1, h2⟩ := Option.bind_eq_some_iff.mp hf
  unfold sc_at at h1
  split at h1
  · cases h1
  · rename_i hin
    cases h1
    intro H locs ls hP hS hL
    have e0 : hp_s G (.int i :: .float 97 :: st) = .int i :: .ref (G.2.1 97) :: hp_s G st := by show _ :: hp_v G _ :: _ = _; rw [hp_v97]; rfl
    rw [e0]
    exact va_sld X.1.1 X.1.2.1 hX.1 hX.2.1 hX.2.2 hS hin hd (kk _ h2 H locs ls hP hS hL)
theorem wk_slen (X : wx G p s m args meth c cc nL own ret) {L : Nat} {xs : Nat → Int32} (hX : wsc G s L xs) (hd : decode cc pc = .ok (.arraylength, 1)) (kk : wq p l e R s m args below meth c Q G nL kc ks (pc + 1) lv (.int (Int32.ofNat L) :: st) h) : wq p l e R s m args below meth c Q G nL kc ks pc lv (.float 97 :: st) h := by
  intro H locs ls hP hS hL
  have e0 : hp_s G (.float 97 :: st) = .ref (G.2.1 97) :: hp_s G st := by show hp_v G _ :: _ = _; rw [hp_v97]; rfl
  rw [e0]
  exact va_slen X.1.1 X.1.2.1 hX.1 hX.2.1 hX.2.2 hS hd (kk H locs ls hP hS hL)
end WLw
theorem lp_indN {σ α : Type} {f : (σ → Option α) → σ → Option α} {o : α} {P : Nat → σ → Prop} (H : ∀ (n : Nat) (k : σ → Option α) (s : σ), (∀ s', k s' = some o → P n s') → f k s = some o → P (n + 1) s) : ∀ (n : Nat) (s : σ), lp f n s = some o → P n s := by
  intro n
  induction n with
  | zero => intro s h; cases h
  | succ n ih => intro s h; exact H n (lp f n) s (fun s' h' => ih s' h') h
/-! the claim's end, out of the skeleton, at any room -/
def R_law : String := "NightMarchLaw"
def lw_P (b : Addr) (xs : List Int32) (args : Array Value) (s : State) : Prop := args = #[.ref b] ∧ s.IntsAt b xs ∧ xs.length ≤ 3072 ∧ (Jvm.Cond.and given_1 narrow_1).before args s = true
def lw_Q (_ : Array Value) (s : State) (o : Outcome) (t : State) : Prop := o = .returned (some (.int 1)) ∧ Framed s o t [] 601024 7293034
def lw_Z (below : List Frame) (a : Array Value) (s : State) : State → Prop := fun t => ∃ o, t.status = .running ∧ Ended t below o ∧ lw_Q a s o t
theorem lw_ret {p : Program} {l : Launch} {e : Env} {R : Room} {s : State} {m : MethodId} {below : List Frame} {meth : Method} {c : Code} {b : Nat} (hx : p.tables.exec = Jvm.exec) (hb : c.code = code) (hr : meth.sig.returnType = ret) (hlocks : meth.locks = false) {pc : Nat} {H : Heap} {ls : Array Slot} (hdg : decode code pc = .ok (.ireturn, 1)) : W p l e R s m #[Value.ref b] below meth c H [] 601024 7293034 (lw_Z below #[Value.ref b] s) (F0 m pc ls [.int 1]) := by
  intro T hT X
  obtain ⟨fs, hret, hrun, hended, hW, hframe⟩ := X.leave (v := some (.int 1)) (hlocks := hlocks) (fun h => by rw [hr] at h; cases h)
  have hmeth' : T.vm.method? m = some meth := X.method'
  refine ⟨T.setFrames fs, ?_, .returned (some (.int 1)), hrun, hended, rfl, ⟨_, rfl⟩, hW, hframe⟩
  jvm_step X.here [X.here.top, hx, hb, hdg, hmeth', hr, ret, narrow_b1]
  (try refine ⟨rfl, ?_⟩); (try refine ⟨rfl, ?_⟩)
  first | (intro acts; rw [hret _ acts rfl rfl rfl]) | rw [hret _ _ rfl rfl rfl]
  exact Steps.refl _
theorem wl_end {p : Program} {l : Launch} {e : Env} {R : Room} {s : State} {m : MethodId} {below : List Frame} {meth : Method} {c : Code} {b : Nat} {G : hp_G} {kc ks pc : Nat} {lv : List (Nat × Value)} {h : hp_H} (X : wx G p s m #[Value.ref b] meth c cL_law 7 RL (some .boolean)) (hG : G.1 = s.heap.size) (h1 : kc ≤ 601024) (h2 : ks ≤ 7293034) (hd : decode cL_law pc = .ok (.ireturn, 1)) : wq p l e R s m #[Value.ref b] below meth c (lw_Z below #[Value.ref b] s) G 7 kc ks pc lv [.int 1] h := by
  intro H locs ls hP hS hL
  refine va_forget (fun q hq => by rw [← hG]; exact hS.2.2 q hq) ?_
  refine W.widen (k := 601024) (n := 7293034) h1 h2 ?_
  exact lw_ret X.1.1 X.1.2.1 X.2.2.2.2.1 X.2.2.2.2.2 hd
