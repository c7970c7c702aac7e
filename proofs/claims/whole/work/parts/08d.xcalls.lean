/-! OWN: methods that throw: the picture g_.. gives which exception (0 NoSuchElementException, else IllegalArgumentException) and the heap then -/
def xn : Nat → String
  | 0 => "java/util/NoSuchElementException"
  | _ => "java/lang/IllegalArgumentException"
def mx_X (G : hp_G) (k : Nat) (h : hp_H) : String → State → State → Prop := fun E st t => E = xn k ∧ va_P G.2.2.2 vwCl (hp_w G h) t.heap ∧ va_F (hp_A G) st t
def mx_N : Array Value → State → Outcome → State → Prop := fun _ _ _ _ => False
def mx (l : Launch) (rk : Nat) (y : MethodName) (ws : List Cond) (av : List Value) (h : hp_H) (k : Nat) (h' : hp_H) : Prop :=
  ∀ G : hp_G, vx_Met l y ws (mt_R rk 1 6) (va_Pc (av.map (hp_v G)) (hp_B G h)) mx_N (mx_X G k h') 1 6 (hp_A G)
def cvx (l : Launch) (rk : Nat) (y : MethodName) (cy : ByteArray) (mL : Nat) (ry : Option FieldType) (ci q : Nat) (av : List Value) (h : hp_H) (k : Nat) (h' : hp_H) : Prop := (∃ fs : List Value, h[q]? = some (.inr (ci, fs))) ∧ mx l rk y (Cond.code y cy mL ry :: gt_tbl) (.ref q :: av) h k h'
def csx (l : Launch) (rk : Nat) (y : MethodName) (cy : ByteArray) (mL : Nat) (ry : Option FieldType) (av : List Value) (h : hp_H) (k : Nat) (h' : hp_H) : Prop := mx l rk y (Cond.code y cy mL ry :: gt_tbl) av h k h'
/-- a call that may throw: the callee's throw is the caller's -/
def xb {β : Type} (g : Option (Nat × hp_H)) (f : Option β) (F : β → Option (Nat × hp_H)) : Option (Nat × hp_H) := match g with
  | some x => some x
  | none => f.bind F
def xck (ws : List Cond) : Bool := ws.all (fun w => (decide (w ∈ lw_tbl) && goodWord w || decide (w ∈ xw_tab)) && vx_ot w)
theorem xck_ok {ws : List Cond} (h : xck ws = true) : ∀ w ∈ ws, (w ∈ gt_tbl ∨ w ∈ xw_tab) ∧ vx_ot w = true := by
  intro w hw
  have h1 := List.all_eq_true.mp h w hw
  simp only [Bool.and_eq_true, Bool.or_eq_true, decide_eq_true_eq] at h1
  exact ⟨h1.1.imp (fun q => gt_in q.1 q.2) id, h1.2⟩
section WX
variable {p : Program} {l : Launch} {e : Env} {R : Room} {s : State} {m : MethodId} {args : Array Value} {below : List Frame} {meth : Method} {c : Code}
variable {G : hp_G} {cc : ByteArray} {nL pc : Nat} {own : String} {ret : Option FieldType} {lv : List (Nat × Value)} {st : List Value} {h : hp_H} {o : Nat × hp_H}
theorem wq_runX {H : Heap} {locs : List Loc} {ls : Array Slot} {st0 rest : List Value} {k : Nat} {h' : hp_H} {a : Array Value}
    (hr : vx_Run p l e R s m args below meth c H locs 0 0 1 6 (F0 m pc ls st0) rest (mx_N a) (mx_X G k h') (hp_A G)) (hS : va_S (hp_A G) s.heap H locs) (hT : ∀ x ∈ c.exceptionTable.toList, False) (hlocks : meth.locks = false) :
    W p l e R s m args below meth c H locs 0 0 (vx_MQ below mx_N (mx_X G k h') args s 1 6 (hp_A G)) (F0 m pc ls st0) := by
  intro T hTT X
  rcases hr T hTT X with ⟨v, st₀, t, T', L, h0, X', hL, e1, e2, hq, go⟩ | ⟨q, st₀, t, T', L, E, ce, h0, X', hL, e1, e2, ⟨hE, hP, hF⟩, hce, hcv, hcl, st9⟩
  · exact hq.elim
  · have hS' : va_S (hp_A G) s.heap T'.heap (locs ++ L) := by
      refine ⟨?_, ?_, ?_⟩
      · rw [e1]; exact Nat.le_trans hS.1 (by rw [← h0]; exact hF.1)
      · intro q hq hA
        rw [e1, hF.2 q (by rw [h0]; exact Nat.lt_of_lt_of_le hq hS.1) hA, h0]
        exact hS.2.1 q hq hA
      · intro z hz
        rcases List.mem_append.mp hz with hz | hz
        · exact hS.2.2 z hz
        · exact hL z hz
    have hv : vx_W p l e R s m args below meth c T'.heap (locs ++ L) (0 + 1) (0 + 6) (vx_MQ below mx_N (mx_X G k h') args s 1 6 (hp_A G)) (F0 m pc ls rest) q :=
      vx_out (fun x hx => (hT x hx).elim) hlocks (by rw [e1]; exact hce) hcv hcl (fun t2 ht2 _ => ⟨hE, by rw [ht2, e1]; exact hP, hS'.F ht2⟩) hS'.2.2 (Nat.le_refl _) (Nat.le_refl _)
    obtain ⟨t2, a1, b1⟩ := hv T' rfl X'
    exact ⟨t2, st9.trans a1, b1⟩
theorem wk_callVx (X : wx G p s m args meth c cc nL own ret) (hT : ∀ x ∈ c.exceptionTable.toList, False) {RK rk mL i ci q n k : Nat} {y : MethodName} {cy : ByteArray} {ry : Option FieldType} (av rest : List Value) {stk : List Value} {h' : hp_H}
    (hd : decode cc pc = .ok (.invokevirtual i, 3)) (hs : stk = av.reverse ++ .ref q :: rest) (w : vc_ok own i y cy mL ry ci n) (hn : av.length = n) (hr : rk < RK) (hcat : (rest.map fun v => v.category).sum ≤ 8)
    (hM : cvx l rk y cy mL ry ci q av h k h') : wq p l e (mt_R RK 1 6) s m args below meth c (vx_MQ below mx_N (mx_X G k h') args s 1 6 (hp_A G)) G nL 0 0 pc lv stk h := by
  obtain ⟨C, T, N, w0, ⟨w1, w2, w3, w4, w5⟩, w6, w7, w8, w9, w10⟩ := w
  obtain ⟨⟨fs, hq⟩, hM⟩ := hM
  intro H locs ls hP hS hL
  subst hs
  have hG : GoodIn gt_tbl (wsV own i C y (Cond.code y cy mL ry :: gt_tbl)) := gt_GoodIn (fun _ h => h) (by
    intro w hw
    simp only [wsV, List.mem_append, List.mem_cons, List.not_mem_nil, or_false] at hw
    rcases hw with (rfl | rfl | rfl | rfl) | rfl | hw
    · exact w1
    · exact w2
    · exact w3
    · exact w4
    · exact w5
    · exact hw)
  have hcw : CallW (mt_R RK 1 6) s args own C i y cy mL ry (Cond.code y cy mL ry :: gt_tbl) (mt_R rk 1 6) 1 6 n := cwV n X.1.2.2.2.2 hG rfl rfl rfl ⟨w7, w8, w9, w10⟩ ⟨hr, by show 8 + (mL + 11) + 48 * rk ≤ 48 * RK; omega⟩
  have hrec := va_recv X.2.1 hP w0 (hp_w_some hq)
  have hr0 := vx_runV (l := l) (e := e) (below := below) (meth := meth) (locs := locs) (cells := 0) (slots := 0) (As := av.map (hp_v G)) (rest := hp_s G rest) (b := G.1 + q) (g := F0 m pc ls (hp_s G (av.reverse ++ .ref q :: rest))) X.1 (hM G) hcw
    ⟨hp_B.blind, hrec, fun U hU hW => ⟨rfl, hp_B_at X hP hS hU hW⟩⟩ rfl (by simpa using hn) hL.1 (by simp [hp_s, hp_v]) (by
      have h1 := hp_sum G rest
      show 2 * 0 + _ ≤ 8
      omega) hd ⟨Nat.le_refl _, Nat.le_refl _⟩
  exact wq_runX hr0 hS hT X.2.2.2.2.2
theorem wk_callSx (X : wx G p s m args meth c cc nL own ret) (hT : ∀ x ∈ c.exceptionTable.toList, False) {RK rk mL i n k : Nat} {y : MethodName} {cy : ByteArray} {ry : Option FieldType} (av rest : List Value) {stk : List Value} {h' : hp_H}
    (hd : decode cc pc = .ok (.invokestatic i, 3)) (hs : stk = av.reverse ++ rest) (w : sc_ok own i y cy mL ry n) (hn : av.length = n) (hr : rk < RK) (hcat : (rest.map fun v => v.category).sum ≤ 8)
    (hM : csx l rk y cy mL ry av h k h') : wq p l e (mt_R RK 1 6) s m args below meth c (vx_MQ below mx_N (mx_X G k h') args s 1 6 (hp_A G)) G nL 0 0 pc lv stk h := by
  obtain ⟨⟨w1, w2, w4, w5⟩, w6, w8, w9, w10⟩ := w
  intro H locs ls hP hS hL
  subst hs
  have hG : GoodIn gt_tbl (va_wsS own i y (Cond.code y cy mL ry :: gt_tbl)) := gt_GoodIn (fun _ h => h) (by
    intro w hw
    simp only [va_wsS, List.mem_append, List.mem_cons, List.not_mem_nil, or_false] at hw
    rcases hw with (rfl | rfl | rfl) | rfl | hw
    · exact w1
    · exact w2
    · exact w4
    · exact w5
    · exact hw)
  have hcw := va_cwS (R := mt_R RK 1 6) (s := s) (args := args) (ws := Cond.code y cy mL ry :: gt_tbl) (rm := mt_R rk 1 6) (mc := 1) (ms := 6) n X.1.2.2.2.2 hG rfl rfl rfl ⟨w8, w9, w10⟩ ⟨hr, by show 8 + (mL + 11) + 48 * rk ≤ 48 * RK; omega⟩
  have hr0 := vx_runS (l := l) (e := e) (below := below) (meth := meth) (locs := locs) (cells := 0) (slots := 0) (As := av.map (hp_v G)) (rest := hp_s G rest) (g := F0 m pc ls (hp_s G (av.reverse ++ rest))) X.1 (hM G) hcw
    ⟨hp_B.blind, fun U hU hW => ⟨rfl, hp_B_at X hP hS hU hW⟩⟩ rfl (by simpa using hn) hL.1 (by simp [hp_s]) (by
      have h1 := hp_sum G rest
      show 2 * 0 + _ ≤ 8
      omega) hd ⟨Nat.le_refl _, Nat.le_refl _⟩
  exact wq_runX hr0 hS hT X.2.2.2.2.2
theorem xb_cases {β : Type} {g : Option (Nat × hp_H)} {f : Option β} {F : β → Option (Nat × hp_H)} {o : Nat × hp_H} (h : xb g f F = some o) : g = some o ∨ f.bind F = some o := by
  unfold xb at h
  split at h
  · exact Or.inl h
  · exact Or.inr h
theorem wk_callVxv (X : wx G p s m args meth c cc nL own ret) (hT : ∀ x ∈ c.exceptionTable.toList, False) {RK rk mL i ci q n : Nat} {y : MethodName} {cy : ByteArray} {ry : Option FieldType} (av rest : List Value) {stk : List Value} {g : Option (Nat × hp_H)} {f : Option hp_H} {F : hp_H → Option (Nat × hp_H)}
    (hd : decode cc pc = .ok (.invokevirtual i, 3)) (hs : stk = av.reverse ++ .ref q :: rest) (w : vc_ok own i y cy mL ry ci n) (hn : av.length = n) (hr : rk < RK) (hcat : (rest.map fun v => v.category).sum ≤ 8) (hf : xb g f F = some o)
    (hX : ∀ x, g = some x → cvx l rk y cy mL ry ci q av h x.1 x.2) (hM : ∀ r, f = some r → cv l rk y cy mL ry ci q av h none r) (kk : ∀ r, F r = some o → wq p l e (mt_R RK 1 6) s m args below meth c (vx_MQ below mx_N (mx_X G o.1 o.2) args s 1 6 (hp_A G)) G nL 0 0 (pc + 3) lv rest r) : wq p l e (mt_R RK 1 6) s m args below meth c (vx_MQ below mx_N (mx_X G o.1 o.2) args s 1 6 (hp_A G)) G nL 0 0 pc lv stk h := by
  rcases xb_cases hf with h1 | h1
  · exact wk_callVx X hT av rest hd hs w hn hr hcat (hX o h1)
  · exact wk_callVv X av rest hd hs w hn hr hcat h1 hM kk
theorem wk_callSxv (X : wx G p s m args meth c cc nL own ret) (hT : ∀ x ∈ c.exceptionTable.toList, False) {RK rk mL i n : Nat} {y : MethodName} {cy : ByteArray} {ry : Option FieldType} (av rest : List Value) {stk : List Value} {g : Option (Nat × hp_H)} {f : Option hp_H} {F : hp_H → Option (Nat × hp_H)}
    (hd : decode cc pc = .ok (.invokestatic i, 3)) (hs : stk = av.reverse ++ rest) (w : sc_ok own i y cy mL ry n) (hn : av.length = n) (hr : rk < RK) (hcat : (rest.map fun v => v.category).sum ≤ 8) (hf : xb g f F = some o)
    (hX : ∀ x, g = some x → csx l rk y cy mL ry av h x.1 x.2) (hM : ∀ r, f = some r → cs l rk y cy mL ry av h none r) (kk : ∀ r, F r = some o → wq p l e (mt_R RK 1 6) s m args below meth c (vx_MQ below mx_N (mx_X G o.1 o.2) args s 1 6 (hp_A G)) G nL 0 0 (pc + 3) lv rest r) : wq p l e (mt_R RK 1 6) s m args below meth c (vx_MQ below mx_N (mx_X G o.1 o.2) args s 1 6 (hp_A G)) G nL 0 0 pc lv stk h := by
  rcases xb_cases hf with h1 | h1
  · exact wk_callSx X hT av rest hd hs w hn hr hcat (hX o h1)
  · exact wk_callSv X av rest hd hs w hn hr hcat h1 hM kk
/-- the words over 'throw new (xn k)' at entries ik (class), ic (constructor) of class own -/
def xt_ok (own : String) (ik ic k : Nat) : Prop := ∃ (ix : Nat) (rx : ByteArray), (Cond.classLink own ik (xn k) ∈ gt_tbl ∧ Cond.initialized (xn k) ∈ gt_tbl) ∧ (∀ w ∈ xs_at own ic (xn k) ix rx ["java/lang/RuntimeException", "java/lang/Exception"], (w ∈ gt_tbl ∨ w ∈ xw_tab) ∧ vx_ot w = true) ∧ decode rx 0 = .ok (.aload_n 0, 1) ∧ decode rx 1 = .ok (.aload_n 1, 1) ∧ decode rx 2 = .ok (.invokespecial ix, 3) ∧ decode rx 5 = .ok (.return_, 1)
theorem xn_fit (k : Nat) : Bundle.fit (xn k) = true := by
  match k with
  | 0 => decide +kernel
  | n + 1 => show Bundle.fit "java/lang/IllegalArgumentException" = true; decide +kernel
theorem wk_throw (X : wx G p s m args meth c cc nL own ret) (hl : l.stackTraces = false) (hT : ∀ x ∈ c.exceptionTable.toList, False) (k n len5 : Nat) {RK ik is ic : Nat} {tx : String} (hr : 6 ≤ RK) (hn : n < 25) (hj : js_at n = (own, is, tx)) (w : xt_ok own ik ic k)
    (d0 : decode cc pc = .ok (.new ik, 3)) (d3 : decode cc (pc + 3) = .ok (.dup, 1)) (d4 : decode cc (pc + 4) = .ok (.ldc is, 2) ∧ len5 = 2 ∨ decode cc (pc + 4) = .ok (.ldc_w is, 3) ∧ len5 = 3) (d6 : decode cc (pc + 4 + len5) = .ok (.invokespecial ic, 3)) (d9 : decode cc (pc + 4 + len5 + 3) = .ok (.athrow, 1))
    (hcat : (st.map fun v => v.category).sum ≤ 8) (hf : some (k, h) = some o) : wq p l e (mt_R RK 1 6) s m args below meth c (vx_MQ below mx_N (mx_X G o.1 o.2) args s 1 6 (hp_A G)) G nL 0 0 pc lv st h := by
  cases hf
  obtain ⟨ix, rx, ⟨w1, w2⟩, w3, x0, x1, x2, x5⟩ := w
  intro H locs ls hP hS hL
  have hz := X.2.2.2.1.2.1 n hn
  rw [hj] at hz
  have hxw : ∀ w ∈ xw_tab, w.before args s = true := fun w hw => va_Nw.use (xw_on w hw) (X.2.2.2.1.2.2.2.2.2.2.2.1 w hw)
  refine xs_throw (names := ["java/lang/RuntimeException", "java/lang/Exception"]) (A := hp_A G) (ix := ix) (rx := rx) X.1.1 X.1.2.1 hl X.1.2.2.2.1 (xn_fit k) (by decide +kernel) x0 x1 x2 x5 (X.1.2.2.2.2 _ w1) (X.1.2.2.2.2 _ w2) hz
    (fun w hw => (w3 w hw).1.elim (X.1.2.2.2.2 w) (hxw w)) ?_ X.2.2.2.1.2.2.1 X.2.2.2.1.2.2.2.1 hS (by rw [X.1.2.2.1]; exact hL.1) d0 d3 d4 d6 d9 (fun x hx => (hT x hx).elim) ?_ ?_ (Nat.le_refl _) (Nat.le_refl _) X.2.2.2.2.2 ?_ hS.2.2 (Nat.le_refl _) (Nat.le_refl _)
  · intro w hw
    rcases List.mem_cons.mp hw with rfl | hw
    · rfl
    · rcases List.mem_cons.mp hw with rfl | hw
      · rfl
      · exact (w3 w hw).2
  · show 2 + 3 < RK
    omega
  · have h1 := hp_sum G st
    show ((hp_s G st).map fun v => v.category).sum + (13 * (2 + 1) + 43) ≤ 48 * RK
    omega
  · intro t _ h1 h2
    refine ⟨rfl, ?_, ?_⟩
    · intro k9 q9 hk9
      have h3 := hP k9 q9 hk9
      exact h3.kept (h2 _ h3.lt)
    · refine ⟨Nat.le_trans hS.1 h1, fun q hq hA => ?_⟩
      rw [h2 q (Nat.lt_of_lt_of_le hq hS.1)]
      exact hS.2.1 q hq hA
end WX
theorem mx_of {l : Launch} {rk mL k : Nat} {y : MethodName} {cy : ByteArray} {ry : Option FieldType} {av : List Value} {lv : List (Nat × Value)} {h h' : hp_H} (hy : plainName y.cls = true) (hlen : (lg_sl av).length ≤ mL) (hlv : lv_args 0 av = lv)
    (H : ∀ (p : Program) (e : Env) (s : State) (m : MethodId) (args : Array Value) (below : List Frame) (meth : Method) (c : Code) (G : hp_G), (∀ x ∈ c.exceptionTable.toList, False) → wx G p s m args meth c cy mL y.cls ry → wq p l e (mt_R rk 1 6) s m args below meth c (vx_MQ below mx_N (mx_X G k h') args s 1 6 (hp_A G)) G mL 0 0 0 lv [] h) :
    mx l rk y (Cond.code y cy mL ry :: gt_tbl) av h k h' := by
  intro G
  refine vx_ofW (cc := cy) (maxL := mL) (ret := ry) hy rfl ?_
  intro p e s m args below meth c s₁ B hml hT hv
  obtain ⟨rfl, hP, hK, hb, hZ⟩ := hv
  have hts := atoms_spec (ws := Cond.code y cy mL ry :: gt_tbl) B.pre
  have X : wx G p s m (av.map (hp_v G)).toArray meth c cy mL y.cls ry := ⟨⟨B.exec, B.bytes, hml, findClass_of_methodNamed B.named, fun w hw => hts w (List.mem_cons_of_mem _ hw)⟩, hK, hb, hZ, B.returns, B.notSynchronized⟩
  have hl := lv_entry (av.map (hp_v G)) (n := mL) (by rw [hp_len]; exact hlen)
  rw [lg_entry_eq]
  rw [hp_args, hlv] at hl
  exact H p e s m _ below meth c G hT X s.heap [] _ hP va_S.rf hl
theorem cvx_of {l : Launch} {rk mL ci q k : Nat} {y : MethodName} {cy : ByteArray} {ry : Option FieldType} {av : List Value} {lv : List (Nat × Value)} {h h' : hp_H} {β : Type} {x : Option β} {r : β} (hg : gd h q ci x = some r) (hy : plainName y.cls = true) (hlen : (lg_sl (.ref q :: av)).length ≤ mL) (hlv : lv_args 0 (.ref q :: av) = lv)
    (H : x = some r → ∀ (p : Program) (e : Env) (s : State) (m : MethodId) (args : Array Value) (below : List Frame) (meth : Method) (c : Code) (G : hp_G), (∀ x ∈ c.exceptionTable.toList, False) → wx G p s m args meth c cy mL y.cls ry → wq p l e (mt_R rk 1 6) s m args below meth c (vx_MQ below mx_N (mx_X G k h') args s 1 6 (hp_A G)) G mL 0 0 0 lv [] h) :
    cvx l rk y cy mL ry ci q av h k h' := by
  obtain ⟨h1, h2⟩ := gd_spec hg
  exact ⟨h1, mx_of hy hlen hlv (H h2)⟩
