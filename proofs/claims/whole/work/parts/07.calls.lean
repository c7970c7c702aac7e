/-! OWN: fields, arrays, calls, ends -/
section WR
variable {p : Program} {l : Launch} {e : Env} {R : Room} {s : State} {m : MethodId} {args : Array Value} {below : List Frame} {meth : Method} {c : Code} {Q : State → Prop}
variable {G : hp_G} {cc : ByteArray} {nL kc ks pc : Nat} {own : String} {ret : Option FieldType} {lv : List (Nat × Value)} {st : List Value} {h : hp_H} {α : Type} {o : α}
/-- the entry i of class own links the field k of class ci (final or not, its type) -/
def fd_ok (own : String) (i ci k : Nat) (fin : Bool) (ft : FieldType) : Prop := ∃ (C : String) (T : u_T) (N : Nat) (ty : Nat → FieldType), vwCl[ci]? = some (C, T, N) ∧ (∀ w ∈ u_ws C T N, w ∈ gt_tbl) ∧ k < N ∧ Cond.fieldLink own i (T k).1 (T k).2.1 (T k).2.2.1 ∈ gt_tbl ∧ (∀ k, k < N → parseFieldDescriptor (T k).2.2.1 = some (ty k)) ∧ (∀ a, a < N → ∀ b, b < N → a ≠ b → (T a).2.1 ≠ (T b).2.1) ∧ (T k).2.2.2 = fin ∧ ty k = ft
theorem rd_O_spec {q ci k : Nat} {v : Value} (hv : rd_O h q ci k = some v) : ∃ fs : List Value, h[q]? = some (.inr (ci, fs)) ∧ fs[k]? = some v := by
  unfold rd_O at hv
  split at hv
  · rename_i c1 fs he
    split at hv
    · rename_i hc; subst hc; exact ⟨fs, he, hv⟩
    · cases hv
  · cases hv
theorem rd_I_spec {q ci k : Nat} {v : Int32} (hv : rd_I h q ci k = some v) : rd_O h q ci k = some (.int v) := by
  unfold rd_I at hv
  split at hv
  · rename_i x he; cases hv; exact he
  · cases hv
theorem rd_R_spec {q ci k : Nat} {v : Nat} (hv : rd_R h q ci k = some v) : rd_O h q ci k = some (.ref v) := by
  unfold rd_R at hv
  split at hv
  · rename_i x he; cases hv; exact he
  · cases hv
theorem rd_J_spec {q ci k : Nat} {v : Int64} (hv : rd_J h q ci k = some v) : rd_O h q ci k = some (.long v) := by
  unfold rd_J at hv
  split at hv
  · rename_i x he; cases hv; exact he
  · cases hv
theorem wk_getO (X : wx G p s m args meth c cc nL own ret) {i q ci k : Nat} {fin : Bool} {ft : FieldType} {v : Value} (hd : decode cc pc = .ok (.getfield i, 3)) (hw : fd_ok own i ci k fin ft) (hv : rd_O h q ci k = some v) (kk : wq p l e R s m args below meth c Q G nL kc ks (pc + 3) lv (v :: st) h) : wq p l e R s m args below meth c Q G nL kc ks pc lv (.ref q :: st) h := by
  obtain ⟨C, T, N, ty, w1, w2, w3, w4, -⟩ := hw
  obtain ⟨fs, h1, h2⟩ := rd_O_spec hv
  intro H locs ls hP hS hL
  exact va_get X.1.1 X.1.2.1 X.1.2.2.2.2 w2 X.1.2.2.2.1 X.2.1 hP q (fs := fs.map (hp_v G)) (hp_w_some h1) w1 k w3 (X.1.2.2.2.2 _ w4) (fun _ hx => hx) (v := hp_v G v) (by rw [List.getElem?_map, h2]; rfl) hd (kk H locs ls hP hS hL)
theorem wk_getI (X : wx G p s m args meth c cc nL own ret) {i q ci k : Nat} {fin : Bool} {ft : FieldType} {F : Int32 → Option α} (hd : decode cc pc = .ok (.getfield i, 3)) (hw : fd_ok own i ci k fin ft) (hf : (rd_I h q ci k).bind F = some o) (kk : ∀ v, F v = some o → wq p l e R s m args below meth c Q G nL kc ks (pc + 3) lv (.int v :: st) h) : wq p l e R s m args below meth c Q G nL kc ks pc lv (.ref q :: st) h := by
  obtain ⟨v, h1, h2⟩ := Option.bind_eq_some_iff.mp hf
  exact wk_getO X hd hw (rd_I_spec h1) (kk v h2)
theorem wk_getR (X : wx G p s m args meth c cc nL own ret) {i q ci k : Nat} {fin : Bool} {ft : FieldType} {F : Nat → Option α} (hd : decode cc pc = .ok (.getfield i, 3)) (hw : fd_ok own i ci k fin ft) (hf : (rd_R h q ci k).bind F = some o) (kk : ∀ v, F v = some o → wq p l e R s m args below meth c Q G nL kc ks (pc + 3) lv (.ref v :: st) h) : wq p l e R s m args below meth c Q G nL kc ks pc lv (.ref q :: st) h := by
  obtain ⟨v, h1, h2⟩ := Option.bind_eq_some_iff.mp hf
  exact wk_getO X hd hw (rd_R_spec h1) (kk v h2)
theorem wk_getJ (X : wx G p s m args meth c cc nL own ret) {i q ci k : Nat} {fin : Bool} {ft : FieldType} {F : Int64 → Option α} (hd : decode cc pc = .ok (.getfield i, 3)) (hw : fd_ok own i ci k fin ft) (hf : (rd_J h q ci k).bind F = some o) (kk : ∀ v, F v = some o → wq p l e R s m args below meth c Q G nL kc ks (pc + 3) lv (.long v :: st) h) : wq p l e R s m args below meth c Q G nL kc ks pc lv (.ref q :: st) h := by
  obtain ⟨v, h1, h2⟩ := Option.bind_eq_some_iff.mp hf
  exact wk_getO X hd hw (rd_J_spec h1) (kk v h2)
theorem wr_O_spec {q ci k : Nat} {v : Value} {h' : hp_H} (hv : wr_O h q ci k v = some h') : ∃ fs : List Value, h[q]? = some (.inr (ci, fs)) ∧ k < fs.length ∧ h' = h.set q (.inr (ci, fs.set k v)) := by
  unfold wr_O at hv
  split at hv
  · rename_i c1 fs he
    split at hv
    · rename_i hc; obtain ⟨rfl, hl⟩ := hc; cases hv; exact ⟨fs, he, hl, rfl⟩
    · cases hv
  · cases hv
theorem wk_putO (X : wx G p s m args meth c cc nL own ret) {i q ci k : Nat} {ft : FieldType} {v : Value} {h' : hp_H} (hd : decode cc pc = .ok (.putfield i, 3)) (hw : fd_ok own i ci k false ft) (hn : narrow ft (hp_v G v) = hp_v G v) (hfit : fits ft (hp_v G v) = true) (hv : wr_O h q ci k v = some h') (kk : wq p l e R s m args below meth c Q G nL kc ks (pc + 3) lv st h') : wq p l e R s m args below meth c Q G nL kc ks pc lv (v :: .ref q :: st) h := by
  obtain ⟨C, T, N, ty, w1, w2, w3, w4, w5, w6, w7, w8⟩ := hw
  obtain ⟨fs, h1, h2, rfl⟩ := wr_O_spec hv
  subst w8
  intro H locs ls hP hS hL
  refine va_put X.1.1 X.1.2.1 X.1.2.2.2.2 w2 ty w5 w6 X.1.2.2.2.1 X.2.1 hP (hp_D G h) hS q (fs := fs.map (hp_v G)) (hp_w_some h1) w1 k w3 (X.1.2.2.2.2 _ w4) (fun _ hx => hx) w7 (w5 k w3) hn hfit (by simpa using h2) hd ?_
  intro H1 locs1 hP1 _ hS1
  refine kk H1 locs1 ls ?_ hS1 hL
  rw [hp_w_set]
  have e : hp_e G (.inr (ci, fs.set k v)) = .inr (ci, (fs.map (hp_v G)).set k (hp_v G v)) := by simp [hp_e, List.map_set]
  rw [e]
  exact hP1
theorem wk_putI (X : wx G p s m args meth c cc nL own ret) {i q ci k : Nat} {v : Int32} {F : hp_H → Option α} (hd : decode cc pc = .ok (.putfield i, 3)) (hw : fd_ok own i ci k false .int) (hf : (wr_I h q ci k v).bind F = some o) (kk : ∀ h', F h' = some o → wq p l e R s m args below meth c Q G nL kc ks (pc + 3) lv st h') : wq p l e R s m args below meth c Q G nL kc ks pc lv (.int v :: .ref q :: st) h := by
  obtain ⟨h', h1, h2⟩ := Option.bind_eq_some_iff.mp hf
  exact wk_putO X hd hw rfl rfl h1 (kk h' h2)
theorem wk_putJ (X : wx G p s m args meth c cc nL own ret) {i q ci k : Nat} {v : Int64} {F : hp_H → Option α} (hd : decode cc pc = .ok (.putfield i, 3)) (hw : fd_ok own i ci k false .long) (hf : (wr_J h q ci k v).bind F = some o) (kk : ∀ h', F h' = some o → wq p l e R s m args below meth c Q G nL kc ks (pc + 3) lv st h') : wq p l e R s m args below meth c Q G nL kc ks pc lv (.long v :: .ref q :: st) h := by
  obtain ⟨h', h1, h2⟩ := Option.bind_eq_some_iff.mp hf
  exact wk_putO X hd hw rfl rfl h1 (kk h' h2)
theorem hp_bool {v : Int32} (h : v = 0 ∨ v = 1) : narrow .boolean (.int v) = .int v := by
  rcases h with rfl | rfl <;> rfl
theorem wk_putZ (X : wx G p s m args meth c cc nL own ret) {i q ci k : Nat} {v : Int32} {F : hp_H → Option α} (hd : decode cc pc = .ok (.putfield i, 3)) (hw : fd_ok own i ci k false .boolean) (hf : (wr_Z h q ci k v).bind F = some o) (kk : ∀ h', F h' = some o → wq p l e R s m args below meth c Q G nL kc ks (pc + 3) lv st h') : wq p l e R s m args below meth c Q G nL kc ks pc lv (.int v :: .ref q :: st) h := by
  obtain ⟨h', h1, h2⟩ := Option.bind_eq_some_iff.mp hf
  unfold wr_Z at h1
  split at h1
  · rename_i hb
    exact wk_putO X hd hw (hp_bool hb) (by rcases hb with rfl | rfl <;> rfl) h1 (kk h' h2)
  · cases h1
theorem rd_A_spec {t q : Nat} {i v : Int32} (hv : rd_A h t q i = some v) : ∃ (n : Nat) (f : Nat → Int32), h[q]? = some (.inl (t, n, .inl f)) ∧ vp_in i n ∧ v = f i.toNatClampNeg := by
  unfold rd_A at hv
  split at hv
  · rename_i c1 n f he
    split at hv
    · rename_i hc; obtain ⟨rfl, hl⟩ := hc; cases hv; exact ⟨n, f, he, hl, rfl⟩
    · cases hv
  · cases hv
theorem wk_iald (X : wx G p s m args meth c cc nL own ret) {q : Nat} {i : Int32} {F : Int32 → Option α} (hd : decode cc pc = .ok (.iaload, 1)) (hf : (rd_A h 0 q i).bind F = some o) (kk : ∀ v, F v = some o → wq p l e R s m args below meth c Q G nL kc ks (pc + 1) lv (.int v :: st) h) : wq p l e R s m args below meth c Q G nL kc ks pc lv (.int i :: .ref q :: st) h := by
  obtain ⟨v, h1, h2⟩ := Option.bind_eq_some_iff.mp hf
  obtain ⟨n, f, e1, e2, rfl⟩ := rd_A_spec h1
  exact fun H locs ls hP hS hL => va_iald X.1.1 X.1.2.1 X.2.1 hP q 0 (hp_w_some e1) rfl e2 hd (kk _ h2 H locs ls hP hS hL)
theorem wk_zald (X : wx G p s m args meth c cc nL own ret) {q : Nat} {i : Int32} {F : Int32 → Option α} (hd : decode cc pc = .ok (.baload, 1)) (hf : (rd_A h 1 q i).bind F = some o) (kk : ∀ v, F v = some o → wq p l e R s m args below meth c Q G nL kc ks (pc + 1) lv (.int v :: st) h) : wq p l e R s m args below meth c Q G nL kc ks pc lv (.int i :: .ref q :: st) h := by
  obtain ⟨v, h1, h2⟩ := Option.bind_eq_some_iff.mp hf
  obtain ⟨n, f, e1, e2, rfl⟩ := rd_A_spec h1
  exact fun H locs ls hP hS hL => va_zald X.1.1 X.1.2.1 X.2.1 hP q 1 (hp_w_some e1) rfl e2 hd (kk _ h2 H locs ls hP hS hL)
theorem wk_lald (X : wx G p s m args meth c cc nL own ret) {q : Nat} {i : Int32} {F : Int64 → Option α} (hd : decode cc pc = .ok (.laload, 1)) (hf : (rd_AJ h q i).bind F = some o) (kk : ∀ v, F v = some o → wq p l e R s m args below meth c Q G nL kc ks (pc + 1) lv (.long v :: st) h) : wq p l e R s m args below meth c Q G nL kc ks pc lv (.int i :: .ref q :: st) h := by
  obtain ⟨v, h1, h2⟩ := Option.bind_eq_some_iff.mp hf
  unfold rd_AJ at h1
  split at h1
  · rename_i n f he
    split at h1
    · rename_i hl
      cases h1
      exact fun H locs ls hP hS hL => va_lald X.1.1 X.1.2.1 X.2.1 hP q 2 (hp_w_some he) rfl hl hd (kk _ h2 H locs ls hP hS hL)
    · cases h1
  · cases h1
theorem wk_alen (X : wx G p s m args meth c cc nL own ret) {q : Nat} {F : Int32 → Option α} (hd : decode cc pc = .ok (.arraylength, 1)) (hf : (rd_L h q).bind F = some o) (kk : ∀ v, F v = some o → wq p l e R s m args below meth c Q G nL kc ks (pc + 1) lv (.int v :: st) h) : wq p l e R s m args below meth c Q G nL kc ks pc lv (.ref q :: st) h := by
  obtain ⟨v, h1, h2⟩ := Option.bind_eq_some_iff.mp hf
  unfold rd_L at h1
  split at h1
  · rename_i n f he
    cases h1
    exact fun H locs ls hP hS hL => va_alen X.1.1 X.1.2.1 X.2.1 hP q 0 (hp_w_some he) (ty := .int) rfl rfl hd (kk _ h2 H locs ls hP hS hL)
  · cases h1
theorem wk_iast (X : wx G p s m args meth c cc nL own ret) {q : Nat} {i x : Int32} {F : hp_H → Option α} (hd : decode cc pc = .ok (.iastore, 1)) (hf : (wr_A h q i x).bind F = some o) (kk : ∀ h', F h' = some o → wq p l e R s m args below meth c Q G nL kc ks (pc + 1) lv st h') : wq p l e R s m args below meth c Q G nL kc ks pc lv (.int x :: .int i :: .ref q :: st) h := by
  obtain ⟨h', h1, h2⟩ := Option.bind_eq_some_iff.mp hf
  unfold wr_A at h1
  split at h1
  · rename_i n f he
    split at h1
    · rename_i hl
      cases h1
      intro H locs ls hP hS hL
      refine va_iast X.1.1 X.1.2.1 X.2.1 hP (hp_D G h) hS q 0 (hp_w_some he) rfl hl hd ?_
      intro H1 locs1 hP1 _ hS1
      refine kk _ h2 H1 locs1 ls ?_ hS1 hL
      rw [hp_w_set]
      exact hP1
    · cases h1
  · cases h1
theorem wk_zast (X : wx G p s m args meth c cc nL own ret) {q : Nat} {i x : Int32} {F : hp_H → Option α} (hd : decode cc pc = .ok (.bastore, 1)) (hf : (wr_AZ h q i x).bind F = some o) (kk : ∀ h', F h' = some o → wq p l e R s m args below meth c Q G nL kc ks (pc + 1) lv st h') : wq p l e R s m args below meth c Q G nL kc ks pc lv (.int x :: .int i :: .ref q :: st) h := by
  obtain ⟨h', h1, h2⟩ := Option.bind_eq_some_iff.mp hf
  unfold wr_AZ at h1
  split at h1
  · rename_i n f he
    split at h1
    · rename_i hl
      cases h1
      intro H locs ls hP hS hL
      refine va_zast X.1.1 X.1.2.1 X.2.1 hP (hp_D G h) hS q 1 (hp_w_some he) rfl hl hd ?_
      intro H1 locs1 hP1 _ hS1
      refine kk _ h2 H1 locs1 ls ?_ hS1 hL
      rw [hp_w_set]
      exact hP1
    · cases h1
  · cases h1
theorem wk_last (X : wx G p s m args meth c cc nL own ret) {q : Nat} {i : Int32} {x : Int64} {F : hp_H → Option α} (hd : decode cc pc = .ok (.lastore, 1)) (hf : (wr_AJ h q i x).bind F = some o) (kk : ∀ h', F h' = some o → wq p l e R s m args below meth c Q G nL kc ks (pc + 1) lv st h') : wq p l e R s m args below meth c Q G nL kc ks pc lv (.long x :: .int i :: .ref q :: st) h := by
  obtain ⟨h', h1, h2⟩ := Option.bind_eq_some_iff.mp hf
  unfold wr_AJ at h1
  split at h1
  · rename_i n f he
    split at h1
    · rename_i hl
      cases h1
      intro H locs ls hP hS hL
      refine va_last X.1.1 X.1.2.1 X.2.1 hP (hp_D G h) hS q 2 (hp_w_some he) rfl hl hd ?_
      intro H1 locs1 hP1 _ hS1
      refine kk _ h2 H1 locs1 ls ?_ hS1 hL
      rw [hp_w_set]
      exact hP1
    · cases h1
  · cases h1
/-- a receiver of class ci -/
def gd {β : Type} (h : hp_H) (q ci : Nat) (x : Option β) : Option β := match h[q]? with
  | some (.inr (c, _)) => if c = ci then x else none
  | _ => none
theorem gd_spec {β : Type} {q ci : Nat} {x : Option β} {r : β} (hg : gd h q ci x = some r) : (∃ fs : List Value, h[q]? = some (.inr (ci, fs))) ∧ x = some r := by
  unfold gd at hg
  split at hg
  · rename_i c1 fs he
    split at hg
    · rename_i hc; subst hc; exact ⟨⟨fs, he⟩, hg⟩
    · cases hg
  · cases hg
/-- the words over a call of an instance method of class ci / of a static method -/
def vc_ok (own : String) (i : Nat) (y : MethodName) (cy : ByteArray) (mL : Nat) (ry : Option FieldType) (ci n : Nat) : Prop := ∃ (C : String) (T : u_T) (N : Nat), vwCl[ci]? = some (C, T, N) ∧ (Cond.methodLink own i y ∈ gt_tbl ∧ Cond.instanceMethod y ∈ gt_tbl ∧ Cond.selects C y y ∈ gt_tbl ∧ Cond.initialized C ∈ gt_tbl ∧ Cond.code y cy mL ry ∈ gt_tbl) ∧ mL ≤ 29 ∧ y.cls = C ∧ y.cls ≠ "java/lang/invoke/MethodHandle" ∧ y.cls ≠ "java/lang/invoke/VarHandle" ∧ (parseMethodDescriptor y.desc).map (fun d => d.parameters.length) = some n
def sc_ok (own : String) (i : Nat) (y : MethodName) (cy : ByteArray) (mL : Nat) (ry : Option FieldType) (n : Nat) : Prop := (Cond.methodLink own i y ∈ gt_tbl ∧ Cond.static y ∈ gt_tbl ∧ Cond.initialized y.cls ∈ gt_tbl ∧ Cond.code y cy mL ry ∈ gt_tbl) ∧ mL ≤ 29 ∧ y.cls ≠ "java/lang/invoke/MethodHandle" ∧ y.cls ≠ "java/lang/invoke/VarHandle" ∧ (parseMethodDescriptor y.desc).map (fun d => d.parameters.length) = some n
def sn_ok (own host : String) (i : Nat) (y : MethodName) (cy : ByteArray) (mL : Nat) (ry : Option FieldType) (n : Nat) : Prop := ((own, i, y, host) ∈ nest_tab ∧ Cond.static y ∈ gt_tbl ∧ Cond.initialized y.cls ∈ gt_tbl ∧ Cond.code y cy mL ry ∈ gt_tbl) ∧ mL ≤ 29 ∧ y.cls ≠ "java/lang/invoke/MethodHandle" ∧ y.cls ≠ "java/lang/invoke/VarHandle" ∧ (parseMethodDescriptor y.desc).map (fun d => d.parameters.length) = some n
/-- an instance method's contract -/
def cv (l : Launch) (rk : Nat) (y : MethodName) (cy : ByteArray) (mL : Nat) (ry : Option FieldType) (ci q : Nat) (av : List Value) (h : hp_H) (rv : Option Value) (h' : hp_H) : Prop := (∃ fs : List Value, h[q]? = some (.inr (ci, fs))) ∧ mt l rk y (Cond.code y cy mL ry :: gt_tbl) (.ref q :: av) h rv h'
def cs (l : Launch) (rk : Nat) (y : MethodName) (cy : ByteArray) (mL : Nat) (ry : Option FieldType) (av : List Value) (h : hp_H) (rv : Option Value) (h' : hp_H) : Prop := mt l rk y (Cond.code y cy mL ry :: gt_tbl) av h rv h'
theorem hp_sum (G : hp_G) (st : List Value) : ((hp_s G st).map fun v => v.category).sum = (st.map fun v => v.category).sum := by
  induction st with
  | nil => rfl
  | cons v st ih =>
    have h1 : hp_s G (v :: st) = hp_v G v :: hp_s G st := rfl
    rw [h1, List.map_cons, List.map_cons, List.sum_cons, List.sum_cons, hp_cat, ih]
/-- behind a call -/
theorem wq_run {H : Heap} {locs : List Loc} {ls : Array Slot} {st0 rest : List Value} {a : Array Value} {rv : Option Value} {h' : hp_H}
    (hr : va_Run p l e R s m args below meth c H locs kc ks 0 0 (F0 m pc ls st0) rest (mt_Q G rv h' a) (hp_A G)) (hS : va_S (hp_A G) s.heap H locs)
    (kk : ∀ (H1 : Heap) (locs1 : List Loc), va_P G.2.2.2 vwCl (hp_w G h') H1 → va_S (hp_A G) s.heap H1 locs1 → W p l e R s m args below meth c H1 locs1 kc ks Q (F0 m (pc + 3) ls ((rv.map (hp_v G)).toList ++ rest))) : W p l e R s m args below meth c H locs kc ks Q (F0 m pc ls st0) := by
  intro T hT X
  obtain ⟨v, st0, t, T', L, e0, X', hL, e1, e2, hq, go⟩ := hr T hT X
  obtain ⟨ho, hP, hF⟩ := hq
  cases ho
  have hS' : va_S (hp_A G) s.heap T'.heap (locs ++ L) := by
    refine ⟨?_, ?_, ?_⟩
    · rw [e1]; exact Nat.le_trans hS.1 (by rw [← e0]; exact hF.1)
    · intro q hq hA
      rw [e1, hF.2 q (by rw [e0]; exact Nat.lt_of_lt_of_le hq hS.1) hA, e0]
      exact hS.2.1 q hq hA
    · intro z hz
      rcases List.mem_append.mp hz with hz | hz
      · exact hS.2.2 z hz
      · exact hL z hz
  obtain ⟨t2, a1, b1⟩ := kk T'.heap (locs ++ L) (by rw [e1]; exact hP) hS' T' rfl X'
  exact ⟨t2, go t2 a1, b1⟩
theorem hp_B_at (X : wx G p s m args meth c cc nL own ret) {H : Heap} {locs : List Loc} (hP : va_P G.2.2.2 vwCl (hp_w G h) H) (hS : va_S (hp_A G) s.heap H locs) {U : State} (hU : U.heap = H) (hW : s.WarmedH U.vm) : hp_B G h U := by
  refine ⟨by rw [hU]; exact hP, va_K.moved hW.alike X.2.1, ?_, ?_⟩
  · rw [hU]; exact Nat.le_trans X.2.2.1 hS.1
  · rw [hU]; exact hp_Z.moved hW (X.2.2.2.1.kept hS.2.1)
theorem wk_callV (X : wx G p s m args meth c cc nL own ret) {RK mc ms rk mL i ci q n : Nat} {y : MethodName} {cy : ByteArray} {ry : Option FieldType} (av rest : List Value) {stk : List Value} {rv : Option Value} {h' : hp_H}
    (hd : decode cc pc = .ok (.invokevirtual i, 3)) (hs : stk = av.reverse ++ .ref q :: rest) (w : vc_ok own i y cy mL ry ci n) (hn : av.length = n) (hr : rk < RK) (hcat : (rest.map fun v => v.category).sum ≤ 8)
    (hM : cv l rk y cy mL ry ci q av h rv h') (kk : wq p l e (mt_R RK mc ms) s m args below meth c Q G nL 0 0 (pc + 3) lv (rv.toList ++ rest) h') : wq p l e (mt_R RK mc ms) s m args below meth c Q G nL 0 0 pc lv stk h := by
  obtain ⟨C, T, N, w0, ⟨w1, w2, w3, w4, w5⟩, w6, w7, w8, w9, w10⟩ := w
  obtain ⟨⟨fs, hq⟩, hM⟩ := hM
  intro H locs ls hP hS hL
  subst hs
  have hG : GoodIn gt_tbl (wsV own i C y (Cond.code y cy mL ry :: gt_tbl)) := gt_GoodIn (fun _ h => h) (by
    intro w hw
    simp only [wsV, List.mem_append, List.mem_cons, List.not_mem_nil, or_false] at hw
    rcases hw with (rfl | rfl | rfl | rfl) | rfl | hw
    · exact w1
    · exact w2
    · exact w3
    · exact w4
    · exact w5
    · exact hw)
  have hcw : CallW (mt_R RK mc ms) s args own C i y cy mL ry (Cond.code y cy mL ry :: gt_tbl) (mt_R rk 0 0) 0 0 n := cwV n X.1.2.2.2.2 hG rfl rfl rfl ⟨w7, w8, w9, w10⟩ ⟨hr, by show 8 + (mL + 11) + 48 * rk ≤ 48 * RK; omega⟩
  have hrec := va_recv X.2.1 hP w0 (hp_w_some hq)
  have hr0 := va_runV (l := l) (e := e) (below := below) (meth := meth) (locs := locs) (cells := 0) (slots := 0) (As := av.map (hp_v G)) (rest := hp_s G rest) (b := G.1 + q) (g := F0 m pc ls (hp_s G (av.reverse ++ .ref q :: rest))) X.1 (hM G) hcw
    ⟨hp_B.blind, hrec, fun U hU hW => ⟨rfl, hp_B_at X hP hS hU hW⟩⟩ rfl (by simpa using hn) hL.1 (by simp [hp_s, hp_v]) (by
      have h1 := hp_sum G rest
      show 2 * 0 + _ ≤ 8
      omega) hd ⟨Nat.zero_le _, Nat.zero_le _⟩
  refine wq_run hr0 hS ?_
  intro H1 locs1 hP1 hS1
  have k1 := kk H1 locs1 ls hP1 hS1 hL
  have e1 : hp_s G (rv.toList ++ rest) = (rv.map (hp_v G)).toList ++ hp_s G rest := by cases rv <;> rfl
  rw [← e1]
  exact k1
theorem wk_callS (X : wx G p s m args meth c cc nL own ret) {RK mc ms rk mL i n : Nat} {y : MethodName} {cy : ByteArray} {ry : Option FieldType} (av rest : List Value) {stk : List Value} {rv : Option Value} {h' : hp_H}
    (hd : decode cc pc = .ok (.invokestatic i, 3)) (hs : stk = av.reverse ++ rest) (w : sc_ok own i y cy mL ry n) (hn : av.length = n) (hr : rk < RK) (hcat : (rest.map fun v => v.category).sum ≤ 8)
    (hM : cs l rk y cy mL ry av h rv h') (kk : wq p l e (mt_R RK mc ms) s m args below meth c Q G nL 0 0 (pc + 3) lv (rv.toList ++ rest) h') : wq p l e (mt_R RK mc ms) s m args below meth c Q G nL 0 0 pc lv stk h := by
  obtain ⟨⟨w1, w2, w4, w5⟩, w6, w8, w9, w10⟩ := w
  intro H locs ls hP hS hL
  subst hs
  have hG : GoodIn gt_tbl (va_wsS own i y (Cond.code y cy mL ry :: gt_tbl)) := gt_GoodIn (fun _ h => h) (by
    intro w hw
    simp only [va_wsS, List.mem_append, List.mem_cons, List.not_mem_nil, or_false] at hw
    rcases hw with (rfl | rfl | rfl) | rfl | hw
    · exact w1
    · exact w2
    · exact w4
    · exact w5
    · exact hw)
  have hcw := va_cwS (R := mt_R RK mc ms) (s := s) (args := args) (ws := Cond.code y cy mL ry :: gt_tbl) (rm := mt_R rk 0 0) (mc := 0) (ms := 0) n X.1.2.2.2.2 hG rfl rfl rfl ⟨w8, w9, w10⟩ ⟨hr, by show 8 + (mL + 11) + 48 * rk ≤ 48 * RK; omega⟩
  have hr0 := va_runS (l := l) (e := e) (below := below) (meth := meth) (locs := locs) (cells := 0) (slots := 0) (As := av.map (hp_v G)) (rest := hp_s G rest) (g := F0 m pc ls (hp_s G (av.reverse ++ rest))) X.1 (hM G) hcw
    ⟨hp_B.blind, fun U hU hW => ⟨rfl, hp_B_at X hP hS hU hW⟩⟩ rfl (by simpa using hn) hL.1 (by simp [hp_s]) (by
      have h1 := hp_sum G rest
      show 2 * 0 + _ ≤ 8
      omega) hd ⟨Nat.zero_le _, Nat.zero_le _⟩
  refine wq_run hr0 hS ?_
  intro H1 locs1 hP1 hS1
  have k1 := kk H1 locs1 ls hP1 hS1 hL
  have e1 : hp_s G (rv.toList ++ rest) = (rv.map (hp_v G)).toList ++ hp_s G rest := by cases rv <;> rfl
  rw [← e1]
  exact k1
/-- .. with the callee's own picture: an int, nothing, a long -/
theorem wk_callVi (X : wx G p s m args meth c cc nL own ret) {RK mc ms rk mL i ci q n : Nat} {y : MethodName} {cy : ByteArray} {ry : Option FieldType} (av rest : List Value) {stk : List Value} {f : Option (Int32 × hp_H)} {F : Int32 × hp_H → Option α}
    (hd : decode cc pc = .ok (.invokevirtual i, 3)) (hs : stk = av.reverse ++ .ref q :: rest) (w : vc_ok own i y cy mL ry ci n) (hn : av.length = n) (hr : rk < RK) (hcat : (rest.map fun v => v.category).sum ≤ 8) (hf : f.bind F = some o)
    (hM : ∀ r, f = some r → cv l rk y cy mL ry ci q av h (some (.int r.1)) r.2) (kk : ∀ r, F r = some o → wq p l e (mt_R RK mc ms) s m args below meth c Q G nL 0 0 (pc + 3) lv (.int r.1 :: rest) r.2) : wq p l e (mt_R RK mc ms) s m args below meth c Q G nL 0 0 pc lv stk h := by
  obtain ⟨r, h1, h2⟩ := Option.bind_eq_some_iff.mp hf
  exact wk_callV X av rest hd hs w hn hr hcat (hM r h1) (kk r h2)
theorem wk_callVv (X : wx G p s m args meth c cc nL own ret) {RK mc ms rk mL i ci q n : Nat} {y : MethodName} {cy : ByteArray} {ry : Option FieldType} (av rest : List Value) {stk : List Value} {f : Option hp_H} {F : hp_H → Option α}
    (hd : decode cc pc = .ok (.invokevirtual i, 3)) (hs : stk = av.reverse ++ .ref q :: rest) (w : vc_ok own i y cy mL ry ci n) (hn : av.length = n) (hr : rk < RK) (hcat : (rest.map fun v => v.category).sum ≤ 8) (hf : f.bind F = some o)
    (hM : ∀ r, f = some r → cv l rk y cy mL ry ci q av h none r) (kk : ∀ r, F r = some o → wq p l e (mt_R RK mc ms) s m args below meth c Q G nL 0 0 (pc + 3) lv rest r) : wq p l e (mt_R RK mc ms) s m args below meth c Q G nL 0 0 pc lv stk h := by
  obtain ⟨r, h1, h2⟩ := Option.bind_eq_some_iff.mp hf
  exact wk_callV X av rest hd hs w hn hr hcat (hM r h1) (kk r h2)
theorem wk_callSi (X : wx G p s m args meth c cc nL own ret) {RK mc ms rk mL i n : Nat} {y : MethodName} {cy : ByteArray} {ry : Option FieldType} (av rest : List Value) {stk : List Value} {f : Option (Int32 × hp_H)} {F : Int32 × hp_H → Option α}
    (hd : decode cc pc = .ok (.invokestatic i, 3)) (hs : stk = av.reverse ++ rest) (w : sc_ok own i y cy mL ry n) (hn : av.length = n) (hr : rk < RK) (hcat : (rest.map fun v => v.category).sum ≤ 8) (hf : f.bind F = some o)
    (hM : ∀ r, f = some r → cs l rk y cy mL ry av h (some (.int r.1)) r.2) (kk : ∀ r, F r = some o → wq p l e (mt_R RK mc ms) s m args below meth c Q G nL 0 0 (pc + 3) lv (.int r.1 :: rest) r.2) : wq p l e (mt_R RK mc ms) s m args below meth c Q G nL 0 0 pc lv stk h := by
  obtain ⟨r, h1, h2⟩ := Option.bind_eq_some_iff.mp hf
  exact wk_callS X av rest hd hs w hn hr hcat (hM r h1) (kk r h2)
theorem wk_callSj (X : wx G p s m args meth c cc nL own ret) {RK mc ms rk mL i n : Nat} {y : MethodName} {cy : ByteArray} {ry : Option FieldType} (av rest : List Value) {stk : List Value} {f : Option (Int64 × hp_H)} {F : Int64 × hp_H → Option α}
    (hd : decode cc pc = .ok (.invokestatic i, 3)) (hs : stk = av.reverse ++ rest) (w : sc_ok own i y cy mL ry n) (hn : av.length = n) (hr : rk < RK) (hcat : (rest.map fun v => v.category).sum ≤ 8) (hf : f.bind F = some o)
    (hM : ∀ r, f = some r → cs l rk y cy mL ry av h (some (.long r.1)) r.2) (kk : ∀ r, F r = some o → wq p l e (mt_R RK mc ms) s m args below meth c Q G nL 0 0 (pc + 3) lv (.long r.1 :: rest) r.2) : wq p l e (mt_R RK mc ms) s m args below meth c Q G nL 0 0 pc lv stk h := by
  obtain ⟨r, h1, h2⟩ := Option.bind_eq_some_iff.mp hf
  exact wk_callS X av rest hd hs w hn hr hcat (hM r h1) (kk r h2)
theorem wk_callSv (X : wx G p s m args meth c cc nL own ret) {RK mc ms rk mL i n : Nat} {y : MethodName} {cy : ByteArray} {ry : Option FieldType} (av rest : List Value) {stk : List Value} {f : Option hp_H} {F : hp_H → Option α}
    (hd : decode cc pc = .ok (.invokestatic i, 3)) (hs : stk = av.reverse ++ rest) (w : sc_ok own i y cy mL ry n) (hn : av.length = n) (hr : rk < RK) (hcat : (rest.map fun v => v.category).sum ≤ 8) (hf : f.bind F = some o)
    (hM : ∀ r, f = some r → cs l rk y cy mL ry av h none r) (kk : ∀ r, F r = some o → wq p l e (mt_R RK mc ms) s m args below meth c Q G nL 0 0 (pc + 3) lv rest r) : wq p l e (mt_R RK mc ms) s m args below meth c Q G nL 0 0 pc lv stk h := by
  obtain ⟨r, h1, h2⟩ := Option.bind_eq_some_iff.mp hf
  exact wk_callS X av rest hd hs w hn hr hcat (hM r h1) (kk r h2)
/-- ends -/
theorem mt_Q_end (hb : G.1 ≤ s.heap.size) {H : Heap} {locs : List Loc} {rv : Option Value} (hP : va_P G.2.2.2 vwCl (hp_w G h) H) (hS : va_S (hp_A G) s.heap H locs) {t : State} (ht : t.heap = H) : mt_Q G rv h args s (.returned (rv.map (hp_v G))) t := ⟨rfl, by rw [ht]; exact hP, hS.F ht⟩
theorem wk_ireturn {x : Int32} {o : Int32 × hp_H} (X : wx G p s m args meth c cc nL own (some .int)) (hd : decode cc pc = .ok (.ireturn, 1)) (hf : some (x, h) = some o) : wq p l e R s m args below meth c (MQ below (mt_Q G (some (.int o.1)) o.2) args s kc ks (hp_A G)) G nL kc ks pc lv [.int x] h := by
  cases hf
  intro H locs ls hP hS hL
  exact W.iret X.1.1 X.1.2.1 X.2.2.2.2.1 (fun t ht _ => mt_Q_end X.2.2.1 hP hS ht) hS.2.2 hd X.2.2.2.2.2
theorem wk_zreturn {x : Int32} {o : Int32 × hp_H} (X : wx G p s m args meth c cc nL own (some .boolean)) (hd : decode cc pc = .ok (.ireturn, 1)) (hf : (if x = 0 ∨ x = 1 then some (x, h) else none) = some o) : wq p l e R s m args below meth c (MQ below (mt_Q G (some (.int o.1)) o.2) args s kc ks (hp_A G)) G nL kc ks pc lv [.int x] h := by
  split at hf
  · rename_i hb
    cases hf
    intro H locs ls hP hS hL
    exact W.zret X.1.1 X.1.2.1 X.2.2.2.2.1 (hp_bool hb) (fun t ht _ => mt_Q_end X.2.2.1 hP hS ht) hS.2.2 hd X.2.2.2.2.2
  · cases hf
theorem wk_lreturn {x : Int64} {o : Int64 × hp_H} (X : wx G p s m args meth c cc nL own (some .long)) (hd : decode cc pc = .ok (.lreturn, 1)) (hf : some (x, h) = some o) : wq p l e R s m args below meth c (MQ below (mt_Q G (some (.long o.1)) o.2) args s kc ks (hp_A G)) G nL kc ks pc lv [.long x] h := by
  cases hf
  intro H locs ls hP hS hL
  exact W.lret X.1.1 X.1.2.1 X.2.2.2.2.1 (fun t ht _ => mt_Q_end X.2.2.1 hP hS ht) hS.2.2 hd X.2.2.2.2.2
theorem wk_return {o : hp_H} (X : wx G p s m args meth c cc nL own none) (hd : decode cc pc = .ok (.return_, 1)) (hf : some h = some o) : wq p l e R s m args below meth c (MQ below (mt_Q G none o) args s kc ks (hp_A G)) G nL kc ks pc lv [] h := by
  cases hf
  intro H locs ls hP hS hL
  exact W.vret X.1.1 X.1.2.1 X.2.2.2.2.1 (fun t ht _ => mt_Q_end X.2.2.1 hP hS ht) hS.2.2 hd X.2.2.2.2.2
end WR
theorem hp_len (G : hp_G) (vs : List Value) : (lg_sl (vs.map (hp_v G))).length = (lg_sl vs).length := by
  induction vs with
  | nil => rfl
  | cons v vs ih =>
    simp only [lg_sl, List.map_cons, List.flatMap_cons, List.length_append] at ih ⊢
    rw [ih]
    congr 1
    simp only [hp_cat]
    split <;> rfl
theorem hp_args (G : hp_G) (vs : List Value) : ∀ (i : Nat), lv_args i (vs.map (hp_v G)) = hp_l G (lv_args i vs) := by
  induction vs with
  | nil => intro i; rfl
  | cons v vs ih =>
    intro i
    simp only [List.map_cons, lv_args, hp_cat, ih]
    rfl
/-- a contract out of a body's walk -/
theorem mt_of {l : Launch} {rk mL : Nat} {y : MethodName} {cy : ByteArray} {ry : Option FieldType} {av : List Value} {lv : List (Nat × Value)} {h h' : hp_H} {rv : Option Value} (hy : plainName y.cls = true) (hlen : (lg_sl av).length ≤ mL) (hlv : lv_args 0 av = lv)
    (H : ∀ (p : Program) (e : Env) (s : State) (m : MethodId) (args : Array Value) (below : List Frame) (meth : Method) (c : Code) (G : hp_G), wx G p s m args meth c cy mL y.cls ry → wq p l e (mt_R rk 0 0) s m args below meth c (MQ below (mt_Q G rv h') args s 0 0 (hp_A G)) G mL 0 0 0 lv [] h) :
    mt l rk y (Cond.code y cy mL ry :: gt_tbl) av h rv h' := by
  intro G
  refine Met.ofW (cc := cy) (maxL := mL) (ret := ry) hy rfl ?_
  intro p e s m args below meth c s₁ B hml hv
  obtain ⟨rfl, hP, hK, hb, hZ⟩ := hv
  have hts := atoms_spec (ws := Cond.code y cy mL ry :: gt_tbl) B.pre
  have X : wx G p s m (av.map (hp_v G)).toArray meth c cy mL y.cls ry := ⟨⟨B.exec, B.bytes, hml, findClass_of_methodNamed B.named, fun w hw => hts w (List.mem_cons_of_mem _ hw)⟩, hK, hb, hZ, B.returns, B.notSynchronized⟩
  have hl := lv_entry (av.map (hp_v G)) (n := mL) (by rw [hp_len]; exact hlen)
  rw [lg_entry_eq]
  rw [hp_args, hlv] at hl
  exact H p e s m _ below meth c G X s.heap [] _ hP va_S.rf hl
theorem cv_of {l : Launch} {rk mL ci q : Nat} {y : MethodName} {cy : ByteArray} {ry : Option FieldType} {av : List Value} {lv : List (Nat × Value)} {h h' : hp_H} {rv : Option Value} {β : Type} {x : Option β} {r : β} (hg : gd h q ci x = some r) (hy : plainName y.cls = true) (hlen : (lg_sl (.ref q :: av)).length ≤ mL) (hlv : lv_args 0 (.ref q :: av) = lv)
    (H : x = some r → ∀ (p : Program) (e : Env) (s : State) (m : MethodId) (args : Array Value) (below : List Frame) (meth : Method) (c : Code) (G : hp_G), wx G p s m args meth c cy mL y.cls ry → wq p l e (mt_R rk 0 0) s m args below meth c (MQ below (mt_Q G rv h') args s 0 0 (hp_A G)) G mL 0 0 0 lv [] h) :
    cv l rk y cy mL ry ci q av h rv h' := by
  obtain ⟨h1, h2⟩ := gd_spec hg
  exact ⟨h1, mt_of hy hlen hlv (H h2)⟩
