/-! OWN: constructors: the heap grows at its end, and its size is known (wt) -/
theorem mi_Obj : Cond.instanceMethod Lib.objectInit ∈ gt_tbl := wg_ok (i := 31) (by decide +kernel)
theorem mc_Obj : Cond.code Lib.objectInit ⟨#[0xb1]⟩ 1 none ∈ gt_tbl := wg_ok (i := 32) (by decide +kernel)
theorem hp_w_push (G : hp_G) (h : hp_H) (x : hp_C) : hp_w G (h ++ [x]) = hp_w G h ++ [(G.1 + h.length, hp_e G x)] := by
  simp [hp_w, List.mapIdx_append]
def mi_Q (G : hp_G) (h : hp_H) : Array Value → State → Outcome → State → Prop := fun _ st o t => o = .returned none ∧ va_P G.2.2.2 vwCl (hp_w G h) t.heap ∧ t.heap.size = G.1 + h.length ∧ va_F (hp_A G) st t
/-- a constructor's contract -/
def mi (l : Launch) (rk mc ms : Nat) (y : MethodName) (cy : ByteArray) (mL : Nat) (av : List Value) (h h' : hp_H) : Prop :=
  ∀ G : hp_G, Met l y (Cond.code y cy mL none :: gt_tbl) (mt_R rk mc ms) (va_Pc (av.map (hp_v G)) (fun U => hp_B G h U ∧ U.heap.size = G.1 + h.length)) (mi_Q G h') mc ms (hp_A G)
theorem mi_blind {G : hp_G} {h : hp_H} {av : List Value} {n : Nat} : FrameBlind (va_Pc av (fun U => hp_B G h U ∧ U.heap.size = n)) := by
  intro a U g mk q
  obtain ⟨q0, q1, q2⟩ := q
  have := hp_B.blind (G := G) (h := h) (av := av) a U g mk ⟨q0, q1⟩
  exact ⟨this.1, this.2, q2⟩
section WC
variable {p : Program} {l : Launch} {e : Env} {R : Room} {s : State} {m : MethodId} {args : Array Value} {below : List Frame} {meth : Method} {c : Code} {Q : State → Prop}
variable {G : hp_G} {cc : ByteArray} {nL kc ks pc : Nat} {own : String} {ret : Option FieldType} {lv : List (Nat × Value)} {st : List Value} {h : hp_H} {α : Type} {o : α}
def wt (p : Program) (l : Launch) (e : Env) (R : Room) (s : State) (m : MethodId) (args : Array Value) (below : List Frame) (meth : Method) (c : Code) (Q : State → Prop) (G : hp_G) (nL kc ks : Nat) (pc : Nat) (lv : List (Nat × Value)) (st : List Value) (h : hp_H) : Prop :=
  ∀ (H : Heap) (locs : List Loc) (ls : Array Slot), H.size = G.1 + h.length → va_P G.2.2.2 vwCl (hp_w G h) H → va_S (hp_A G) s.heap H locs → lv_has ls nL (hp_l G lv) → W p l e R s m args below meth c H locs kc ks Q (F0 m pc ls (hp_s G st))
theorem wt_iconst (X : wx G p s m args meth c cc nL own ret) {n : Int} {v : Int32} (hd : decode cc pc = .ok (.iconst n, 1)) (hv : Int32.ofInt n = v) (k : wt p l e R s m args below meth c Q G nL kc ks (pc + 1) lv (.int v :: st) h) : wt p l e R s m args below meth c Q G nL kc ks pc lv st h := fun H locs ls hz hP hS hL => lv_iconst X.1.1 X.1.2.1 hd hv (k H locs ls hz hP hS hL)
theorem wt_bipush (X : wx G p s m args meth c cc nL own ret) {n : Int} {v : Int32} (hd : decode cc pc = .ok (.bipush n, 2)) (hv : (Int8.ofInt n).toInt32 = v) (k : wt p l e R s m args below meth c Q G nL kc ks (pc + 2) lv (.int v :: st) h) : wt p l e R s m args below meth c Q G nL kc ks pc lv st h := fun H locs ls hz hP hS hL => lv_bipush X.1.1 X.1.2.1 hd hv (k H locs ls hz hP hS hL)
theorem wt_sipush (X : wx G p s m args meth c cc nL own ret) {n : Int} {v : Int32} (hd : decode cc pc = .ok (.sipush n, 3)) (hv : (Int16.ofInt n).toInt32 = v) (k : wt p l e R s m args below meth c Q G nL kc ks (pc + 3) lv (.int v :: st) h) : wt p l e R s m args below meth c Q G nL kc ks pc lv st h := fun H locs ls hz hP hS hL => lv_sipush X.1.1 X.1.2.1 hd hv (k H locs ls hz hP hS hL)
theorem wt_iload_n (X : wx G p s m args meth c cc nL own ret) {f : Fin 4} {x : Int32} (hd : decode cc pc = .ok (.iload_n f, 1)) (j : Nat) (hl : lv[j]? = some ((f : Nat), .int x)) (k : wt p l e R s m args below meth c Q G nL kc ks (pc + 1) lv (.int x :: st) h) : wt p l e R s m args below meth c Q G nL kc ks pc lv st h := fun H locs ls hz hP hS hL => lv_iload_n X.1.1 X.1.2.1 hd rfl (lv_at hL j (hp_l_at G hl)) (k H locs ls hz hP hS hL)
theorem wt_aload_n (X : wx G p s m args meth c cc nL own ret) {f : Fin 4} {x : Nat} (hd : decode cc pc = .ok (.aload_n f, 1)) (j : Nat) (hl : lv[j]? = some ((f : Nat), .ref x)) (k : wt p l e R s m args below meth c Q G nL kc ks (pc + 1) lv (.ref x :: st) h) : wt p l e R s m args below meth c Q G nL kc ks pc lv st h := fun H locs ls hz hP hS hL => lv_aload_n X.1.1 X.1.2.1 hd rfl (lv_at hL j (hp_l_at G hl)) (k H locs ls hz hP hS hL)
theorem wt_dup (X : wx G p s m args meth c cc nL own ret) {a : Value} (hd : decode cc pc = .ok (.dup, 1)) (ha : a.category = 1) (k : wt p l e R s m args below meth c Q G nL kc ks (pc + 1) lv (a :: a :: st) h) : wt p l e R s m args below meth c Q G nL kc ks pc lv (a :: st) h := fun H locs ls hz hP hS hL => lv_dup X.1.1 X.1.2.1 hd (by rw [hp_cat]; exact ha) (k H locs ls hz hP hS hL)
theorem wt_getR (X : wx G p s m args meth c cc nL own ret) {i q ci k : Nat} {fin : Bool} {ft : FieldType} {F : Nat → Option α} (hd : decode cc pc = .ok (.getfield i, 3)) (hw : fd_ok own i ci k fin ft) (hf : (rd_R h q ci k).bind F = some o) (kk : ∀ v, F v = some o → wt p l e R s m args below meth c Q G nL kc ks (pc + 3) lv (.ref v :: st) h) : wt p l e R s m args below meth c Q G nL kc ks pc lv (.ref q :: st) h := by
  obtain ⟨v, g1, g2⟩ := Option.bind_eq_some_iff.mp hf
  obtain ⟨C, T, N, ty, w1, w2, w3, w4, -⟩ := hw
  obtain ⟨fs, h1, h2⟩ := rd_O_spec (rd_R_spec g1)
  intro H locs ls hz hP hS hL
  exact va_get X.1.1 X.1.2.1 X.1.2.2.2.2 w2 X.1.2.2.2.1 X.2.1 hP q (fs := fs.map (hp_v G)) (hp_w_some h1) w1 k w3 (X.1.2.2.2.2 _ w4) (fun _ hx => hx) (v := hp_v G (.ref v)) (by rw [List.getElem?_map, h2]; rfl) hd (kk v g2 H locs ls hz hP hS hL)
theorem wt_putO (X : wx G p s m args meth c cc nL own ret) {i q ci k : Nat} {ft : FieldType} {v : Value} {h' : hp_H} (hd : decode cc pc = .ok (.putfield i, 3)) (hw : fd_ok own i ci k false ft) (hn : narrow ft (hp_v G v) = hp_v G v) (hfit : fits ft (hp_v G v) = true) (hv : wr_O h q ci k v = some h') (kk : wt p l e R s m args below meth c Q G nL kc ks (pc + 3) lv st h') : wt p l e R s m args below meth c Q G nL kc ks pc lv (v :: .ref q :: st) h := by
  obtain ⟨C, T, N, ty, w1, w2, w3, w4, w5, w6, w7, w8⟩ := hw
  obtain ⟨fs, h1, h2, rfl⟩ := wr_O_spec hv
  subst w8
  intro H locs ls hz hP hS hL
  have hap := va_apart (own := own) X.1.2.2.2.2 w2 ty w5 w6 X.2.1 w1
  have he := hp_w_some (G := G) h1
  obtain ⟨r, g1, cell, q1, q2, q3, q4⟩ := hP q _ he
  have hr : r = (C, T, N) := Option.some.inj (g1.symm.trans w1)
  subst hr
  obtain ⟨hSl, hfc, kC, hkC, hkind⟩ := X.2.1.1 ci _ w1
  obtain ⟨cf, kf, fi, f, hi, hsl⟩ := hSl k w3
  have hlay := X.1.2.2.2.2 _ (w2 _ (u_in_lay w3))
  unfold u_lay at hlay
  rw [if_neg (by rw [w7]; decide)] at hlay
  have hst := (u_facts hfc hkC (u_lays X.1.2.2.2.2 w2 w3) hi).1
  have h6 := u_store hfc hkC hkind hlay hi (w5 k w3) hn hfit
  refine W.putK X.1.1 X.1.2.1 (f := f) ⟨X.1.2.2.2.1, X.1.2.2.2.2 _ w4, ⟨_, _, _, hi⟩, hst⟩ (by rw [q2]; exact h6) q1 q3 (by rw [hsl]; exact k2_hasslot (q4 k w3)) rfl rfl hd fun H' e1 e2 e3 => ?_
  rw [hsl] at e1 ⊢
  have hat : va_at G.2.2.2 vwCl (G.1 + q, .inr (ci, (fs.map (hp_v G)).set k (hp_v G v))) H' := ⟨_, w1, t_OB.to (V := updV (vp_V (fs.map (hp_v G))) k (hp_v G v)) ⟨_, e1, q2, q3, t_set q4 hap w3 (hp_v G v)⟩ (fun j _ => vp_updV_set (by simpa using h2) (hp_v G v) j)⟩
  have hP' := hP.set (hp_D G h) he hat e3
  refine kk H' _ ls (by rw [e2, hz, List.length_set]) ?_ (hS.put e2 e3 ((hp_D G h).2 q _ he)) hL
  rw [hp_w_set]
  have e9 : hp_e G (.inr (ci, fs.set k v)) = .inr (ci, (fs.map (hp_v G)).set k (hp_v G v)) := by simp [hp_e, List.map_set]
  rw [e9]
  exact hP'
theorem wt_putF (X : wx G p s m args meth c cc nL own ret) (hin2 : meth.name = "<init>") {i q ci k : Nat} {ft : FieldType} {v : Value} {h' : hp_H} (hd : decode cc pc = .ok (.putfield i, 3)) (hw : fd_ok own i ci k true ft) (hdecl : ∀ (C : String) (T : u_T) (N : Nat), vwCl[ci]? = some (C, T, N) → (T k).1 = own) (hn : narrow ft (hp_v G v) = hp_v G v) (hfit : fits ft (hp_v G v) = true) (hv : wr_O h q ci k v = some h') (kk : wt p l e R s m args below meth c Q G nL kc ks (pc + 3) lv st h') : wt p l e R s m args below meth c Q G nL kc ks pc lv (v :: .ref q :: st) h := by
  obtain ⟨C, T, N, ty, w1, w2, w3, w4, w5, w6, w7, w8⟩ := hw
  obtain ⟨fs, h1, h2, rfl⟩ := wr_O_spec hv
  subst w8
  intro H locs ls hz hP hS hL
  have hap := va_apart (own := own) X.1.2.2.2.2 w2 ty w5 w6 X.2.1 w1
  have he := hp_w_some (G := G) h1
  obtain ⟨r, g1, cell, q1, q2, q3, q4⟩ := hP q _ he
  have hr : r = (C, T, N) := Option.some.inj (g1.symm.trans w1)
  subst hr
  obtain ⟨hSl, hfc, kC, hkC, hkind⟩ := X.2.1.1 ci _ w1
  obtain ⟨cf, kf, fi, f, hi, hsl⟩ := hSl k w3
  have hlay := X.1.2.2.2.2 _ (w2 _ (u_in_lay w3))
  unfold u_lay at hlay
  rw [if_pos w7] at hlay
  have hst := (u_facts hfc hkC (u_lays X.1.2.2.2.2 w2 w3) hi).1
  have hcf : m.cls = cf := by
    obtain ⟨_, _, c', _, _, _, -, -, hf', -, -, -, hown2, -⟩ := Cond.laysFinal_spec hlay
    have e1 : c' = cf := by have := hi.symm.trans hf'; simp at this; exact this.1.symm
    rw [hdecl C T N w1] at hown2
    rw [← e1]; exact Option.some.inj (X.1.2.2.2.1.symm.trans hown2)
  have h6 := u_fits hfc hkC hkind (Or.inr hlay) hi (w5 k w3) hn hfit
  refine W.putFinK X.1.1 X.1.2.1 X.1.2.2.2.1 (X.1.2.2.2.2 _ w4) hi hst hcf hin2 (by rw [q2]; exact h6) q1 q3 (by rw [hsl]; exact k2_hasslot (q4 k w3)) rfl rfl hd fun H' e1 e2 e3 => ?_
  rw [hsl] at e1 ⊢
  have hat : va_at G.2.2.2 vwCl (G.1 + q, .inr (ci, (fs.map (hp_v G)).set k (hp_v G v))) H' := ⟨_, w1, t_OB.to (V := updV (vp_V (fs.map (hp_v G))) k (hp_v G v)) ⟨_, e1, q2, q3, t_set q4 hap w3 (hp_v G v)⟩ (fun j _ => vp_updV_set (by simpa using h2) (hp_v G v) j)⟩
  have hP' := hP.set (hp_D G h) he hat e3
  refine kk H' _ ls (by rw [e2, hz, List.length_set]) ?_ (hS.put e2 e3 ((hp_D G h).2 q _ he)) hL
  rw [hp_w_set]
  have e9 : hp_e G (.inr (ci, fs.set k v)) = .inr (ci, (fs.map (hp_v G)).set k (hp_v G v)) := by simp [hp_e, List.map_set]
  rw [e9]
  exact hP'
theorem wt_putI (X : wx G p s m args meth c cc nL own ret) {i q ci k : Nat} {v : Int32} {F : hp_H → Option α} (hd : decode cc pc = .ok (.putfield i, 3)) (hw : fd_ok own i ci k false .int) (hf : (wr_I h q ci k v).bind F = some o) (kk : ∀ h', F h' = some o → wt p l e R s m args below meth c Q G nL kc ks (pc + 3) lv st h') : wt p l e R s m args below meth c Q G nL kc ks pc lv (.int v :: .ref q :: st) h := by
  obtain ⟨h', h1, h2⟩ := Option.bind_eq_some_iff.mp hf
  exact wt_putO X hd hw rfl rfl h1 (kk h' h2)
theorem wt_putZ (X : wx G p s m args meth c cc nL own ret) {i q ci k : Nat} {v : Int32} {F : hp_H → Option α} (hd : decode cc pc = .ok (.putfield i, 3)) (hw : fd_ok own i ci k false .boolean) (hf : (wr_Z h q ci k v).bind F = some o) (kk : ∀ h', F h' = some o → wt p l e R s m args below meth c Q G nL kc ks (pc + 3) lv st h') : wt p l e R s m args below meth c Q G nL kc ks pc lv (.int v :: .ref q :: st) h := by
  obtain ⟨h', h1, h2⟩ := Option.bind_eq_some_iff.mp hf
  unfold wr_Z at h1
  split at h1
  · rename_i hb
    exact wt_putO X hd hw (hp_bool hb) (by rcases hb with rfl | rfl <;> rfl) h1 (kk h' h2)
  · cases h1
/-- a final reference -/
def wr_R (h : hp_H) (q ci k : Nat) (v : Nat) : Option hp_H := wr_O h q ci k (.ref v)
theorem wt_putR (X : wx G p s m args meth c cc nL own ret) (hin2 : meth.name = "<init>") {i q ci k v : Nat} {ft : FieldType} {F : hp_H → Option α} (hd : decode cc pc = .ok (.putfield i, 3)) (hw : fd_ok own i ci k true ft) (hdecl : ∀ (C : String) (T : u_T) (N : Nat), vwCl[ci]? = some (C, T, N) → (T k).1 = own) (hft : ∀ a : Nat, narrow ft (.ref a) = .ref a ∧ fits ft (.ref a) = true) (hf : (wr_R h q ci k v).bind F = some o) (kk : ∀ h', F h' = some o → wt p l e R s m args below meth c Q G nL kc ks (pc + 3) lv st h') : wt p l e R s m args below meth c Q G nL kc ks pc lv (.ref v :: .ref q :: st) h := by
  obtain ⟨h', h1, h2⟩ := Option.bind_eq_some_iff.mp hf
  exact wt_putF X hin2 hd hw hdecl (hft _).1 (hft _).2 h1 (kk h' h2)
theorem wt_objInit (X : wx G p s m args meth c cc nL own ret) {RK mc ms i q : Nat} (hd : decode cc pc = .ok (.invokespecial i, 3)) (hw : Cond.methodLink own i Lib.objectInit ∈ gt_tbl) (hr : 1 ≤ RK) (hcat : (st.map fun v => v.category).sum ≤ 8) (k : wt p l e (mt_R RK mc ms) s m args below meth c Q G nL kc ks (pc + 3) lv st h) : wt p l e (mt_R RK mc ms) s m args below meth c Q G nL kc ks pc lv (.ref q :: st) h := by
  intro H locs ls hz hP hS hL
  refine W.objInit X.1.1 X.1.2.1 X.1.2.2.2.1 (X.1.2.2.2.2 _ hw) (X.1.2.2.2.2 _ mi_Obj) (X.1.2.2.2.2 _ mc_Obj) rfl (by rw [X.1.2.2.1]; exact hL.1) rfl hd hr ?_ (k H locs ls hz hP hS hL)
  have h1 := hp_sum G st
  show 2 * 0 + ((hp_s G st).map fun v => v.category).sum + 12 ≤ 48 * RK
  omega
theorem wt_max (X : wx G p s m args meth c cc nL own ret) {RK mc ms i : Nat} {x y : Int32} (hd : decode cc pc = .ok (.invokestatic i, 3)) (hw : Cond.methodLink own i yJ9_max_7cf53 ∈ gt_tbl) (hr : 1 ≤ RK) (hcat : (st.map fun v => v.category).sum ≤ 8) (hcs : kc ≤ mc ∧ ks ≤ ms) (k : wt p l e (mt_R RK mc ms) s m args below meth c Q G nL kc ks (pc + 3) lv (.int (hp_max x y) :: st) h) : wt p l e (mt_R RK mc ms) s m args below meth c Q G nL kc ks pc lv (.int y :: .int x :: st) h := by
  intro H locs ls hz hP hS hL
  refine va_mmax X.1.1 X.1.2.1 (by rw [X.1.2.2.1]; exact hL.1.symm) X.1.2.2.2.1 (X.1.2.2.2.2 _ hw) (X.1.2.2.2.2 _ ms_J9_max_7cf53) (X.1.2.2.2.2 _ mk_J9) (X.1.2.2.2.2 _ mc_J9_max_7cf53) hr ?_ hcs.1 hcs.2 hd (k H locs ls hz hP hS hL)
  have h1 := hp_sum G st
  show ((hp_s G st).map fun v => v.category).sum + 13 ≤ 48 * RK
  omega
/-- the words over 'new' -/
def nw_ok (own : String) (i ci N : Nat) (fs : List Value) : Prop := ∃ (C : String) (T : u_T) (ty : Nat → FieldType), vwCl[ci]? = some (C, T, N) ∧ (∀ w ∈ u_ws C T N, w ∈ gt_tbl) ∧ (∀ k, k < N → parseFieldDescriptor (T k).2.2.1 = some (ty k)) ∧ Cond.classLink own i C ∈ gt_tbl ∧ Cond.instantiable C N ∈ gt_tbl ∧ Cond.initialized C ∈ gt_tbl ∧ (∀ j, j < N → defaultValue (ty j) = vp_V fs j) ∧ ∀ v ∈ fs, ∀ G : hp_G, hp_v G v = v
theorem wt_new (X : wx G p s m args meth c cc nL own ret) {RK mc ms i ci N : Nat} {fs : List Value} (hd : decode cc pc = .ok (.new i, 3)) (hw : nw_ok own i ci N fs) (hcs : kc + 1 ≤ mc ∧ ks + N ≤ ms) (k : wt p l e (mt_R RK mc ms) s m args below meth c Q G nL (kc + 1) (ks + N) (pc + 3) lv (.ref h.length :: st) (h ++ [.inr (ci, fs)])) : wt p l e (mt_R RK mc ms) s m args below meth c Q G nL kc ks pc lv st h := by
  obtain ⟨C, T, ty, w1, w2, w3, w4, w5, w6, w7, w8⟩ := hw
  intro H locs ls hz hP hS hL
  have hKn := X.2.1.1 ci _ w1
  refine W.newcK X.1.1 X.1.2.1 X.1.2.2.2.1 (X.1.2.2.2.2 _ w4) (X.1.2.2.2.2 _ w5) (X.1.2.2.2.2 _ w6) rfl hd hcs.1 hcs.2 hKn.2.1 hz fun H1 kC hkC e1 z1 o1 => ?_
  have hk : ∀ (k : Nat) (x : Nat × va_E), (hp_w G h)[k]? = some x → H1[x.1]? = H[x.1]? := fun k x hx => o1 x.1 (by rw [← hz]; exact (hP k x hx).lt)
  refine k H1 locs ls (by rw [z1, List.length_append]; rfl) ?_ ⟨Nat.le_trans hS.1 (by omega), fun x h1 h2 => (o1 x (by have := hS.1; omega)).trans (hS.2.1 x h1 h2), hS.2.2⟩ hL
  rw [hp_w_push]
  refine (hP.kept hk).app (fun k x hx => ?_)
  have hz0 : k < 1 := (List.getElem?_eq_some_iff.mp hx).1
  rw [show k = 0 by omega] at hx
  cases hx
  have e9 : hp_e G (.inr (ci, fs)) = .inr (ci, fs) := by
    show Sum.inr (ci, fs.map (hp_v G)) = _
    rw [List.map_congr_left (fun v hv => w8 v hv G), List.map_id']
  rw [e9]
  exact ⟨_, w1, (u_born ty X.1.2.2.2.2 w2 hKn hkC e1 w3).to w7⟩
/-- a new array of ints, booleans or longs -/
def na_C (t : Nat) (n : Nat) : hp_C := .inl (t, n, if t = 2 then .inr (.inl (fun _ => 0)) else .inl (fun _ => 0))
theorem wt_newaI (X : wx G p s m args meth c cc nL own ret) {RK mc ms N : Nat} {n : Int32} (hd : decode cc pc = .ok (.newarray .int, 2)) (hN : n.toNatClampNeg = N) (hn : ¬ n < 0) (hb : N ≤ 1000000) (hcs : kc + 1 ≤ mc ∧ ks + N ≤ ms) (k : wt p l e (mt_R RK mc ms) s m args below meth c Q G nL (kc + 1) (ks + N) (pc + 2) lv (.ref h.length :: st) (h ++ [na_C 0 N])) : wt p l e (mt_R RK mc ms) s m args below meth c Q G nL kc ks pc lv (.int n :: st) h := by
  intro H locs ls hz hP hS hL
  refine va_newaK (atype := .int) X.1.1 X.1.2.1 (X.1.2.2.2.2 _ my_int) rfl hd rfl hn hN (by show N * 4 ≤ 536870912; omega) hcs.1 hcs.2 hz fun H1 cA e1 z1 o1 hA hfc => ?_
  have hcA : cA = G.2.2.1 0 := by
    have h1 := (X.2.1.2 0 (G.2.2.1 0, .int) rfl).2
    have h2 : s.vm.findClass ("[" ++ (FieldType.int).toString) = some (G.2.2.1 0) := h1
    exact Option.some.inj (hfc.symm.trans h2)
  have hk : ∀ (k : Nat) (x : Nat × va_E), (hp_w G h)[k]? = some x → H1[x.1]? = H[x.1]? := fun k x hx => o1 x.1 (by rw [← hz]; exact (hP k x hx).lt)
  refine k H1 locs ls (by rw [z1, List.length_append]; rfl) ?_ ⟨Nat.le_trans hS.1 (by omega), fun x h1 h2 => (o1 x (by have := hS.1; omega)).trans (hS.2.1 x h1 h2), hS.2.2⟩ hL
  rw [hp_w_push]
  refine (hP.kept hk).app (fun k x hx => ?_)
  have hz0 : k < 1 := (List.getElem?_eq_some_iff.mp hx).1
  rw [show k = 0 by omega] at hx
  cases hx
  subst hcA
  exact e1
theorem wt_newaZ (X : wx G p s m args meth c cc nL own ret) {RK mc ms N : Nat} {n : Int32} (hd : decode cc pc = .ok (.newarray .boolean, 2)) (hN : n.toNatClampNeg = N) (hn : ¬ n < 0) (hb : N ≤ 1000000) (hcs : kc + 1 ≤ mc ∧ ks + N ≤ ms) (k : wt p l e (mt_R RK mc ms) s m args below meth c Q G nL (kc + 1) (ks + N) (pc + 2) lv (.ref h.length :: st) (h ++ [na_C 1 N])) : wt p l e (mt_R RK mc ms) s m args below meth c Q G nL kc ks pc lv (.int n :: st) h := by
  intro H locs ls hz hP hS hL
  refine va_newaK (atype := .boolean) X.1.1 X.1.2.1 (X.1.2.2.2.2 _ my_boolean) rfl hd rfl hn hN (by show N * 1 ≤ 536870912; omega) hcs.1 hcs.2 hz fun H1 cA e1 z1 o1 hA hfc => ?_
  have hcA : cA = G.2.2.1 1 := by
    have h1 := (X.2.1.2 1 (G.2.2.1 1, .boolean) rfl).2
    have h2 : s.vm.findClass ("[" ++ (FieldType.boolean).toString) = some (G.2.2.1 1) := h1
    exact Option.some.inj (hfc.symm.trans h2)
  have hk : ∀ (k : Nat) (x : Nat × va_E), (hp_w G h)[k]? = some x → H1[x.1]? = H[x.1]? := fun k x hx => o1 x.1 (by rw [← hz]; exact (hP k x hx).lt)
  refine k H1 locs ls (by rw [z1, List.length_append]; rfl) ?_ ⟨Nat.le_trans hS.1 (by omega), fun x h1 h2 => (o1 x (by have := hS.1; omega)).trans (hS.2.1 x h1 h2), hS.2.2⟩ hL
  rw [hp_w_push]
  refine (hP.kept hk).app (fun k x hx => ?_)
  have hz0 : k < 1 := (List.getElem?_eq_some_iff.mp hx).1
  rw [show k = 0 by omega] at hx
  cases hx
  subst hcA
  exact e1
/-- .. named: the new cell's place, the heap with it -/
def nw_O (h : hp_H) (ci : Nat) (fs : List Value) : Option (Nat × hp_H) := some (h.length, h ++ [.inr (ci, fs)])
def nw_A (h : hp_H) (t n : Nat) : Option (Nat × hp_H) := some (h.length, h ++ [na_C t n])
theorem wt_newB (X : wx G p s m args meth c cc nL own ret) {RK mc ms i ci N : Nat} {fs : List Value} {F : Nat × hp_H → Option α} (hd : decode cc pc = .ok (.new i, 3)) (hw : nw_ok own i ci N fs) (hcs : kc + 1 ≤ mc ∧ ks + N ≤ ms) (hf : (nw_O h ci fs).bind F = some o) (k : ∀ r, F r = some o → wt p l e (mt_R RK mc ms) s m args below meth c Q G nL (kc + 1) (ks + N) (pc + 3) lv (.ref r.1 :: st) r.2) : wt p l e (mt_R RK mc ms) s m args below meth c Q G nL kc ks pc lv st h := wt_new X hd hw hcs (k (h.length, h ++ [Sum.inr (ci, fs)]) (show F (h.length, h ++ [Sum.inr (ci, fs)]) = some o from hf))
theorem wt_newaIB (X : wx G p s m args meth c cc nL own ret) {RK mc ms N : Nat} {n : Int32} {F : Nat × hp_H → Option α} (hd : decode cc pc = .ok (.newarray .int, 2)) (hN : n.toNatClampNeg = N) (hn : ¬ n < 0) (hb : N ≤ 1000000) (hcs : kc + 1 ≤ mc ∧ ks + N ≤ ms) (hf : (nw_A h 0 N).bind F = some o) (k : ∀ r, F r = some o → wt p l e (mt_R RK mc ms) s m args below meth c Q G nL (kc + 1) (ks + N) (pc + 2) lv (.ref r.1 :: st) r.2) : wt p l e (mt_R RK mc ms) s m args below meth c Q G nL kc ks pc lv (.int n :: st) h := wt_newaI X hd hN hn hb hcs (k (h.length, h ++ [na_C 0 N]) (show F (h.length, h ++ [na_C 0 N]) = some o from hf))
theorem wt_newaZB (X : wx G p s m args meth c cc nL own ret) {RK mc ms N : Nat} {n : Int32} {F : Nat × hp_H → Option α} (hd : decode cc pc = .ok (.newarray .boolean, 2)) (hN : n.toNatClampNeg = N) (hn : ¬ n < 0) (hb : N ≤ 1000000) (hcs : kc + 1 ≤ mc ∧ ks + N ≤ ms) (hf : (nw_A h 1 N).bind F = some o) (k : ∀ r, F r = some o → wt p l e (mt_R RK mc ms) s m args below meth c Q G nL (kc + 1) (ks + N) (pc + 2) lv (.ref r.1 :: st) r.2) : wt p l e (mt_R RK mc ms) s m args below meth c Q G nL kc ks pc lv (.int n :: st) h := wt_newaZ X hd hN hn hb hcs (k (h.length, h ++ [na_C 1 N]) (show F (h.length, h ++ [na_C 1 N]) = some o from hf))
/-- a constructor is called -/
def ic_ok (own : String) (i : Nat) (y : MethodName) (cy : ByteArray) (mL n : Nat) : Prop := ((Cond.methodLink own i y ∈ gt_tbl ∨ ∃ host, (own, i, y, host) ∈ nest_tab) ∧ Cond.instanceMethod y ∈ gt_tbl ∧ Cond.initialized y.cls ∈ gt_tbl ∧ Cond.code y cy mL none ∈ gt_tbl) ∧ mL ≤ 29 ∧ y.name = "<init>" ∧ y.cls ≠ "java/lang/invoke/MethodHandle" ∧ y.cls ≠ "java/lang/invoke/VarHandle" ∧ (parseMethodDescriptor y.desc).map (fun d => d.parameters.length) = some n
theorem wt_run {H : Heap} {locs : List Loc} {ls : Array Slot} {st0 rest : List Value} {a : Array Value} {h' : hp_H} {mc ms : Nat}
    (hr : va_Run p l e R s m args below meth c H locs kc ks mc ms (F0 m pc ls st0) rest (mi_Q G h' a) (hp_A G)) (hS : va_S (hp_A G) s.heap H locs)
    (kk : ∀ (H1 : Heap) (locs1 : List Loc), H1.size = G.1 + h'.length → va_P G.2.2.2 vwCl (hp_w G h') H1 → va_S (hp_A G) s.heap H1 locs1 → W p l e R s m args below meth c H1 locs1 (kc + mc) (ks + ms) Q (F0 m (pc + 3) ls rest)) : W p l e R s m args below meth c H locs kc ks Q (F0 m pc ls st0) := by
  intro T hT X
  obtain ⟨v, st0, t, T', L, e0, X', hL, e1, e2, hq, go⟩ := hr T hT X
  obtain ⟨ho, hP, hz, hF⟩ := hq
  cases ho
  have hS' : va_S (hp_A G) s.heap T'.heap (locs ++ L) := by
    refine ⟨?_, ?_, ?_⟩
    · rw [e1]; exact Nat.le_trans hS.1 (by rw [← e0]; exact hF.1)
    · intro q hq hA
      rw [e1, hF.2 q (by rw [e0]; exact Nat.lt_of_lt_of_le hq hS.1) hA, e0]
      exact hS.2.1 q hq hA
    · intro z hz
      rcases List.mem_append.mp hz with hz | hz
      · exact hS.2.2 z hz
      · exact hL z hz
  obtain ⟨t2, a1, b1⟩ := kk T'.heap (locs ++ L) (by rw [e1]; exact hz) (by rw [e1]; exact hP) hS' T' rfl X'
  exact ⟨t2, go t2 a1, b1⟩
theorem wt_callI (X : wx G p s m args meth c cc nL own ret) {RK MC MS rk mL i q n mc ms : Nat} {y : MethodName} {cy : ByteArray} (av rest : List Value) {stk : List Value} {h' : hp_H}
    (hd : decode cc pc = .ok (.invokespecial i, 3)) (hs : stk = av.reverse ++ .ref q :: rest) (w : ic_ok own i y cy mL n) (hn : av.length = n) (hr : rk < RK) (hcat : (rest.map fun v => v.category).sum ≤ 8) (hcs : kc + mc ≤ MC ∧ ks + ms ≤ MS)
    (hM : mi l rk mc ms y cy mL (.ref q :: av) h h') (kk : wt p l e (mt_R RK MC MS) s m args below meth c Q G nL (kc + mc) (ks + ms) (pc + 3) lv rest h') : wt p l e (mt_R RK MC MS) s m args below meth c Q G nL kc ks pc lv stk h := by
  obtain ⟨⟨w1, w2, w4, w5⟩, w6, w7, w8, w9, w10⟩ := w
  intro H locs ls hz hP hS hL
  subst hs
  have hG : GoodIn gt_tbl (Cond.code y cy mL none :: gt_tbl) := gt_GoodIn (fun _ h => h) (by
    intro w hw
    rcases List.mem_cons.mp hw with rfl | hw
    · exact w5
    · exact hw)
  have hst : (F0 m pc ls (hp_s G (av.reverse ++ .ref q :: rest))).stack = (av.map (hp_v G)).reverse ++ .ref (G.1 + q) :: hp_s G rest := by simp [hp_s, hp_v]
  have hw8 : 2 * (F0 m pc ls (hp_s G (av.reverse ++ .ref q :: rest))).monitorRoom + ((hp_s G rest).map fun v => v.category).sum ≤ 8 := by
    have h1 := hp_sum G rest
    show 2 * 0 + _ ≤ 8
    omega
  have hpre : PreS s H (va_Pc ((.ref q :: av).map (hp_v G)) (fun U => hp_B G h U ∧ U.heap.size = G.1 + h.length)) (.ref (G.1 + q) :: av.map (hp_v G)) := ⟨mi_blind, fun U hU hW => ⟨rfl, hp_B_at X hP hS hU hW, by rw [hU]; exact hz⟩⟩
  have hroom : (mt_R rk mc ms).frames + 1 ≤ (mt_R RK MC MS).frames ∧ 8 + (mL + 11) + (mt_R rk mc ms).locals ≤ (mt_R RK MC MS).locals := ⟨hr, by show 8 + (mL + 11) + 48 * rk ≤ 48 * RK; omega⟩
  have hr0 : va_Run p l e (mt_R RK MC MS) s m args below meth c H locs kc ks mc ms (F0 m pc ls (hp_s G (av.reverse ++ .ref q :: rest))) (hp_s G rest) (mi_Q G h' (Value.ref (G.1 + q) :: av.map (hp_v G)).toArray) (hp_A G) := by
    rcases w1 with w1 | ⟨host, w1⟩
    · exact va_runI X.1 (hM G) (cwI n X.1.2.2.2.2 hG rfl rfl rfl (X.1.2.2.2.2 _ w4) (X.1.2.2.2.2 _ w1) (X.1.2.2.2.2 _ w2) w7 ⟨w8, w9, w10⟩ hroom) hpre rfl (by simpa using hn) hL.1 hst hw8 hd hcs
    · exact va_runIN X.1 (hM G) ⟨va_cnB n X.1.2.2.2.2 hG rfl rfl rfl (X.2.2.2.1.2.2.2.2.2.1 _ w1) (X.1.2.2.2.2 _ w4) ⟨w8, w9, w10⟩ hroom, w7, X.1.2.2.2.2 _ w2⟩ hpre rfl (by simpa using hn) hL.1 hst hw8 hd hcs
  refine wt_run hr0 hS ?_
  intro H1 locs1 hz1 hP1 hS1
  exact kk H1 locs1 ls hz1 hP1 hS1 hL
theorem wt_callIv (X : wx G p s m args meth c cc nL own ret) {RK MC MS rk mL i q n mc ms : Nat} {y : MethodName} {cy : ByteArray} (av rest : List Value) {stk : List Value} {f : Option hp_H} {F : hp_H → Option α}
    (hd : decode cc pc = .ok (.invokespecial i, 3)) (hs : stk = av.reverse ++ .ref q :: rest) (w : ic_ok own i y cy mL n) (hn : av.length = n) (hr : rk < RK) (hcat : (rest.map fun v => v.category).sum ≤ 8) (hcs : kc + mc ≤ MC ∧ ks + ms ≤ MS) (hf : f.bind F = some o)
    (hM : ∀ r, f = some r → mi l rk mc ms y cy mL (.ref q :: av) h r) (kk : ∀ r, F r = some o → wt p l e (mt_R RK MC MS) s m args below meth c Q G nL (kc + mc) (ks + ms) (pc + 3) lv rest r) : wt p l e (mt_R RK MC MS) s m args below meth c Q G nL kc ks pc lv stk h := by
  obtain ⟨r, h1, h2⟩ := Option.bind_eq_some_iff.mp hf
  exact wt_callI X av rest hd hs w hn hr hcat hcs (hM r h1) (kk r h2)
theorem wt_eq {kc' ks' : Nat} (h1 : kc = kc') (h2 : ks = ks') (k : wt p l e R s m args below meth c Q G nL kc' ks' pc lv st h) : wt p l e R s m args below meth c Q G nL kc ks pc lv st h := by subst h1; subst h2; exact k
theorem wt_return {o : hp_H} (X : wx G p s m args meth c cc nL own none) (hd : decode cc pc = .ok (.return_, 1)) (hf : some h = some o) : wt p l e R s m args below meth c (MQ below (mi_Q G o) args s kc ks (hp_A G)) G nL kc ks pc lv [] h := by
  cases hf
  intro H locs ls hz hP hS hL
  exact W.vret X.1.1 X.1.2.1 X.2.2.2.2.1 (fun t ht _ => ⟨rfl, by rw [ht]; exact hP, by rw [ht]; exact hz, hS.F ht⟩) hS.2.2 hd X.2.2.2.2.2
end WC
theorem mi_of {l : Launch} {rk mL mc ms : Nat} {y : MethodName} {cy : ByteArray} {av : List Value} {lv : List (Nat × Value)} {h h' : hp_H} (hy : plainName y.cls = true) (hyn : y.name = "<init>") (hlen : (lg_sl av).length ≤ mL) (hlv : lv_args 0 av = lv)
    (H : ∀ (p : Program) (e : Env) (s : State) (m : MethodId) (args : Array Value) (below : List Frame) (meth : Method) (c : Code) (G : hp_G), meth.name = "<init>" → wx G p s m args meth c cy mL y.cls none → wt p l e (mt_R rk mc ms) s m args below meth c (MQ below (mi_Q G h') args s mc ms (hp_A G)) G mL 0 0 0 lv [] h) :
    mi l rk mc ms y cy mL av h h' := by
  intro G
  refine Met.ofW (cc := cy) (maxL := mL) (ret := none) hy rfl ?_
  intro p e s m args below meth c s₁ B hml hv
  obtain ⟨rfl, ⟨hP, hK, hb, hZ⟩, hz⟩ := hv
  have hts := atoms_spec (ws := Cond.code y cy mL none :: gt_tbl) B.pre
  have X : wx G p s m (av.map (hp_v G)).toArray meth c cy mL y.cls none := ⟨⟨B.exec, B.bytes, hml, findClass_of_methodNamed B.named, fun w hw => hts w (List.mem_cons_of_mem _ hw)⟩, hK, hb, hZ, B.returns, B.notSynchronized⟩
  have hname : meth.name = "<init>" := by rw [(name_of_methodNamed B.named B.method).1]; exact hyn
  have hl := lv_entry (av.map (hp_v G)) (n := mL) (by rw [hp_len]; exact hlen)
  rw [lg_entry_eq]
  rw [hp_args, hlv] at hl
  exact H p e s m _ below meth c G hname X s.heap [] _ hz hP va_S.rf hl
