/-! OWN: String constants: '.float n' is the n-th, '.float (n + 25)' its byte array -/
def js_V (n : UInt32) : Option UInt32 := if n.toNat < 25 then some (n + 25) else none
def js_C (n : UInt32) : Option Int32 := if n.toNat < 25 then some 0 else none
def js_L (v : UInt32) : Option Int32 := if 25 ≤ v.toNat ∧ v.toNat < 50 then some (Int32.ofNat (js_len.getD (v.toNat - 25) 0)) else none
def js_B (v : UInt32) (i : Int32) : Option Int32 := if (25 ≤ v.toNat ∧ v.toNat < 50) ∧ ¬ (i < 0 ∨ js_len.getD (v.toNat - 25) 0 ≤ i.toNatClampNeg) then some ((js_byt.getD (v.toNat - 25) []).getD i.toNatClampNeg 0) else none
def gs {β : Type} (n : UInt32) (x : Option β) : Option β := if n.toNat < 25 then x else none
theorem gs_spec {β : Type} {n : UInt32} {x : Option β} {r : β} (h : gs n x = some r) : n.toNat < 25 ∧ x = some r := by
  unfold gs at h
  split at h
  · rename_i hn; exact ⟨hn, h⟩
  · cases h
section WT
variable {p : Program} {l : Launch} {e : Env} {R : Room} {s : State} {m : MethodId} {args : Array Value} {below : List Frame} {meth : Method} {c : Code} {Q : State → Prop}
variable {G : hp_G} {cc : ByteArray} {nL kc ks pc : Nat} {own : String} {ret : Option FieldType} {lv : List (Nat × Value)} {st : List Value} {h : hp_H} {α : Type} {o : α}
theorem hp_v25 {n : UInt32} (hn : n.toNat < 25) : hp_v G (.float (n + 25)) = .ref (G.2.1 (25 + n.toNat)) := by
  have e : (n + 25).toNat = 25 + n.toNat := by
    rw [UInt32.toNat_add]
    have : (25 : UInt32).toNat = 25 := rfl
    omega
  rw [hp_vS G (by omega), e]
theorem wk_getSV (X : wx G p s m args meth c cc nL own ret) {i : Nat} {n : UInt32} {F : UInt32 → Option α} (hd : decode cc pc = .ok (.getfield i, 3)) (hw : Cond.fieldLink own i "java/lang/String" "value" "[B" ∈ gt_tbl) (hf : (js_V n).bind F = some o) (kk : ∀ v, F v = some o → wq p l e R s m args below meth c Q G nL kc ks (pc + 3) lv (.float v :: st) h) : wq p l e R s m args below meth c Q G nL kc ks pc lv (.float n :: st) h := by
  obtain ⟨v, h1, h2⟩ := Option.bind_eq_some_iff.mp hf
  unfold js_V at h1
  split at h1
  · rename_i hn
    cases h1
    intro H locs ls hP hS hL
    have e0 : hp_s G (.float n :: st) = .ref (G.2.1 n.toNat) :: hp_s G st := by show hp_v G _ :: _ = _; rw [hp_vS G (by omega)]; rfl
    rw [e0]
    refine vk_getf X.1.1 X.1.2.1 (X.2.2.2.1.1.1 n.toNat hn).2.2.1 hS X.1.2.2.2.1 (X.1.2.2.2.2 _ hw) (fun _ hx => hx) hd ?_
    have k1 := kk _ h2 H locs ls hP hS hL
    have e1 : hp_s G (.float (n + 25) :: st) = .ref (G.2.1 (25 + n.toNat)) :: hp_s G st := by show hp_v G _ :: _ = _; rw [hp_v25 hn]; rfl
    rw [e1] at k1
    exact k1
  · cases h1
theorem wk_getSC (X : wx G p s m args meth c cc nL own ret) {i : Nat} {n : UInt32} {F : Int32 → Option α} (hd : decode cc pc = .ok (.getfield i, 3)) (hw : Cond.fieldLink own i "java/lang/String" "coder" "B" ∈ gt_tbl) (hf : (js_C n).bind F = some o) (kk : ∀ v, F v = some o → wq p l e R s m args below meth c Q G nL kc ks (pc + 3) lv (.int v :: st) h) : wq p l e R s m args below meth c Q G nL kc ks pc lv (.float n :: st) h := by
  obtain ⟨v, h1, h2⟩ := Option.bind_eq_some_iff.mp hf
  unfold js_C at h1
  split at h1
  · rename_i hn
    cases h1
    intro H locs ls hP hS hL
    have e0 : hp_s G (.float n :: st) = .ref (G.2.1 n.toNat) :: hp_s G st := by show hp_v G _ :: _ = _; rw [hp_vS G (by omega)]; rfl
    rw [e0]
    exact vk_getf X.1.1 X.1.2.1 (X.2.2.2.1.1.1 n.toNat hn).2.1 hS X.1.2.2.2.1 (X.1.2.2.2.2 _ hw) (fun _ hx => hx) hd (kk _ h2 H locs ls hP hS hL)
  · cases h1
theorem wk_getCS (X : wx G p s m args meth c cc nL own ret) {i : Nat} (hd : decode cc pc = .ok (.getstatic i, 3)) (hw : Cond.fieldLink own i "java/lang/String" "COMPACT_STRINGS" "Z" ∈ gt_tbl) (kk : wq p l e R s m args below meth c Q G nL kc ks (pc + 3) lv (.int 1 :: st) h) : wq p l e R s m args below meth c Q G nL kc ks pc lv st h :=
  fun H locs ls hP hS hL => va_gets X.1.1 X.1.2.1 X.2.2.2.1.2.2.2.2.1 hS X.1.2.2.2.1 (X.1.2.2.2.2 _ hw) (fun _ hx => hx) hd (kk H locs ls hP hS hL)
theorem wk_getSF (X : wx G p s m args meth c cc nL own ret) {i : Nat} (hd : decode cc pc = .ok (.getstatic i, 3)) (hw : Cond.fieldLink own i "jdk/internal/util/Preconditions" "SIOOBE_FORMATTER" "Ljava/util/function/BiFunction;" ∈ gt_tbl) (kk : wq p l e R s m args below meth c Q G nL kc ks (pc + 3) lv (.float 99 :: st) h) : wq p l e R s m args below meth c Q G nL kc ks pc lv st h :=
  fun H locs ls hP hS hL => va_gets X.1.1 X.1.2.1 X.2.2.2.1.2.2.2.2.2.2.1 hS X.1.2.2.2.1 (X.1.2.2.2.2 _ hw) (fun _ hx => hx) hd (kk H locs ls hP hS hL)
theorem js_25 {v : UInt32} (hv : 25 ≤ v.toNat ∧ v.toNat < 50) : G.2.1 v.toNat = (fun i => G.2.1 (25 + i)) (v.toNat - 25) := by
  show _ = G.2.1 (25 + (v.toNat - 25))
  rw [show 25 + (v.toNat - 25) = v.toNat by omega]
theorem wk_alenV (X : wx G p s m args meth c cc nL own ret) {v : UInt32} {F : Int32 → Option α} (hd : decode cc pc = .ok (.arraylength, 1)) (hf : (js_L v).bind F = some o) (kk : ∀ v, F v = some o → wq p l e R s m args below meth c Q G nL kc ks (pc + 1) lv (.int v :: st) h) : wq p l e R s m args below meth c Q G nL kc ks pc lv (.float v :: st) h := by
  obtain ⟨w, h1, h2⟩ := Option.bind_eq_some_iff.mp hf
  unfold js_L at h1
  split at h1
  · rename_i hv
    cases h1
    intro H locs ls hP hS hL
    have hT := (X.2.2.2.1.1.1 (v.toNat - 25) (by omega)).2.2.2
    rw [← js_25 hv] at hT
    have e0 : hp_s G (.float v :: st) = .ref (G.2.1 v.toNat) :: hp_s G st := by show hp_v G _ :: _ = _; rw [hp_vS G (by omega)]; rfl
    rw [e0]
    exact va_tlen X.1.1 X.1.2.1 hT hS rfl hd (kk _ h2 H locs ls hP hS hL)
  · cases h1
theorem wk_baldV (X : wx G p s m args meth c cc nL own ret) {v : UInt32} {i : Int32} {F : Int32 → Option α} (hd : decode cc pc = .ok (.baload, 1)) (hf : (js_B v i).bind F = some o) (kk : ∀ v, F v = some o → wq p l e R s m args below meth c Q G nL kc ks (pc + 1) lv (.int v :: st) h) : wq p l e R s m args below meth c Q G nL kc ks pc lv (.int i :: .float v :: st) h := by
  obtain ⟨w, h1, h2⟩ := Option.bind_eq_some_iff.mp hf
  unfold js_B at h1
  split at h1
  · rename_i hv
    cases h1
    intro H locs ls hP hS hL
    have hT := (X.2.2.2.1.1.1 (v.toNat - 25) (by omega)).2.2.2
    rw [← js_25 hv.1] at hT
    have e0 : hp_s G (.int i :: .float v :: st) = .int i :: .ref (G.2.1 v.toNat) :: hp_s G st := by show _ :: hp_v G _ :: _ = _; rw [hp_vS G (by omega)]; rfl
    rw [e0]
    exact va_tb X.1.1 X.1.2.1 hT hS hv.2 rfl hd (kk _ h2 H locs ls hP hS hL)
  · cases h1
def hp_i2b (x : Int32) : Int32 := x.toInt8.toInt32
theorem wk_i2b (X : wx G p s m args meth c cc nL own ret) {x : Int32} (hd : decode cc pc = .ok (.i2b, 1)) (k : wq p l e R s m args below meth c Q G nL kc ks (pc + 1) lv (.int (hp_i2b x) :: st) h) : wq p l e R s m args below meth c Q G nL kc ks pc lv (.int x :: st) h := fun H locs ls hP hS hL => lv_i2b X.1.1 X.1.2.1 hd rfl (k H locs ls hP hS hL)
theorem wk_creturn {x : Int32} {o : Int32 × hp_H} (X : wx G p s m args meth c cc nL own (some .char)) (hd : decode cc pc = .ok (.ireturn, 1)) (hf : (if hp_i2c x = x then some (x, h) else none) = some o) : wq p l e R s m args below meth c (MQ below (mt_Q G (some (.int o.1)) o.2) args s kc ks (hp_A G)) G nL kc ks pc lv [.int x] h := by
  split at hf
  · rename_i hb
    cases hf
    intro H locs ls hP hS hL
    refine W.zret X.1.1 X.1.2.1 X.2.2.2.2.1 ?_ (fun t ht _ => mt_Q_end X.2.2.1 hP hS ht) hS.2.2 hd X.2.2.2.2.2
    rw [← hb]; exact pk_nc x
  · cases hf
theorem wk_breturn {x : Int32} {o : Int32 × hp_H} (X : wx G p s m args meth c cc nL own (some .byte)) (hd : decode cc pc = .ok (.ireturn, 1)) (hf : (if hp_i2b x = x then some (x, h) else none) = some o) : wq p l e R s m args below meth c (MQ below (mt_Q G (some (.int o.1)) o.2) args s kc ks (hp_A G)) G nL kc ks pc lv [.int x] h := by
  split at hf
  · rename_i hb
    cases hf
    intro H locs ls hP hS hL
    refine W.zret X.1.1 X.1.2.1 X.2.2.2.2.1 ?_ (fun t ht _ => mt_Q_end X.2.2.1 hP hS ht) hS.2.2 hd X.2.2.2.2.2
    rw [← hb]; exact pk_nb x
  · cases hf
def tc_ok (own : String) (i : Nat) (y : MethodName) (cy : ByteArray) (mL : Nat) (ry : Option FieldType) (n : Nat) : Prop := (Cond.methodLink own i y ∈ gt_tbl ∧ Cond.instanceMethod y ∈ gt_tbl ∧ Cond.selects "java/lang/String" y y ∈ gt_tbl ∧ Cond.initialized "java/lang/String" ∈ gt_tbl ∧ Cond.code y cy mL ry ∈ gt_tbl) ∧ mL ≤ 29 ∧ y.cls = "java/lang/String" ∧ y.cls ≠ "java/lang/invoke/MethodHandle" ∧ y.cls ≠ "java/lang/invoke/VarHandle" ∧ (parseMethodDescriptor y.desc).map (fun d => d.parameters.length) = some n
def ct (l : Launch) (rk : Nat) (y : MethodName) (cy : ByteArray) (mL : Nat) (ry : Option FieldType) (q : UInt32) (av : List Value) (h : hp_H) (rv : Option Value) (h' : hp_H) : Prop := q.toNat < 25 ∧ mt l rk y (Cond.code y cy mL ry :: gt_tbl) (.float q :: av) h rv h'
theorem wk_callT (X : wx G p s m args meth c cc nL own ret) {RK mc ms rk mL i n : Nat} {q : UInt32} {y : MethodName} {cy : ByteArray} {ry : Option FieldType} (av rest : List Value) {stk : List Value} {rv : Option Value} {h' : hp_H}
    (hd : decode cc pc = .ok (.invokevirtual i, 3)) (hs : stk = av.reverse ++ .float q :: rest) (w : tc_ok own i y cy mL ry n) (hn : av.length = n) (hr : rk < RK) (hcat : (rest.map fun v => v.category).sum ≤ 8)
    (hM : ct l rk y cy mL ry q av h rv h') (kk : wq p l e (mt_R RK mc ms) s m args below meth c Q G nL 0 0 (pc + 3) lv (rv.toList ++ rest) h') : wq p l e (mt_R RK mc ms) s m args below meth c Q G nL 0 0 pc lv stk h := by
  obtain ⟨⟨w1, w2, w3, w4, w5⟩, w6, w7, w8, w9, w10⟩ := w
  obtain ⟨hq, hM⟩ := hM
  intro H locs ls hP hS hL
  subst hs
  have hG : GoodIn gt_tbl (wsV own i "java/lang/String" y (Cond.code y cy mL ry :: gt_tbl)) := gt_GoodIn (fun _ h => h) (by
    intro w hw
    simp only [wsV, List.mem_append, List.mem_cons, List.not_mem_nil, or_false] at hw
    rcases hw with (rfl | rfl | rfl | rfl) | rfl | hw
    · exact w1
    · exact w2
    · exact w3
    · exact w4
    · exact w5
    · exact hw)
  have hcw : CallW (mt_R RK mc ms) s args own "java/lang/String" i y cy mL ry (Cond.code y cy mL ry :: gt_tbl) (mt_R rk 0 0) 0 0 n := cwV n X.1.2.2.2.2 hG rfl rfl rfl ⟨w7, w8, w9, w10⟩ ⟨hr, by show 8 + (mL + 11) + 48 * rk ≤ 48 * RK; omega⟩
  have hrec := vk_recv X.2.2.2.1.1 hq hS
  have hqe : hp_v G (.float q) = .ref (G.2.1 q.toNat) := hp_vS G (by omega)
  have hr0 := va_runV (l := l) (e := e) (below := below) (meth := meth) (locs := locs) (cells := 0) (slots := 0) (As := av.map (hp_v G)) (rest := hp_s G rest) (b := G.2.1 q.toNat) (g := F0 m pc ls (hp_s G (av.reverse ++ .float q :: rest))) X.1 (hM G) hcw
    ⟨hp_B.blind, hrec, fun U hU hW => ⟨by rw [List.map_cons, hqe], hp_B_at X hP hS hU hW⟩⟩ rfl (by simpa using hn) hL.1 (by simp [hp_s, hqe]) (by
      have h1 := hp_sum G rest
      show 2 * 0 + _ ≤ 8
      omega) hd ⟨Nat.zero_le _, Nat.zero_le _⟩
  refine wq_run hr0 hS ?_
  intro H1 locs1 hP1 hS1
  have k1 := kk H1 locs1 ls hP1 hS1 hL
  have e1 : hp_s G (rv.toList ++ rest) = (rv.map (hp_v G)).toList ++ hp_s G rest := by cases rv <;> rfl
  rw [← e1]
  exact k1
theorem wk_callTi (X : wx G p s m args meth c cc nL own ret) {RK mc ms rk mL i n : Nat} {q : UInt32} {y : MethodName} {cy : ByteArray} {ry : Option FieldType} (av rest : List Value) {stk : List Value} {f : Option (Int32 × hp_H)} {F : Int32 × hp_H → Option α}
    (hd : decode cc pc = .ok (.invokevirtual i, 3)) (hs : stk = av.reverse ++ .float q :: rest) (w : tc_ok own i y cy mL ry n) (hn : av.length = n) (hr : rk < RK) (hcat : (rest.map fun v => v.category).sum ≤ 8) (hf : f.bind F = some o)
    (hM : ∀ r, f = some r → ct l rk y cy mL ry q av h (some (.int r.1)) r.2) (kk : ∀ r, F r = some o → wq p l e (mt_R RK mc ms) s m args below meth c Q G nL 0 0 (pc + 3) lv (.int r.1 :: rest) r.2) : wq p l e (mt_R RK mc ms) s m args below meth c Q G nL 0 0 pc lv stk h := by
  obtain ⟨r, h1, h2⟩ := Option.bind_eq_some_iff.mp hf
  exact wk_callT X av rest hd hs w hn hr hcat (hM r h1) (kk r h2)
end WT
theorem ct_of {l : Launch} {rk mL : Nat} {q : UInt32} {y : MethodName} {cy : ByteArray} {ry : Option FieldType} {av : List Value} {lv : List (Nat × Value)} {h h' : hp_H} {rv : Option Value} {β : Type} {x : Option β} {r : β} (hg : gs q x = some r) (hy : plainName y.cls = true) (hlen : (lg_sl (.float q :: av)).length ≤ mL) (hlv : lv_args 0 (.float q :: av) = lv)
    (H : x = some r → ∀ (p : Program) (e : Env) (s : State) (m : MethodId) (args : Array Value) (below : List Frame) (meth : Method) (c : Code) (G : hp_G), wx G p s m args meth c cy mL y.cls ry → wq p l e (mt_R rk 0 0) s m args below meth c (MQ below (mt_Q G rv h') args s 0 0 (hp_A G)) G mL 0 0 0 lv [] h) :
    ct l rk y cy mL ry q av h rv h' := by
  obtain ⟨h1, h2⟩ := gs_spec hg
  exact ⟨h1, mt_of hy hlen hlv (H h2)⟩
