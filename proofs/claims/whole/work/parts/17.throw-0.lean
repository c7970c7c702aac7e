section Sf_X10_needWithin
variable {p : Program} {l : Launch} {e : Env} {s : State} {m : MethodId} {args : Array Value} {below : List Frame} {meth : Method} {c : Code} {G : hp_G} {o : hp_H}
def f_X10_needWithin_10  (h : hp_H) : Option (hp_H) := none
set_option maxRecDepth 20000 in
theorem w_X10_needWithin_10 (X : wx G p s m args meth c cX10_needWithin 3 RX10 none)  (h : hp_H) (hf : f_X10_needWithin_10 h = some o) : wq p l e (mt_R (7) 0 0) s m args below meth c (MQ below (mt_Q G none o) args s 0 0 (hp_A G)) G 3 0 0 10 [] [] h := by
  unfold f_X10_needWithin_10 at hf
  exact nomatch hf
end Sf_X10_needWithin
def f_X10_needWithin (x0 : Int32) (x1 : Int32) (x2 : Int32) (h : hp_H) : Option (hp_H) := if x0 < x1 then (f_X10_needWithin_10 h) else (if x0 ≤ x2 then (some h) else (f_X10_needWithin_10 h))
set_option maxRecDepth 20000 in
theorem c_X10_needWithin (l : Launch) (x0 : Int32) (x1 : Int32) (x2 : Int32) (h : hp_H) (r : hp_H) (hf : f_X10_needWithin x0 x1 x2 h = some r) : cs l 7 yX10_needWithin cX10_needWithin 3 none [.int x0, .int x1, .int x2] h none r := by
  unfold f_X10_needWithin at hf
  refine mt_of (lv := [(0, .int x0), (1, .int x1), (2, .int x2)]) (by decide +kernel) (Nat.le_of_ble_eq_true rfl) rfl (fun p e s m args below meth c G X => ?_)
  refine wk_iload_n X dX10_needWithin_0 0 rfl ?_
  refine wk_iload_n X dX10_needWithin_1 1 rfl ?_
  refine wk_icmp_lt X 10 dX10_needWithin_2 (by decide) hf (fun hf => ?_) (fun hf => ?_)
  · exact wq_sub [] rfl (w_X10_needWithin_10 X _ hf)
  · refine wk_iload_n X dX10_needWithin_5 0 rfl ?_
    refine wk_iload_n X dX10_needWithin_6 2 rfl ?_
    refine wk_icmp_le X 21 dX10_needWithin_7 (by decide) hf (fun hf => ?_) (fun hf => ?_)
    · exact wk_return X dX10_needWithin_21 hf
    · exact wq_sub [] rfl (w_X10_needWithin_10 X _ hf)
section Sg_X10_needWithin
variable {p : Program} {l : Launch} {e : Env} {s : State} {m : MethodId} {args : Array Value} {below : List Frame} {meth : Method} {c : Code} {G : hp_G} {o : Nat × hp_H}
def g_X10_needWithin_10  (h : hp_H) : Option (Nat × hp_H) := some (1, h)
set_option maxRecDepth 20000 in
theorem v_X10_needWithin_10 (X : wx G p s m args meth c cX10_needWithin 3 RX10 none) (hl : l.stackTraces = false) (hT : ∀ x ∈ c.exceptionTable.toList, False)  (h : hp_H) (hf : g_X10_needWithin_10 h = some o) : wq p l e (mt_R (7) 1 6) s m args below meth c (vx_MQ below mx_N (mx_X G o.1 o.2) args s 1 6 (hp_A G)) G 3 0 0 10 [] [] h := by
  unfold g_X10_needWithin_10 at hf
  exact wk_throw X hl hT 1 23 3 (by decide) (by decide) rfl xo_X10_94_98 dX10_needWithin_10 dX10_needWithin_13 (Or.inr ⟨dX10_needWithin_14, rfl⟩) dX10_needWithin_17 dX10_needWithin_20 (Nat.le_of_ble_eq_true rfl) hf
end Sg_X10_needWithin
def g_X10_needWithin (x0 : Int32) (x1 : Int32) (x2 : Int32) (h : hp_H) : Option (Nat × hp_H) := if x0 < x1 then (g_X10_needWithin_10 h) else (if x0 ≤ x2 then (none) else (g_X10_needWithin_10 h))
set_option maxRecDepth 20000 in
theorem x_X10_needWithin (l : Launch) (hl : l.stackTraces = false) (x0 : Int32) (x1 : Int32) (x2 : Int32) (h : hp_H) (r : Nat × hp_H) (hf : g_X10_needWithin x0 x1 x2 h = some r) : csx l (7) yX10_needWithin cX10_needWithin 3 none [.int x0, .int x1, .int x2] h r.1 r.2 := by
  unfold g_X10_needWithin at hf
  refine mx_of (lv := [(0, .int x0), (1, .int x1), (2, .int x2)]) (by decide +kernel) (Nat.le_of_ble_eq_true rfl) rfl (fun p e s m args below meth c G hT X => ?_)
  refine wk_iload_n X dX10_needWithin_0 0 rfl ?_
  refine wk_iload_n X dX10_needWithin_1 1 rfl ?_
  refine wk_icmp_lt X 10 dX10_needWithin_2 (by decide) hf (fun hf => ?_) (fun hf => ?_)
  · exact wq_sub [] rfl (v_X10_needWithin_10 X hl hT _ hf)
  · refine wk_iload_n X dX10_needWithin_5 0 rfl ?_
    refine wk_iload_n X dX10_needWithin_6 2 rfl ?_
    refine wk_icmp_le X 21 dX10_needWithin_7 (by decide) hf (fun hf => ?_) (fun hf => ?_)
    · exact nomatch hf
    · exact wq_sub [] rfl (v_X10_needWithin_10 X hl hT _ hf)
section Sf_X10_alike
variable {p : Program} {l : Launch} {e : Env} {s : State} {m : MethodId} {args : Array Value} {below : List Frame} {meth : Method} {c : Code} {G : hp_G} {o : Int32 × hp_H}
def f_X10_alike_65 (x3 : Int32) (h : hp_H) : Option (Int32 × hp_H) := some (x3, h)
set_option maxRecDepth 20000 in
theorem w_X10_alike_65 (X : wx G p s m args meth c cX10_alike 5 RX10 (some .int)) (x3 : Int32) (h : hp_H) (hf : f_X10_alike_65 x3 h = some o) : wq p l e (mt_R (8) 0 0) s m args below meth c (MQ below (mt_Q G (some (.int o.1)) o.2) args s 0 0 (hp_A G)) G 5 0 0 65 [(3, .int x3)] [] h := by
  unfold f_X10_alike_65 at hf
  refine wk_iload_n X dX10_alike_65 0 rfl ?_
  exact wk_ireturn X dX10_alike_66 hf
def f_X10_alike_59 (k26 : Nat → Int32 → Int32 → Int32 → Int32 → hp_H → Option (Int32 × hp_H)) (x0 : Nat) (x1 : Int32) (x2 : Int32) (x3 : Int32) (x4 : Int32) (h : hp_H) : Option (Int32 × hp_H) := k26 x0 x1 x2 x3 (x4 + 1) h
set_option maxRecDepth 20000 in
theorem w_X10_alike_59 (X : wx G p s m args meth c cX10_alike 5 RX10 (some .int)) (k26 : Nat → Int32 → Int32 → Int32 → Int32 → hp_H → Option (Int32 × hp_H)) (hk26 : ∀ (x0 : Nat) (x1 : Int32) (x2 : Int32) (x3 : Int32) (x4 : Int32) (h : hp_H), k26 x0 x1 x2 x3 x4 h = some o → wq p l e (mt_R (8) 0 0) s m args below meth c (MQ below (mt_Q G (some (.int o.1)) o.2) args s 0 0 (hp_A G)) G 5 0 0 26 [(0, .ref x0), (1, .int x1), (2, .int x2), (3, .int x3), (4, .int x4)] [] h) (x0 : Nat) (x1 : Int32) (x2 : Int32) (x3 : Int32) (x4 : Int32) (h : hp_H) (hf : f_X10_alike_59 k26 x0 x1 x2 x3 x4 h = some o) : wq p l e (mt_R (8) 0 0) s m args below meth c (MQ below (mt_Q G (some (.int o.1)) o.2) args s 0 0 (hp_A G)) G 5 0 0 59 [(0, .ref x0), (1, .int x1), (2, .int x2), (3, .int x3), (4, .int x4)] [] h := by
  unfold f_X10_alike_59 at hf
  refine wk_iinc (lv' := [(4, .int (x4 + 1)), (0, .ref x0), (1, .int x1), (2, .int x2), (3, .int x3)]) X dX10_alike_59 4 rfl ic_1 (by decide) rfl ?_
  refine wk_goto X 26 dX10_alike_62 (by decide) ?_
  exact wq_sub [1, 2, 3, 4, 0] rfl (hk26 _ _ _ _ _ _ hf)
def f_X10_alike_26 (k26 : Nat → Int32 → Int32 → Int32 → Int32 → hp_H → Option (Int32 × hp_H)) (x0 : Nat) (x1 : Int32) (x2 : Int32) (x3 : Int32) (x4 : Int32) (h : hp_H) : Option (Int32 × hp_H) := (rd_R h x0 10 4).bind fun v1 => (rd_I h v1 1 1).bind fun v2 => if v2 ≤ x4 then (f_X10_alike_65 x3 h) else ((rd_R h x0 10 8).bind fun v3 => (f_X3_farFrom v3 x4 x1 h).bind fun r4 => if r4.1 = x2 then (f_X10_alike_59 k26 x0 x1 x2 (x3 ||| (1 <<< (x4 &&& 31))) x4 r4.2) else (f_X10_alike_59 k26 x0 x1 x2 x3 x4 r4.2))
set_option maxRecDepth 20000 in
theorem w_X10_alike_26 (X : wx G p s m args meth c cX10_alike 5 RX10 (some .int)) (k26 : Nat → Int32 → Int32 → Int32 → Int32 → hp_H → Option (Int32 × hp_H)) (hk26 : ∀ (x0 : Nat) (x1 : Int32) (x2 : Int32) (x3 : Int32) (x4 : Int32) (h : hp_H), k26 x0 x1 x2 x3 x4 h = some o → wq p l e (mt_R (8) 0 0) s m args below meth c (MQ below (mt_Q G (some (.int o.1)) o.2) args s 0 0 (hp_A G)) G 5 0 0 26 [(0, .ref x0), (1, .int x1), (2, .int x2), (3, .int x3), (4, .int x4)] [] h) (x0 : Nat) (x1 : Int32) (x2 : Int32) (x3 : Int32) (x4 : Int32) (h : hp_H) (hf : f_X10_alike_26 k26 x0 x1 x2 x3 x4 h = some o) : wq p l e (mt_R (8) 0 0) s m args below meth c (MQ below (mt_Q G (some (.int o.1)) o.2) args s 0 0 (hp_A G)) G 5 0 0 26 [(0, .ref x0), (1, .int x1), (2, .int x2), (3, .int x3), (4, .int x4)] [] h := by
  unfold f_X10_alike_26 at hf
  refine wk_iload X dX10_alike_26 4 rfl ?_
  refine wk_aload_n X dX10_alike_28 0 rfl ?_
  refine wk_getR X dX10_alike_29 fo_X10_31 hf (fun v1 hf => ?_)
  refine wk_getI X dX10_alike_32 fo_X10_138 hf (fun v2 hf => ?_)
  refine wk_icmp_ge X 65 dX10_alike_35 (by decide) hf (fun hf => ?_) (fun hf => ?_)
  · exact wq_sub [3] rfl (w_X10_alike_65 X _ _ hf)
  · refine wk_aload_n X dX10_alike_38 0 rfl ?_
    refine wk_getR X dX10_alike_39 fo_X10_55 hf (fun v3 hf => ?_)
    refine wk_iload X dX10_alike_42 4 rfl ?_
    refine wk_iload_n X dX10_alike_44 1 rfl ?_
    refine wk_callVi X [.int x4, .int x1] [] dX10_alike_45 rfl vo_X10_259 rfl (by decide) (Nat.le_of_ble_eq_true rfl) hf (c_X3_farFrom l _ _ _ _) (fun r4 hf => ?_)
    refine wk_iload_n X dX10_alike_48 2 rfl ?_
    refine wk_icmp_ne X 59 dX10_alike_49 (by decide) hf (fun hf => ?_) (fun hf => ?_)
    · exact wq_sub [0, 1, 2, 3, 4] rfl (w_X10_alike_59 X k26 hk26 _ _ _ _ _ _ hf)
    · refine wk_iload_n X dX10_alike_52 3 rfl ?_
      refine wk_iconst X dX10_alike_53 ic_1 ?_
      refine wk_iload X dX10_alike_54 4 rfl ?_
      refine wk_ishl X dX10_alike_56 ?_
      refine wk_ior X dX10_alike_57 ?_
      refine wk_istore_n (lv' := [(3, .int (x3 ||| (1 <<< (x4 &&& 31)))), (0, .ref x0), (1, .int x1), (2, .int x2), (4, .int x4)]) X dX10_alike_58 (by decide) rfl ?_
      exact wq_sub [1, 2, 3, 0, 4] rfl (w_X10_alike_59 X k26 hk26 _ _ _ _ _ _ hf)
def l_X10_alike_26 (x0 : Nat) (x1 : Int32) (x2 : Int32) (x3 : Int32) (x4 : Int32) (h : hp_H) : Option (Int32 × hp_H) := lp (fun k (s : Nat × Int32 × Int32 × Int32 × Int32 × hp_H) => f_X10_alike_26  (fun a0 a1 a2 a3 a4 a5 => k (a0, a1, a2, a3, a4, a5)) s.1 s.2.1 s.2.2.1 s.2.2.2.1 s.2.2.2.2.1 s.2.2.2.2.2) 100000 (x0, x1, x2, x3, x4, h)
theorem wl_X10_alike_26 (X : wx G p s m args meth c cX10_alike 5 RX10 (some .int)) (x0 : Nat) (x1 : Int32) (x2 : Int32) (x3 : Int32) (x4 : Int32) (h : hp_H) (hf : l_X10_alike_26 x0 x1 x2 x3 x4 h = some o) : wq p l e (mt_R (8) 0 0) s m args below meth c (MQ below (mt_Q G (some (.int o.1)) o.2) args s 0 0 (hp_A G)) G 5 0 0 26 [(0, .ref x0), (1, .int x1), (2, .int x2), (3, .int x3), (4, .int x4)] [] h :=
  lp_ind (P := fun (s_ : Nat × Int32 × Int32 × Int32 × Int32 × hp_H) => wq p l e (mt_R (8) 0 0) s m args below meth c (MQ below (mt_Q G (some (.int o.1)) o.2) args s 0 0 (hp_A G)) G 5 0 0 26 [(0, .ref s_.1), (1, .int s_.2.1), (2, .int s_.2.2.1), (3, .int s_.2.2.2.1), (4, .int s_.2.2.2.2.1)] [] s_.2.2.2.2.2) (fun k s hk hf => w_X10_alike_26 X  (fun a0 a1 a2 a3 a4 a5 => k (a0, a1, a2, a3, a4, a5)) (fun a0 a1 a2 a3 a4 a5 hf => hk (a0, a1, a2, a3, a4, a5) hf) s.1 s.2.1 s.2.2.1 s.2.2.2.1 s.2.2.2.2.1 s.2.2.2.2.2 hf) 100000 (x0, x1, x2, x3, x4, h) hf
end Sf_X10_alike
def f_X10_alike (x0 : Nat) (x1 : Int32) (h : hp_H) : Option (Int32 × hp_H) := gd h x0 10 ((rd_R h x0 10 4).bind fun v1 => (f_X1_allBeats v1 h).bind fun r2 => (f_X10_needWithin x1 0 r2.1 r2.2).bind fun r3 => (rd_R r3 x0 10 8).bind fun v4 => (f_X3_leastFar v4 x1 r3).bind fun r5 => l_X10_alike_26 x0 x1 r5.1 0 0 r5.2)
set_option maxRecDepth 20000 in
theorem c_X10_alike (l : Launch) (x0 : Nat) (x1 : Int32) (h : hp_H) (r : Int32 × hp_H) (hf : f_X10_alike x0 x1 h = some r) : cv l (8) yX10_alike cX10_alike 5 (some .int) 10 x0 [.int x1] h (some (.int r.1)) r.2 := by
  unfold f_X10_alike at hf
  refine cv_of (lv := [(0, .ref x0), (1, .int x1)]) hf (by decide +kernel) (Nat.le_of_ble_eq_true rfl) rfl (fun hf p e s m args below meth c G X => ?_)
  refine wk_iload_n X dX10_alike_0 1 rfl ?_
  refine wk_iconst X dX10_alike_1 ic_0 ?_
  refine wk_aload_n X dX10_alike_2 0 rfl ?_
  refine wk_getR X dX10_alike_3 fo_X10_31 hf (fun v1 hf => ?_)
  refine wk_callVi X [] [.int 0, .int x1] dX10_alike_6 rfl vo_X10_273 rfl (by decide) (Nat.le_of_ble_eq_true rfl) hf (c_X1_allBeats l _ _) (fun r2 hf => ?_)
  refine wk_callSv X [.int x1, .int 0, .int r2.1] [] dX10_alike_9 rfl vo_X10_237 rfl (by decide) (Nat.le_of_ble_eq_true rfl) hf (c_X10_needWithin l _ _ _ _) (fun r3 hf => ?_)
  refine wk_aload_n X dX10_alike_12 0 rfl ?_
  refine wk_getR X dX10_alike_13 fo_X10_55 hf (fun v4 hf => ?_)
  refine wk_iload_n X dX10_alike_16 1 rfl ?_
  refine wk_callVi X [.int x1] [] dX10_alike_17 rfl vo_X10_270 rfl (by decide) (Nat.le_of_ble_eq_true rfl) hf (c_X3_leastFar l _ _ _) (fun r5 hf => ?_)
  refine wk_istore_n (lv' := [(2, .int r5.1), (0, .ref x0), (1, .int x1)]) X dX10_alike_20 (by decide) rfl ?_
  refine wk_iconst X dX10_alike_21 ic_0 ?_
  refine wk_istore_n (lv' := [(3, .int 0), (2, .int r5.1), (0, .ref x0), (1, .int x1)]) X dX10_alike_22 (by decide) rfl ?_
  refine wk_iconst X dX10_alike_23 ic_0 ?_
  refine wk_istore (lv' := [(4, .int 0), (3, .int 0), (2, .int r5.1), (0, .ref x0), (1, .int x1)]) X dX10_alike_24 (by decide) rfl ?_
  exact wq_sub [3, 4, 2, 1, 0] rfl (wl_X10_alike_26 X _ _ _ _ _ _ hf)
section Sg_X10_alike
variable {p : Program} {l : Launch} {e : Env} {s : State} {m : MethodId} {args : Array Value} {below : List Frame} {meth : Method} {c : Code} {G : hp_G} {o : Nat × hp_H}
end Sg_X10_alike
def g_X10_alike (x0 : Nat) (x1 : Int32) (h : hp_H) : Option (Nat × hp_H) := gd h x0 10 ((rd_R h x0 10 4).bind fun v1 => (f_X1_allBeats v1 h).bind fun r2 => xb (g_X10_needWithin x1 0 r2.1 r2.2) (f_X10_needWithin x1 0 r2.1 r2.2) fun r3 => none)
set_option maxRecDepth 20000 in
theorem x_X10_alike (l : Launch) (hl : l.stackTraces = false) (x0 : Nat) (x1 : Int32) (h : hp_H) (r : Nat × hp_H) (hf : g_X10_alike x0 x1 h = some r) : cvx l (8) yX10_alike cX10_alike 5 (some .int) 10 x0 [.int x1] h r.1 r.2 := by
  unfold g_X10_alike at hf
  refine cvx_of (lv := [(0, .ref x0), (1, .int x1)]) hf (by decide +kernel) (Nat.le_of_ble_eq_true rfl) rfl (fun hf p e s m args below meth c G hT X => ?_)
  refine wk_iload_n X dX10_alike_0 1 rfl ?_
  refine wk_iconst X dX10_alike_1 ic_0 ?_
  refine wk_aload_n X dX10_alike_2 0 rfl ?_
  refine wk_getR X dX10_alike_3 fo_X10_31 hf (fun v1 hf => ?_)
  refine wk_callVi X [] [.int 0, .int x1] dX10_alike_6 rfl vo_X10_273 rfl (by decide) (Nat.le_of_ble_eq_true rfl) hf (c_X1_allBeats l _ _) (fun r2 hf => ?_)
  refine wk_callSxv X hT [.int x1, .int 0, .int r2.1] [] dX10_alike_9 rfl vo_X10_237 rfl (by decide) (Nat.le_of_ble_eq_true rfl) hf (x_X10_needWithin l hl _ _ _ _) (c_X10_needWithin l _ _ _ _) (fun r3 hf => ?_)
  exact nomatch hf
section Sf_X10_apart
variable {p : Program} {l : Launch} {e : Env} {s : State} {m : MethodId} {args : Array Value} {below : List Frame} {meth : Method} {c : Code} {G : hp_G} {o : Int32 × hp_H}
def f_X10_apart_53 (x2 : Int32) (h : hp_H) : Option (Int32 × hp_H) := some (x2, h)
set_option maxRecDepth 20000 in
theorem w_X10_apart_53 (X : wx G p s m args meth c cX10_apart 4 RX10 (some .int)) (x2 : Int32) (h : hp_H) (hf : f_X10_apart_53 x2 h = some o) : wq p l e (mt_R (8) 0 0) s m args below meth c (MQ below (mt_Q G (some (.int o.1)) o.2) args s 0 0 (hp_A G)) G 4 0 0 53 [(2, .int x2)] [] h := by
  unfold f_X10_apart_53 at hf
  refine wk_iload_n X dX10_apart_53 0 rfl ?_
  exact wk_ireturn X dX10_apart_54 hf
def f_X10_apart_47 (k11 : Nat → Int32 → Int32 → Int32 → hp_H → Option (Int32 × hp_H)) (x0 : Nat) (x1 : Int32) (x2 : Int32) (x3 : Int32) (h : hp_H) : Option (Int32 × hp_H) := k11 x0 x1 x2 (x3 + 1) h
set_option maxRecDepth 20000 in
theorem w_X10_apart_47 (X : wx G p s m args meth c cX10_apart 4 RX10 (some .int)) (k11 : Nat → Int32 → Int32 → Int32 → hp_H → Option (Int32 × hp_H)) (hk11 : ∀ (x0 : Nat) (x1 : Int32) (x2 : Int32) (x3 : Int32) (h : hp_H), k11 x0 x1 x2 x3 h = some o → wq p l e (mt_R (8) 0 0) s m args below meth c (MQ below (mt_Q G (some (.int o.1)) o.2) args s 0 0 (hp_A G)) G 4 0 0 11 [(0, .ref x0), (1, .int x1), (2, .int x2), (3, .int x3)] [] h) (x0 : Nat) (x1 : Int32) (x2 : Int32) (x3 : Int32) (h : hp_H) (hf : f_X10_apart_47 k11 x0 x1 x2 x3 h = some o) : wq p l e (mt_R (8) 0 0) s m args below meth c (MQ below (mt_Q G (some (.int o.1)) o.2) args s 0 0 (hp_A G)) G 4 0 0 47 [(0, .ref x0), (1, .int x1), (2, .int x2), (3, .int x3)] [] h := by
  unfold f_X10_apart_47 at hf
  refine wk_iinc (lv' := [(3, .int (x3 + 1)), (0, .ref x0), (1, .int x1), (2, .int x2)]) X dX10_apart_47 3 rfl ic_1 (by decide) rfl ?_
  refine wk_goto X 11 dX10_apart_50 (by decide) ?_
  exact wq_sub [1, 2, 3, 0] rfl (hk11 _ _ _ _ _ hf)
def f_X10_apart_11 (k11 : Nat → Int32 → Int32 → Int32 → hp_H → Option (Int32 × hp_H)) (x0 : Nat) (x1 : Int32) (x2 : Int32) (x3 : Int32) (h : hp_H) : Option (Int32 × hp_H) := (rd_R h x0 10 4).bind fun v1 => (f_X1_allMen v1 h).bind fun r2 => if r2.1 < x3 then (f_X10_apart_53 x2 r2.2) else ((f_J6_bitCount_0f7a4 x3 r2.2).bind fun r3 => (f_J6_bitCount_0f7a4 x2 r3.2).bind fun r4 => if r3.1 ≤ r4.1 then (f_X10_apart_47 k11 x0 x1 x2 x3 r4.2) else ((rd_R r4.2 x0 10 8).bind fun v5 => (f_X3_isToldApart v5 x3 x1 r4.2).bind fun r6 => if r6.1 = 0 then (f_X10_apart_47 k11 x0 x1 x2 x3 r6.2) else (f_X10_apart_47 k11 x0 x1 x3 x3 r6.2)))
set_option maxRecDepth 20000 in
theorem w_X10_apart_11 (X : wx G p s m args meth c cX10_apart 4 RX10 (some .int)) (k11 : Nat → Int32 → Int32 → Int32 → hp_H → Option (Int32 × hp_H)) (hk11 : ∀ (x0 : Nat) (x1 : Int32) (x2 : Int32) (x3 : Int32) (h : hp_H), k11 x0 x1 x2 x3 h = some o → wq p l e (mt_R (8) 0 0) s m args below meth c (MQ below (mt_Q G (some (.int o.1)) o.2) args s 0 0 (hp_A G)) G 4 0 0 11 [(0, .ref x0), (1, .int x1), (2, .int x2), (3, .int x3)] [] h) (x0 : Nat) (x1 : Int32) (x2 : Int32) (x3 : Int32) (h : hp_H) (hf : f_X10_apart_11 k11 x0 x1 x2 x3 h = some o) : wq p l e (mt_R (8) 0 0) s m args below meth c (MQ below (mt_Q G (some (.int o.1)) o.2) args s 0 0 (hp_A G)) G 4 0 0 11 [(0, .ref x0), (1, .int x1), (2, .int x2), (3, .int x3)] [] h := by
  unfold f_X10_apart_11 at hf
  refine wk_iload_n X dX10_apart_11 3 rfl ?_
  refine wk_aload_n X dX10_apart_12 0 rfl ?_
  refine wk_getR X dX10_apart_13 fo_X10_31 hf (fun v1 hf => ?_)
  refine wk_callVi X [] [.int x3] dX10_apart_16 rfl vo_X10_253 rfl (by decide) (Nat.le_of_ble_eq_true rfl) hf (c_X1_allMen l _ _) (fun r2 hf => ?_)
  refine wk_icmp_gt X 53 dX10_apart_19 (by decide) hf (fun hf => ?_) (fun hf => ?_)
  · exact wq_sub [2] rfl (w_X10_apart_53 X _ _ hf)
  · refine wk_iload_n X dX10_apart_22 3 rfl ?_
    refine wk_callSi X [.int x3] [] dX10_apart_23 rfl vo_X10_262 rfl (by decide) (Nat.le_of_ble_eq_true rfl) hf (c_J6_bitCount_0f7a4 l _ _) (fun r3 hf => ?_)
    refine wk_iload_n X dX10_apart_26 2 rfl ?_
    refine wk_callSi X [.int x2] [.int r3.1] dX10_apart_27 rfl vo_X10_262 rfl (by decide) (Nat.le_of_ble_eq_true rfl) hf (c_J6_bitCount_0f7a4 l _ _) (fun r4 hf => ?_)
    refine wk_icmp_le X 47 dX10_apart_30 (by decide) hf (fun hf => ?_) (fun hf => ?_)
    · exact wq_sub [0, 1, 2, 3] rfl (w_X10_apart_47 X k11 hk11 _ _ _ _ _ hf)
    · refine wk_aload_n X dX10_apart_33 0 rfl ?_
      refine wk_getR X dX10_apart_34 fo_X10_55 hf (fun v5 hf => ?_)
      refine wk_iload_n X dX10_apart_37 3 rfl ?_
      refine wk_iload_n X dX10_apart_38 1 rfl ?_
      refine wk_callVi X [.int x3, .int x1] [] dX10_apart_39 rfl vo_X10_267 rfl (by decide) (Nat.le_of_ble_eq_true rfl) hf (c_X3_isToldApart l _ _ _ _) (fun r6 hf => ?_)
      refine wk_if_eq X 47 dX10_apart_42 (by decide) hf (fun hf => ?_) (fun hf => ?_)
      · exact wq_sub [0, 1, 2, 3] rfl (w_X10_apart_47 X k11 hk11 _ _ _ _ _ hf)
      · refine wk_iload_n X dX10_apart_45 3 rfl ?_
        refine wk_istore_n (lv' := [(2, .int x3), (0, .ref x0), (1, .int x1), (3, .int x3)]) X dX10_apart_46 (by decide) rfl ?_
        exact wq_sub [1, 2, 0, 3] rfl (w_X10_apart_47 X k11 hk11 _ _ _ _ _ hf)
def l_X10_apart_11 (x0 : Nat) (x1 : Int32) (x2 : Int32) (x3 : Int32) (h : hp_H) : Option (Int32 × hp_H) := lp (fun k (s : Nat × Int32 × Int32 × Int32 × hp_H) => f_X10_apart_11  (fun a0 a1 a2 a3 a4 => k (a0, a1, a2, a3, a4)) s.1 s.2.1 s.2.2.1 s.2.2.2.1 s.2.2.2.2) 100000 (x0, x1, x2, x3, h)
theorem wl_X10_apart_11 (X : wx G p s m args meth c cX10_apart 4 RX10 (some .int)) (x0 : Nat) (x1 : Int32) (x2 : Int32) (x3 : Int32) (h : hp_H) (hf : l_X10_apart_11 x0 x1 x2 x3 h = some o) : wq p l e (mt_R (8) 0 0) s m args below meth c (MQ below (mt_Q G (some (.int o.1)) o.2) args s 0 0 (hp_A G)) G 4 0 0 11 [(0, .ref x0), (1, .int x1), (2, .int x2), (3, .int x3)] [] h :=
  lp_ind (P := fun (s_ : Nat × Int32 × Int32 × Int32 × hp_H) => wq p l e (mt_R (8) 0 0) s m args below meth c (MQ below (mt_Q G (some (.int o.1)) o.2) args s 0 0 (hp_A G)) G 4 0 0 11 [(0, .ref s_.1), (1, .int s_.2.1), (2, .int s_.2.2.1), (3, .int s_.2.2.2.1)] [] s_.2.2.2.2) (fun k s hk hf => w_X10_apart_11 X  (fun a0 a1 a2 a3 a4 => k (a0, a1, a2, a3, a4)) (fun a0 a1 a2 a3 a4 hf => hk (a0, a1, a2, a3, a4) hf) s.1 s.2.1 s.2.2.1 s.2.2.2.1 s.2.2.2.2 hf) 100000 (x0, x1, x2, x3, h) hf
end Sf_X10_apart
def f_X10_apart (x0 : Nat) (x1 : Int32) (h : hp_H) : Option (Int32 × hp_H) := gd h x0 10 ((f_X10_needWithin x1 1 12 h).bind fun r1 => l_X10_apart_11 x0 x1 0 1 r1)
set_option maxRecDepth 20000 in
theorem c_X10_apart (l : Launch) (x0 : Nat) (x1 : Int32) (h : hp_H) (r : Int32 × hp_H) (hf : f_X10_apart x0 x1 h = some r) : cv l (8) yX10_apart cX10_apart 4 (some .int) 10 x0 [.int x1] h (some (.int r.1)) r.2 := by
  unfold f_X10_apart at hf
  refine cv_of (lv := [(0, .ref x0), (1, .int x1)]) hf (by decide +kernel) (Nat.le_of_ble_eq_true rfl) rfl (fun hf p e s m args below meth c G X => ?_)
  refine wk_iload_n X dX10_apart_0 1 rfl ?_
  refine wk_iconst X dX10_apart_1 ic_1 ?_
  refine wk_bipush X dX10_apart_2 ib_12 ?_
  refine wk_callSv X [.int x1, .int 1, .int 12] [] dX10_apart_4 rfl vo_X10_237 rfl (by decide) (Nat.le_of_ble_eq_true rfl) hf (c_X10_needWithin l _ _ _ _) (fun r1 hf => ?_)
  refine wk_iconst X dX10_apart_7 ic_0 ?_
  refine wk_istore_n (lv' := [(2, .int 0), (0, .ref x0), (1, .int x1)]) X dX10_apart_8 (by decide) rfl ?_
  refine wk_iconst X dX10_apart_9 ic_1 ?_
  refine wk_istore_n (lv' := [(3, .int 1), (2, .int 0), (0, .ref x0), (1, .int x1)]) X dX10_apart_10 (by decide) rfl ?_
  exact wq_sub [2, 3, 1, 0] rfl (wl_X10_apart_11 X _ _ _ _ _ hf)
section Sg_X10_apart
variable {p : Program} {l : Launch} {e : Env} {s : State} {m : MethodId} {args : Array Value} {below : List Frame} {meth : Method} {c : Code} {G : hp_G} {o : Nat × hp_H}
end Sg_X10_apart
def g_X10_apart (x0 : Nat) (x1 : Int32) (h : hp_H) : Option (Nat × hp_H) := gd h x0 10 (xb (g_X10_needWithin x1 1 12 h) (f_X10_needWithin x1 1 12 h) fun r1 => none)
set_option maxRecDepth 20000 in
theorem x_X10_apart (l : Launch) (hl : l.stackTraces = false) (x0 : Nat) (x1 : Int32) (h : hp_H) (r : Nat × hp_H) (hf : g_X10_apart x0 x1 h = some r) : cvx l (8) yX10_apart cX10_apart 4 (some .int) 10 x0 [.int x1] h r.1 r.2 := by
  unfold g_X10_apart at hf
  refine cvx_of (lv := [(0, .ref x0), (1, .int x1)]) hf (by decide +kernel) (Nat.le_of_ble_eq_true rfl) rfl (fun hf p e s m args below meth c G hT X => ?_)
  refine wk_iload_n X dX10_apart_0 1 rfl ?_
  refine wk_iconst X dX10_apart_1 ic_1 ?_
  refine wk_bipush X dX10_apart_2 ib_12 ?_
  refine wk_callSxv X hT [.int x1, .int 1, .int 12] [] dX10_apart_4 rfl vo_X10_237 rfl (by decide) (Nat.le_of_ble_eq_true rfl) hf (x_X10_needWithin l hl _ _ _ _) (c_X10_needWithin l _ _ _ _) (fun r1 hf => ?_)
  exact nomatch hf
section Sf_X10_army
variable {p : Program} {l : Launch} {e : Env} {s : State} {m : MethodId} {args : Array Value} {below : List Frame} {meth : Method} {c : Code} {G : hp_G} {o : Int32 × hp_H}
def f_X10_army_12  (h : hp_H) : Option (Int32 × hp_H) := none
set_option maxRecDepth 20000 in
theorem w_X10_army_12 (X : wx G p s m args meth c cX10_army 3 RX10 (some .int))  (h : hp_H) (hf : f_X10_army_12 h = some o) : wq p l e (mt_R (79) 0 0) s m args below meth c (MQ below (mt_Q G (some (.int o.1)) o.2) args s 0 0 (hp_A G)) G 3 0 0 12 [] [] h := by
  unfold f_X10_army_12 at hf
  exact nomatch hf
end Sf_X10_army
def f_X10_army (x0 : Nat) (x1 : Int32) (h : hp_H) : Option (Int32 × hp_H) := gd h x0 10 (if x1 < 0 then (f_X10_army_12 h) else ((rd_I h x0 10 1).bind fun v1 => if x1 ≤ v1 then ((rd_R h x0 10 10).bind fun v2 => (f_X5_readArmy v2 x1 h).bind fun r3 => (wr_I r3.2 x0 10 1 0).bind fun h4 => (rd_R h4 x0 10 10).bind fun v5 => (rd_I h4 v5 5 3).bind fun v6 => (wr_I h4 x0 10 2 v6).bind fun h7 => if r3.1 = 0 then ((rd_R h7 x0 10 4).bind fun v8 => (rd_R h7 x0 10 10).bind fun v9 => (rd_R h7 v9 5 0).bind fun v10 => (f_X1_copyFrom v8 v10 h7).bind fun r11 => (rd_R r11 x0 10 8).bind fun v12 => (rd_R r11 x0 10 10).bind fun v13 => (rd_R r11 v13 5 1).bind fun v14 => (f_X3_copyFrom v12 v14 r11).bind fun r15 => (rd_R r15 x0 10 5).bind fun v16 => (rd_R r15 v16 8 1).bind fun v17 => (wr_I r15 v17 0 4 0).bind fun h18 => (rd_R h18 x0 10 5).bind fun v19 => (rd_R h18 v19 8 2).bind fun v20 => (wr_I h18 v20 7 4 0).bind fun h21 => (wr_Z h21 x0 10 7 0).bind fun h22 => some (0, h22)) else ((f_X10_refuse x0 0 h7).bind fun r23 => some (r3.1, r23))) else (f_X10_army_12 h)))
set_option maxRecDepth 20000 in
theorem c_X10_army (l : Launch) (x0 : Nat) (x1 : Int32) (h : hp_H) (r : Int32 × hp_H) (hf : f_X10_army x0 x1 h = some r) : cv l (79) yX10_army cX10_army 3 (some .int) 10 x0 [.int x1] h (some (.int r.1)) r.2 := by
  unfold f_X10_army at hf
  refine cv_of (lv := [(0, .ref x0), (1, .int x1)]) hf (by decide +kernel) (Nat.le_of_ble_eq_true rfl) rfl (fun hf p e s m args below meth c G X => ?_)
  refine wk_iload_n X dX10_army_0 1 rfl ?_
  refine wk_if_lt X 12 dX10_army_1 (by decide) hf (fun hf => ?_) (fun hf => ?_)
  · exact wq_sub [] rfl (w_X10_army_12 X _ hf)
  · refine wk_iload_n X dX10_army_4 1 rfl ?_
    refine wk_aload_n X dX10_army_5 0 rfl ?_
    refine wk_getI X dX10_army_6 fo_X10_18 hf (fun v1 hf => ?_)
    refine wk_icmp_le X 22 dX10_army_9 (by decide) hf (fun hf => ?_) (fun hf => ?_)
    · refine wk_aload_n X dX10_army_22 0 rfl ?_
      refine wk_getR X dX10_army_23 fo_X10_67 hf (fun v2 hf => ?_)
      refine wk_iload_n X dX10_army_26 1 rfl ?_
      refine wk_callVi X [.int x1] [] dX10_army_27 rfl vo_X10_101 rfl (by decide) (Nat.le_of_ble_eq_true rfl) hf (c_X5_readArmy l _ _ _) (fun r3 hf => ?_)
      refine wk_istore_n (lv' := [(2, .int r3.1), (0, .ref x0), (1, .int x1)]) X dX10_army_30 (by decide) rfl ?_
      refine wk_aload_n X dX10_army_31 1 rfl ?_
      refine wk_iconst X dX10_army_32 ic_0 ?_
      refine wk_putI X dX10_army_33 fo_X10_18 hf (fun h4 hf => ?_)
      refine wk_aload_n X dX10_army_36 1 rfl ?_
      refine wk_aload_n X dX10_army_37 1 rfl ?_
      refine wk_getR X dX10_army_38 fo_X10_67 hf (fun v5 hf => ?_)
      refine wk_getI X dX10_army_41 fo_X10_105 hf (fun v6 hf => ?_)
      refine wk_putI X dX10_army_44 fo_X10_22 hf (fun h7 hf => ?_)
      refine wk_iload_n X dX10_army_47 0 rfl ?_
      refine wk_if_eq X 58 dX10_army_48 (by decide) hf (fun hf => ?_) (fun hf => ?_)
      · refine wk_aload_n X dX10_army_58 1 rfl ?_
        refine wk_getR X dX10_army_59 fo_X10_31 hf (fun v8 hf => ?_)
        refine wk_aload_n X dX10_army_62 1 rfl ?_
        refine wk_getR X dX10_army_63 fo_X10_67 hf (fun v9 hf => ?_)
        refine wk_getR X dX10_army_66 fo_X10_109 hf (fun v10 hf => ?_)
        refine wk_callVv X [.ref v10] [] dX10_army_69 rfl vo_X10_112 rfl (by decide) (Nat.le_of_ble_eq_true rfl) hf (c_X1_copyFrom l _ _ _) (fun r11 hf => ?_)
        refine wk_aload_n X dX10_army_72 1 rfl ?_
        refine wk_getR X dX10_army_73 fo_X10_55 hf (fun v12 hf => ?_)
        refine wk_aload_n X dX10_army_76 1 rfl ?_
        refine wk_getR X dX10_army_77 fo_X10_67 hf (fun v13 hf => ?_)
        refine wk_getR X dX10_army_80 fo_X10_115 hf (fun v14 hf => ?_)
        refine wk_callVv X [.ref v14] [] dX10_army_83 rfl vo_X10_116 rfl (by decide) (Nat.le_of_ble_eq_true rfl) hf (c_X3_copyFrom l _ _ _) (fun r15 hf => ?_)
        refine wk_aload_n X dX10_army_86 1 rfl ?_
        refine wk_getR X dX10_army_87 fo_X10_40 hf (fun v16 hf => ?_)
        refine wk_getR X dX10_army_90 fo_X10_119 hf (fun v17 hf => ?_)
        refine wk_iconst X dX10_army_93 ic_0 ?_
        refine wk_putI X dX10_army_94 fo_X10_123 hf (fun h18 hf => ?_)
        refine wk_aload_n X dX10_army_97 1 rfl ?_
        refine wk_getR X dX10_army_98 fo_X10_40 hf (fun v19 hf => ?_)
        refine wk_getR X dX10_army_101 fo_X10_128 hf (fun v20 hf => ?_)
        refine wk_iconst X dX10_army_104 ic_0 ?_
        refine wk_putI X dX10_army_105 fo_X10_132 hf (fun h21 hf => ?_)
        refine wk_aload_n X dX10_army_108 1 rfl ?_
        refine wk_iconst X dX10_army_109 ic_0 ?_
        refine wk_putZ X dX10_army_110 fo_X10_47 hf (fun h22 hf => ?_)
        refine wk_iconst X dX10_army_113 ic_0 ?_
        exact wk_ireturn X dX10_army_114 hf
      · refine wk_aload_n X dX10_army_51 1 rfl ?_
        refine wk_iconst X dX10_army_52 ic_0 ?_
        refine wk_callVv X [.int 0] [] dX10_army_53 rfl vo_X10_106 rfl (by decide) (Nat.le_of_ble_eq_true rfl) hf (c_X10_refuse l _ _ _) (fun r23 hf => ?_)
        refine wk_iload_n X dX10_army_56 0 rfl ?_
        exact wk_ireturn X dX10_army_57 hf
    · exact wq_sub [] rfl (w_X10_army_12 X _ hf)
section Sg_X10_army
variable {p : Program} {l : Launch} {e : Env} {s : State} {m : MethodId} {args : Array Value} {below : List Frame} {meth : Method} {c : Code} {G : hp_G} {o : Nat × hp_H}
def g_X10_army_12  (h : hp_H) : Option (Nat × hp_H) := some (1, h)
set_option maxRecDepth 20000 in
theorem v_X10_army_12 (X : wx G p s m args meth c cX10_army 3 RX10 (some .int)) (hl : l.stackTraces = false) (hT : ∀ x ∈ c.exceptionTable.toList, False)  (h : hp_H) (hf : g_X10_army_12 h = some o) : wq p l e (mt_R (79) 1 6) s m args below meth c (vx_MQ below mx_N (mx_X G o.1 o.2) args s 1 6 (hp_A G)) G 3 0 0 12 [] [] h := by
  unfold g_X10_army_12 at hf
  exact wk_throw X hl hT 1 0 2 (by decide) (by decide) rfl xo_X10_94_98 dX10_army_12 dX10_army_15 (Or.inl ⟨dX10_army_16, rfl⟩) dX10_army_18 dX10_army_21 (Nat.le_of_ble_eq_true rfl) hf
end Sg_X10_army
def g_X10_army (x0 : Nat) (x1 : Int32) (h : hp_H) : Option (Nat × hp_H) := gd h x0 10 (if x1 < 0 then (g_X10_army_12 h) else ((rd_I h x0 10 1).bind fun v1 => if x1 ≤ v1 then (none) else (g_X10_army_12 h)))
set_option maxRecDepth 20000 in
theorem x_X10_army (l : Launch) (hl : l.stackTraces = false) (x0 : Nat) (x1 : Int32) (h : hp_H) (r : Nat × hp_H) (hf : g_X10_army x0 x1 h = some r) : cvx l (79) yX10_army cX10_army 3 (some .int) 10 x0 [.int x1] h r.1 r.2 := by
  unfold g_X10_army at hf
  refine cvx_of (lv := [(0, .ref x0), (1, .int x1)]) hf (by decide +kernel) (Nat.le_of_ble_eq_true rfl) rfl (fun hf p e s m args below meth c G hT X => ?_)
  refine wk_iload_n X dX10_army_0 1 rfl ?_
  refine wk_if_lt X 12 dX10_army_1 (by decide) hf (fun hf => ?_) (fun hf => ?_)
  · exact wq_sub [] rfl (v_X10_army_12 X hl hT _ hf)
  · refine wk_iload_n X dX10_army_4 1 rfl ?_
    refine wk_aload_n X dX10_army_5 0 rfl ?_
    refine wk_getI X dX10_army_6 fo_X10_18 hf (fun v1 hf => ?_)
    refine wk_icmp_le X 22 dX10_army_9 (by decide) hf (fun hf => ?_) (fun hf => ?_)
    · exact nomatch hf
    · exact wq_sub [] rfl (v_X10_army_12 X hl hT _ hf)
section Sf_X10_needMan
variable {p : Program} {l : Launch} {e : Env} {s : State} {m : MethodId} {args : Array Value} {below : List Frame} {meth : Method} {c : Code} {G : hp_G} {o : hp_H}
def f_X10_needMan_15  (h : hp_H) : Option (hp_H) := none
set_option maxRecDepth 20000 in
theorem w_X10_needMan_15 (X : wx G p s m args meth c cX10_needMan 2 RX10 none)  (h : hp_H) (hf : f_X10_needMan_15 h = some o) : wq p l e (mt_R (7) 0 0) s m args below meth c (MQ below (mt_Q G none o) args s 0 0 (hp_A G)) G 2 0 0 15 [] [] h := by
  unfold f_X10_needMan_15 at hf
  exact nomatch hf
end Sf_X10_needMan
def f_X10_needMan (x0 : Nat) (x1 : Int32) (h : hp_H) : Option (hp_H) := gd h x0 10 (if x1 < 0 then (f_X10_needMan_15 h) else ((rd_R h x0 10 4).bind fun v1 => (rd_I h v1 1 1).bind fun v2 => if x1 < v2 then (some h) else (f_X10_needMan_15 h)))
set_option maxRecDepth 20000 in
theorem c_X10_needMan (l : Launch) (x0 : Nat) (x1 : Int32) (h : hp_H) (r : hp_H) (hf : f_X10_needMan x0 x1 h = some r) : cv l (7) yX10_needMan cX10_needMan 2 none 10 x0 [.int x1] h none r := by
  unfold f_X10_needMan at hf
  refine cv_of (lv := [(0, .ref x0), (1, .int x1)]) hf (by decide +kernel) (Nat.le_of_ble_eq_true rfl) rfl (fun hf p e s m args below meth c G X => ?_)
  refine wk_iload_n X dX10_needMan_0 1 rfl ?_
  refine wk_if_lt X 15 dX10_needMan_1 (by decide) hf (fun hf => ?_) (fun hf => ?_)
  · exact wq_sub [] rfl (w_X10_needMan_15 X _ hf)
  · refine wk_iload_n X dX10_needMan_4 1 rfl ?_
    refine wk_aload_n X dX10_needMan_5 0 rfl ?_
    refine wk_getR X dX10_needMan_6 fo_X10_31 hf (fun v1 hf => ?_)
    refine wk_getI X dX10_needMan_9 fo_X10_138 hf (fun v2 hf => ?_)
    refine wk_icmp_lt X 26 dX10_needMan_12 (by decide) hf (fun hf => ?_) (fun hf => ?_)
    · exact wk_return X dX10_needMan_26 hf
    · exact wq_sub [] rfl (w_X10_needMan_15 X _ hf)
section Sg_X10_needMan
variable {p : Program} {l : Launch} {e : Env} {s : State} {m : MethodId} {args : Array Value} {below : List Frame} {meth : Method} {c : Code} {G : hp_G} {o : Nat × hp_H}
def g_X10_needMan_15  (h : hp_H) : Option (Nat × hp_H) := some (0, h)
set_option maxRecDepth 20000 in
theorem v_X10_needMan_15 (X : wx G p s m args meth c cX10_needMan 2 RX10 none) (hl : l.stackTraces = false) (hT : ∀ x ∈ c.exceptionTable.toList, False)  (h : hp_H) (hf : g_X10_needMan_15 h = some o) : wq p l e (mt_R (7) 1 6) s m args below meth c (vx_MQ below mx_N (mx_X G o.1 o.2) args s 1 6 (hp_A G)) G 2 0 0 15 [] [] h := by
  unfold g_X10_needMan_15 at hf
  exact wk_throw X hl hT 0 17 3 (by decide) (by decide) rfl xo_X10_166_170 dX10_needMan_15 dX10_needMan_18 (Or.inr ⟨dX10_needMan_19, rfl⟩) dX10_needMan_22 dX10_needMan_25 (Nat.le_of_ble_eq_true rfl) hf
end Sg_X10_needMan
def g_X10_needMan (x0 : Nat) (x1 : Int32) (h : hp_H) : Option (Nat × hp_H) := gd h x0 10 (if x1 < 0 then (g_X10_needMan_15 h) else ((rd_R h x0 10 4).bind fun v1 => (rd_I h v1 1 1).bind fun v2 => if x1 < v2 then (none) else (g_X10_needMan_15 h)))
set_option maxRecDepth 20000 in
theorem x_X10_needMan (l : Launch) (hl : l.stackTraces = false) (x0 : Nat) (x1 : Int32) (h : hp_H) (r : Nat × hp_H) (hf : g_X10_needMan x0 x1 h = some r) : cvx l (7) yX10_needMan cX10_needMan 2 none 10 x0 [.int x1] h r.1 r.2 := by
  unfold g_X10_needMan at hf
  refine cvx_of (lv := [(0, .ref x0), (1, .int x1)]) hf (by decide +kernel) (Nat.le_of_ble_eq_true rfl) rfl (fun hf p e s m args below meth c G hT X => ?_)
  refine wk_iload_n X dX10_needMan_0 1 rfl ?_
  refine wk_if_lt X 15 dX10_needMan_1 (by decide) hf (fun hf => ?_) (fun hf => ?_)
  · exact wq_sub [] rfl (v_X10_needMan_15 X hl hT _ hf)
  · refine wk_iload_n X dX10_needMan_4 1 rfl ?_
    refine wk_aload_n X dX10_needMan_5 0 rfl ?_
    refine wk_getR X dX10_needMan_6 fo_X10_31 hf (fun v1 hf => ?_)
    refine wk_getI X dX10_needMan_9 fo_X10_138 hf (fun v2 hf => ?_)
    refine wk_icmp_lt X 26 dX10_needMan_12 (by decide) hf (fun hf => ?_) (fun hf => ?_)
    · exact nomatch hf
    · exact wq_sub [] rfl (v_X10_needMan_15 X hl hT _ hf)
section Sf_X10_byMud
variable {p : Program} {l : Launch} {e : Env} {s : State} {m : MethodId} {args : Array Value} {below : List Frame} {meth : Method} {c : Code} {G : hp_G} {o : Int32 × hp_H}
def f_X10_byMud_95 (x4 : Int32) (x5 : Int32) (h : hp_H) : Option (Int32 × hp_H) := some (x4 * x5, h)
set_option maxRecDepth 20000 in
theorem w_X10_byMud_95 (X : wx G p s m args meth c cX10_byMud 7 RX10 (some .int)) (x4 : Int32) (x5 : Int32) (h : hp_H) (hf : f_X10_byMud_95 x4 x5 h = some o) : wq p l e (mt_R (8) 0 0) s m args below meth c (MQ below (mt_Q G (some (.int o.1)) o.2) args s 0 0 (hp_A G)) G 7 0 0 95 [(4, .int x4), (5, .int x5)] [] h := by
  unfold f_X10_byMud_95 at hf
  refine wk_iload X dX10_byMud_95 0 rfl ?_
  refine wk_iload X dX10_byMud_97 1 rfl ?_
  refine wk_imul X dX10_byMud_99 ?_
  exact wk_ireturn X dX10_byMud_100 hf
def f_X10_byMud_86 (k27 : Nat → Int32 → Int32 → Int32 → Int32 → Int32 → Int32 → hp_H → Option (Int32 × hp_H)) (x0 : Nat) (x1 : Int32) (x2 : Int32) (x3 : Int32) (x4 : Int32) (x6 : Int32) (t0 : Int32) (t1 : Int32) (h : hp_H) : Option (Int32 × hp_H) := k27 x0 x1 x2 x3 x4 (t0 * t1) (x6 + 1) h
set_option maxRecDepth 20000 in
theorem w_X10_byMud_86 (X : wx G p s m args meth c cX10_byMud 7 RX10 (some .int)) (k27 : Nat → Int32 → Int32 → Int32 → Int32 → Int32 → Int32 → hp_H → Option (Int32 × hp_H)) (hk27 : ∀ (x0 : Nat) (x1 : Int32) (x2 : Int32) (x3 : Int32) (x4 : Int32) (x5 : Int32) (x6 : Int32) (h : hp_H), k27 x0 x1 x2 x3 x4 x5 x6 h = some o → wq p l e (mt_R (8) 0 0) s m args below meth c (MQ below (mt_Q G (some (.int o.1)) o.2) args s 0 0 (hp_A G)) G 7 0 0 27 [(0, .ref x0), (1, .int x1), (2, .int x2), (3, .int x3), (4, .int x4), (5, .int x5), (6, .int x6)] [] h) (x0 : Nat) (x1 : Int32) (x2 : Int32) (x3 : Int32) (x4 : Int32) (x6 : Int32) (t0 : Int32) (t1 : Int32) (h : hp_H) (hf : f_X10_byMud_86 k27 x0 x1 x2 x3 x4 x6 t0 t1 h = some o) : wq p l e (mt_R (8) 0 0) s m args below meth c (MQ below (mt_Q G (some (.int o.1)) o.2) args s 0 0 (hp_A G)) G 7 0 0 86 [(0, .ref x0), (1, .int x1), (2, .int x2), (3, .int x3), (4, .int x4), (6, .int x6)] [.int t1, .int t0] h := by
  unfold f_X10_byMud_86 at hf
  refine wk_imul X dX10_byMud_86 ?_
  refine wk_istore (lv' := [(5, .int (t0 * t1)), (0, .ref x0), (1, .int x1), (2, .int x2), (3, .int x3), (4, .int x4), (6, .int x6)]) X dX10_byMud_87 (by decide) rfl ?_
  refine wk_iinc (lv' := [(6, .int (x6 + 1)), (5, .int (t0 * t1)), (0, .ref x0), (1, .int x1), (2, .int x2), (3, .int x3), (4, .int x4)]) X dX10_byMud_89 6 rfl ic_1 (by decide) rfl ?_
  refine wk_goto X 27 dX10_byMud_92 (by decide) ?_
  exact wq_sub [2, 3, 4, 5, 6, 1, 0] rfl (hk27 _ _ _ _ _ _ _ _ hf)
def f_X10_byMud_27 (k27 : Nat → Int32 → Int32 → Int32 → Int32 → Int32 → Int32 → hp_H → Option (Int32 × hp_H)) (x0 : Nat) (x1 : Int32) (x2 : Int32) (x3 : Int32) (x4 : Int32) (x5 : Int32) (x6 : Int32) (h : hp_H) : Option (Int32 × hp_H) := if x2 ≤ x6 then (f_X10_byMud_95 x4 x5 h) else ((rd_R h x0 10 8).bind fun v1 => (f_X3_timesNamed v1 x1 x6 9 h).bind fun r2 => (rd_R r2.2 x0 10 8).bind fun v3 => (f_X3_timesNamed v3 x1 x6 0 r2.2).bind fun r4 => if x6 = 0 then (f_X10_byMud_86 k27 x0 x1 x2 x3 ((x4 + (x3 * r2.1)) + ((10 - x3) * r4.1)) x6 x5 1 r4.2) else (f_X10_byMud_86 k27 x0 x1 x2 x3 ((x4 + (x3 * r2.1)) + ((10 - x3) * r4.1)) x6 x5 10 r4.2))
set_option maxRecDepth 20000 in
theorem w_X10_byMud_27 (X : wx G p s m args meth c cX10_byMud 7 RX10 (some .int)) (k27 : Nat → Int32 → Int32 → Int32 → Int32 → Int32 → Int32 → hp_H → Option (Int32 × hp_H)) (hk27 : ∀ (x0 : Nat) (x1 : Int32) (x2 : Int32) (x3 : Int32) (x4 : Int32) (x5 : Int32) (x6 : Int32) (h : hp_H), k27 x0 x1 x2 x3 x4 x5 x6 h = some o → wq p l e (mt_R (8) 0 0) s m args below meth c (MQ below (mt_Q G (some (.int o.1)) o.2) args s 0 0 (hp_A G)) G 7 0 0 27 [(0, .ref x0), (1, .int x1), (2, .int x2), (3, .int x3), (4, .int x4), (5, .int x5), (6, .int x6)] [] h) (x0 : Nat) (x1 : Int32) (x2 : Int32) (x3 : Int32) (x4 : Int32) (x5 : Int32) (x6 : Int32) (h : hp_H) (hf : f_X10_byMud_27 k27 x0 x1 x2 x3 x4 x5 x6 h = some o) : wq p l e (mt_R (8) 0 0) s m args below meth c (MQ below (mt_Q G (some (.int o.1)) o.2) args s 0 0 (hp_A G)) G 7 0 0 27 [(0, .ref x0), (1, .int x1), (2, .int x2), (3, .int x3), (4, .int x4), (5, .int x5), (6, .int x6)] [] h := by
  unfold f_X10_byMud_27 at hf
  refine wk_iload X dX10_byMud_27 6 rfl ?_
  refine wk_iload_n X dX10_byMud_29 2 rfl ?_
  refine wk_icmp_ge X 95 dX10_byMud_30 (by decide) hf (fun hf => ?_) (fun hf => ?_)
  · exact wq_sub [4, 5] rfl (w_X10_byMud_95 X _ _ _ hf)
  · refine wk_iload X dX10_byMud_33 4 rfl ?_
    refine wk_iload_n X dX10_byMud_35 3 rfl ?_
    refine wk_aload_n X dX10_byMud_36 0 rfl ?_
    refine wk_getR X dX10_byMud_37 fo_X10_55 hf (fun v1 hf => ?_)
    refine wk_iload_n X dX10_byMud_40 1 rfl ?_
    refine wk_iload X dX10_byMud_41 6 rfl ?_
    refine wk_bipush X dX10_byMud_43 ib_9 ?_
    refine wk_callVi X [.int x1, .int x6, .int 9] [.int x3, .int x4] dX10_byMud_45 rfl vo_X10_244 rfl (by decide) (Nat.le_of_ble_eq_true rfl) hf (c_X3_timesNamed l _ _ _ _ _) (fun r2 hf => ?_)
    refine wk_imul X dX10_byMud_48 ?_
    refine wk_iadd X dX10_byMud_49 ?_
    refine wk_istore (lv' := [(4, .int (x4 + (x3 * r2.1))), (0, .ref x0), (1, .int x1), (2, .int x2), (3, .int x3), (5, .int x5), (6, .int x6)]) X dX10_byMud_50 (by decide) rfl ?_
    refine wk_iload X dX10_byMud_52 0 rfl ?_
    refine wk_bipush X dX10_byMud_54 ib_10 ?_
    refine wk_iload_n X dX10_byMud_56 4 rfl ?_
    refine wk_isub X dX10_byMud_57 ?_
    refine wk_aload_n X dX10_byMud_58 1 rfl ?_
    refine wk_getR X dX10_byMud_59 fo_X10_55 hf (fun v3 hf => ?_)
    refine wk_iload_n X dX10_byMud_62 2 rfl ?_
    refine wk_iload X dX10_byMud_63 6 rfl ?_
    refine wk_iconst X dX10_byMud_65 ic_0 ?_
    refine wk_callVi X [.int x1, .int x6, .int 0] [.int (10 - x3), .int (x4 + (x3 * r2.1))] dX10_byMud_66 rfl vo_X10_244 rfl (by decide) (Nat.le_of_ble_eq_true rfl) hf (c_X3_timesNamed l _ _ _ _ _) (fun r4 hf => ?_)
    refine wk_imul X dX10_byMud_69 ?_
    refine wk_iadd X dX10_byMud_70 ?_
    refine wk_istore (lv' := [(4, .int ((x4 + (x3 * r2.1)) + ((10 - x3) * r4.1))), (0, .ref x0), (1, .int x1), (2, .int x2), (3, .int x3), (5, .int x5), (6, .int x6)]) X dX10_byMud_71 (by decide) rfl ?_
    refine wk_iload X dX10_byMud_73 5 rfl ?_
    refine wk_iload X dX10_byMud_75 6 rfl ?_
    refine wk_if_ne X 84 dX10_byMud_77 (by decide) hf (fun hf => ?_) (fun hf => ?_)
    · refine wk_bipush X dX10_byMud_84 ib_10 ?_
      exact wq_sub [1, 2, 3, 4, 0, 6] rfl (w_X10_byMud_86 X k27 hk27 _ _ _ _ _ _ _ _ _ hf)
    · refine wk_iconst X dX10_byMud_80 ic_1 ?_
      refine wk_goto X 86 dX10_byMud_81 (by decide) ?_
      exact wq_sub [1, 2, 3, 4, 0, 6] rfl (w_X10_byMud_86 X k27 hk27 _ _ _ _ _ _ _ _ _ hf)
def l_X10_byMud_27 (x0 : Nat) (x1 : Int32) (x2 : Int32) (x3 : Int32) (x4 : Int32) (x5 : Int32) (x6 : Int32) (h : hp_H) : Option (Int32 × hp_H) := lp (fun k (s : Nat × Int32 × Int32 × Int32 × Int32 × Int32 × Int32 × hp_H) => f_X10_byMud_27  (fun a0 a1 a2 a3 a4 a5 a6 a7 => k (a0, a1, a2, a3, a4, a5, a6, a7)) s.1 s.2.1 s.2.2.1 s.2.2.2.1 s.2.2.2.2.1 s.2.2.2.2.2.1 s.2.2.2.2.2.2.1 s.2.2.2.2.2.2.2) 100000 (x0, x1, x2, x3, x4, x5, x6, h)
theorem wl_X10_byMud_27 (X : wx G p s m args meth c cX10_byMud 7 RX10 (some .int)) (x0 : Nat) (x1 : Int32) (x2 : Int32) (x3 : Int32) (x4 : Int32) (x5 : Int32) (x6 : Int32) (h : hp_H) (hf : l_X10_byMud_27 x0 x1 x2 x3 x4 x5 x6 h = some o) : wq p l e (mt_R (8) 0 0) s m args below meth c (MQ below (mt_Q G (some (.int o.1)) o.2) args s 0 0 (hp_A G)) G 7 0 0 27 [(0, .ref x0), (1, .int x1), (2, .int x2), (3, .int x3), (4, .int x4), (5, .int x5), (6, .int x6)] [] h :=
  lp_ind (P := fun (s_ : Nat × Int32 × Int32 × Int32 × Int32 × Int32 × Int32 × hp_H) => wq p l e (mt_R (8) 0 0) s m args below meth c (MQ below (mt_Q G (some (.int o.1)) o.2) args s 0 0 (hp_A G)) G 7 0 0 27 [(0, .ref s_.1), (1, .int s_.2.1), (2, .int s_.2.2.1), (3, .int s_.2.2.2.1), (4, .int s_.2.2.2.2.1), (5, .int s_.2.2.2.2.2.1), (6, .int s_.2.2.2.2.2.2.1)] [] s_.2.2.2.2.2.2.2) (fun k s hk hf => w_X10_byMud_27 X  (fun a0 a1 a2 a3 a4 a5 a6 a7 => k (a0, a1, a2, a3, a4, a5, a6, a7)) (fun a0 a1 a2 a3 a4 a5 a6 a7 hf => hk (a0, a1, a2, a3, a4, a5, a6, a7) hf) s.1 s.2.1 s.2.2.1 s.2.2.2.1 s.2.2.2.2.1 s.2.2.2.2.2.1 s.2.2.2.2.2.2.1 s.2.2.2.2.2.2.2 hf) 100000 (x0, x1, x2, x3, x4, x5, x6, h) hf
end Sf_X10_byMud
def f_X10_byMud (x0 : Nat) (x1 : Int32) (x2 : Int32) (x3 : Int32) (h : hp_H) : Option (Int32 × hp_H) := gd h x0 10 ((f_X10_needMan x0 x1 h).bind fun r1 => (f_X10_needWithin x2 1 5 r1).bind fun r2 => (f_X10_needWithin x3 0 10 r2).bind fun r3 => l_X10_byMud_27 x0 x1 x2 x3 0 1 0 r3)
set_option maxRecDepth 20000 in
theorem c_X10_byMud (l : Launch) (x0 : Nat) (x1 : Int32) (x2 : Int32) (x3 : Int32) (h : hp_H) (r : Int32 × hp_H) (hf : f_X10_byMud x0 x1 x2 x3 h = some r) : cv l (8) yX10_byMud cX10_byMud 7 (some .int) 10 x0 [.int x1, .int x2, .int x3] h (some (.int r.1)) r.2 := by
  unfold f_X10_byMud at hf
  refine cv_of (lv := [(0, .ref x0), (1, .int x1), (2, .int x2), (3, .int x3)]) hf (by decide +kernel) (Nat.le_of_ble_eq_true rfl) rfl (fun hf p e s m args below meth c G X => ?_)
  refine wk_aload_n X dX10_byMud_0 0 rfl ?_
  refine wk_iload_n X dX10_byMud_1 1 rfl ?_
  refine wk_callVv X [.int x1] [] dX10_byMud_2 rfl vo_X10_171 rfl (by decide) (Nat.le_of_ble_eq_true rfl) hf (c_X10_needMan l _ _ _) (fun r1 hf => ?_)
  refine wk_iload_n X dX10_byMud_5 2 rfl ?_
  refine wk_iconst X dX10_byMud_6 ic_1 ?_
  refine wk_iconst X dX10_byMud_7 ic_5 ?_
  refine wk_callSv X [.int x2, .int 1, .int 5] [] dX10_byMud_8 rfl vo_X10_237 rfl (by decide) (Nat.le_of_ble_eq_true rfl) hf (c_X10_needWithin l _ _ _ _) (fun r2 hf => ?_)
  refine wk_iload_n X dX10_byMud_11 3 rfl ?_
  refine wk_iconst X dX10_byMud_12 ic_0 ?_
  refine wk_bipush X dX10_byMud_13 ib_10 ?_
  refine wk_callSv X [.int x3, .int 0, .int 10] [] dX10_byMud_15 rfl vo_X10_237 rfl (by decide) (Nat.le_of_ble_eq_true rfl) hf (c_X10_needWithin l _ _ _ _) (fun r3 hf => ?_)
  refine wk_iconst X dX10_byMud_18 ic_0 ?_
  refine wk_istore (lv' := [(4, .int 0), (0, .ref x0), (1, .int x1), (2, .int x2), (3, .int x3)]) X dX10_byMud_19 (by decide) rfl ?_
  refine wk_iconst X dX10_byMud_21 ic_1 ?_
  refine wk_istore (lv' := [(5, .int 1), (4, .int 0), (0, .ref x0), (1, .int x1), (2, .int x2), (3, .int x3)]) X dX10_byMud_22 (by decide) rfl ?_
  refine wk_iconst X dX10_byMud_24 ic_0 ?_
  refine wk_istore (lv' := [(6, .int 0), (5, .int 1), (4, .int 0), (0, .ref x0), (1, .int x1), (2, .int x2), (3, .int x3)]) X dX10_byMud_25 (by decide) rfl ?_
  exact wq_sub [3, 4, 5, 6, 2, 1, 0] rfl (wl_X10_byMud_27 X _ _ _ _ _ _ _ _ hf)
section Sg_X10_byMud
variable {p : Program} {l : Launch} {e : Env} {s : State} {m : MethodId} {args : Array Value} {below : List Frame} {meth : Method} {c : Code} {G : hp_G} {o : Nat × hp_H}
end Sg_X10_byMud
def g_X10_byMud (x0 : Nat) (x1 : Int32) (x2 : Int32) (x3 : Int32) (h : hp_H) : Option (Nat × hp_H) := gd h x0 10 (xb (g_X10_needMan x0 x1 h) (f_X10_needMan x0 x1 h) fun r1 => xb (g_X10_needWithin x2 1 5 r1) (f_X10_needWithin x2 1 5 r1) fun r2 => xb (g_X10_needWithin x3 0 10 r2) (f_X10_needWithin x3 0 10 r2) fun r3 => none)
set_option maxRecDepth 20000 in
theorem x_X10_byMud (l : Launch) (hl : l.stackTraces = false) (x0 : Nat) (x1 : Int32) (x2 : Int32) (x3 : Int32) (h : hp_H) (r : Nat × hp_H) (hf : g_X10_byMud x0 x1 x2 x3 h = some r) : cvx l (8) yX10_byMud cX10_byMud 7 (some .int) 10 x0 [.int x1, .int x2, .int x3] h r.1 r.2 := by
  unfold g_X10_byMud at hf
  refine cvx_of (lv := [(0, .ref x0), (1, .int x1), (2, .int x2), (3, .int x3)]) hf (by decide +kernel) (Nat.le_of_ble_eq_true rfl) rfl (fun hf p e s m args below meth c G hT X => ?_)
  refine wk_aload_n X dX10_byMud_0 0 rfl ?_
  refine wk_iload_n X dX10_byMud_1 1 rfl ?_
  refine wk_callVxv X hT [.int x1] [] dX10_byMud_2 rfl vo_X10_171 rfl (by decide) (Nat.le_of_ble_eq_true rfl) hf (x_X10_needMan l hl _ _ _) (c_X10_needMan l _ _ _) (fun r1 hf => ?_)
  refine wk_iload_n X dX10_byMud_5 2 rfl ?_
  refine wk_iconst X dX10_byMud_6 ic_1 ?_
  refine wk_iconst X dX10_byMud_7 ic_5 ?_
  refine wk_callSxv X hT [.int x2, .int 1, .int 5] [] dX10_byMud_8 rfl vo_X10_237 rfl (by decide) (Nat.le_of_ble_eq_true rfl) hf (x_X10_needWithin l hl _ _ _ _) (c_X10_needWithin l _ _ _ _) (fun r2 hf => ?_)
  refine wk_iload_n X dX10_byMud_11 3 rfl ?_
  refine wk_iconst X dX10_byMud_12 ic_0 ?_
  refine wk_bipush X dX10_byMud_13 ib_10 ?_
  refine wk_callSxv X hT [.int x3, .int 0, .int 10] [] dX10_byMud_15 rfl vo_X10_237 rfl (by decide) (Nat.le_of_ble_eq_true rfl) hf (x_X10_needWithin l hl _ _ _ _) (c_X10_needWithin l _ _ _ _) (fun r3 hf => ?_)
  exact nomatch hf
section Sf_X10_chain
variable {p : Program} {l : Launch} {e : Env} {s : State} {m : MethodId} {args : Array Value} {below : List Frame} {meth : Method} {c : Code} {G : hp_G} {o : Int32 × hp_H}
def f_X10_chain_62  (h : hp_H) : Option (Int32 × hp_H) := some ((-1), h)
set_option maxRecDepth 20000 in
theorem w_X10_chain_62 (X : wx G p s m args meth c cX10_chain 6 RX10 (some .int))  (h : hp_H) (hf : f_X10_chain_62 h = some o) : wq p l e (mt_R (8) 0 0) s m args below meth c (MQ below (mt_Q G (some (.int o.1)) o.2) args s 0 0 (hp_A G)) G 6 0 0 62 [] [] h := by
  unfold f_X10_chain_62 at hf
  refine wk_iconst X dX10_chain_62 ic_m1 ?_
  exact wk_ireturn X dX10_chain_63 hf
def f_X10_chain_41 (x5 : Int32) (h : hp_H) : Option (Int32 × hp_H) := some (x5, h)
set_option maxRecDepth 20000 in
theorem w_X10_chain_41 (X : wx G p s m args meth c cX10_chain 6 RX10 (some .int)) (x5 : Int32) (h : hp_H) (hf : f_X10_chain_41 x5 h = some o) : wq p l e (mt_R (8) 0 0) s m args below meth c (MQ below (mt_Q G (some (.int o.1)) o.2) args s 0 0 (hp_A G)) G 6 0 0 41 [(5, .int x5)] [] h := by
  unfold f_X10_chain_41 at hf
  refine wk_iload X dX10_chain_41 0 rfl ?_
  exact wk_ireturn X dX10_chain_43 hf
def f_X10_chain_25 (k25 : Nat → Int32 → Int32 → Int32 → Int32 → hp_H → Option (Int32 × hp_H)) (x0 : Nat) (x2 : Int32) (x3 : Int32) (x4 : Int32) (x5 : Int32) (h : hp_H) : Option (Int32 × hp_H) := if 8 ≤ x5 then (f_X10_chain_62 h) else ((f_X10_holds x4 x2 h).bind fun r1 => if r1.1 = 0 then ((rd_R r1.2 x0 10 8).bind fun v2 => (f_X3_reachedFrom v2 x4 x3 r1.2).bind fun r3 => k25 x0 x2 x3 r3.1 (x5 + 1) r3.2) else (f_X10_chain_41 x5 r1.2))
set_option maxRecDepth 20000 in
theorem w_X10_chain_25 (X : wx G p s m args meth c cX10_chain 6 RX10 (some .int)) (k25 : Nat → Int32 → Int32 → Int32 → Int32 → hp_H → Option (Int32 × hp_H)) (hk25 : ∀ (x0 : Nat) (x2 : Int32) (x3 : Int32) (x4 : Int32) (x5 : Int32) (h : hp_H), k25 x0 x2 x3 x4 x5 h = some o → wq p l e (mt_R (8) 0 0) s m args below meth c (MQ below (mt_Q G (some (.int o.1)) o.2) args s 0 0 (hp_A G)) G 6 0 0 25 [(0, .ref x0), (2, .int x2), (3, .int x3), (4, .int x4), (5, .int x5)] [] h) (x0 : Nat) (x2 : Int32) (x3 : Int32) (x4 : Int32) (x5 : Int32) (h : hp_H) (hf : f_X10_chain_25 k25 x0 x2 x3 x4 x5 h = some o) : wq p l e (mt_R (8) 0 0) s m args below meth c (MQ below (mt_Q G (some (.int o.1)) o.2) args s 0 0 (hp_A G)) G 6 0 0 25 [(0, .ref x0), (2, .int x2), (3, .int x3), (4, .int x4), (5, .int x5)] [] h := by
  unfold f_X10_chain_25 at hf
  refine wk_iload X dX10_chain_25 4 rfl ?_
  refine wk_bipush X dX10_chain_27 ib_8 ?_
  refine wk_icmp_ge X 62 dX10_chain_29 (by decide) hf (fun hf => ?_) (fun hf => ?_)
  · exact wq_sub [] rfl (w_X10_chain_62 X _ hf)
  · refine wk_iload X dX10_chain_32 3 rfl ?_
    refine wk_iload_n X dX10_chain_34 1 rfl ?_
    refine wk_callSi X [.int x4, .int x2] [] dX10_chain_35 rfl vo_X10_250 rfl (by decide) (Nat.le_of_ble_eq_true rfl) hf (c_X10_holds l _ _ _) (fun r1 hf => ?_)
    refine wk_if_eq X 44 dX10_chain_38 (by decide) hf (fun hf => ?_) (fun hf => ?_)
    · refine wk_aload_n X dX10_chain_44 0 rfl ?_
      refine wk_getR X dX10_chain_45 fo_X10_55 hf (fun v2 hf => ?_)
      refine wk_iload X dX10_chain_48 3 rfl ?_
      refine wk_iload_n X dX10_chain_50 2 rfl ?_
      refine wk_callVi X [.int x4, .int x3] [] dX10_chain_51 rfl vo_X10_338 rfl (by decide) (Nat.le_of_ble_eq_true rfl) hf (c_X3_reachedFrom l _ _ _ _) (fun r3 hf => ?_)
      refine wk_istore (lv' := [(4, .int r3.1), (0, .ref x0), (2, .int x2), (3, .int x3), (5, .int x5)]) X dX10_chain_54 (by decide) rfl ?_
      refine wk_iinc (lv' := [(5, .int (x5 + 1)), (4, .int r3.1), (0, .ref x0), (2, .int x2), (3, .int x3)]) X dX10_chain_56 4 rfl ic_1 (by decide) rfl ?_
      refine wk_goto X 25 dX10_chain_59 (by decide) ?_
      exact wq_sub [2, 3, 4, 1, 0] rfl (hk25 _ _ _ _ _ _ hf)
    · exact wq_sub [4] rfl (w_X10_chain_41 X _ _ hf)
def l_X10_chain_25 (x0 : Nat) (x2 : Int32) (x3 : Int32) (x4 : Int32) (x5 : Int32) (h : hp_H) : Option (Int32 × hp_H) := lp (fun k (s : Nat × Int32 × Int32 × Int32 × Int32 × hp_H) => f_X10_chain_25  (fun a0 a1 a2 a3 a4 a5 => k (a0, a1, a2, a3, a4, a5)) s.1 s.2.1 s.2.2.1 s.2.2.2.1 s.2.2.2.2.1 s.2.2.2.2.2) 100000 (x0, x2, x3, x4, x5, h)
theorem wl_X10_chain_25 (X : wx G p s m args meth c cX10_chain 6 RX10 (some .int)) (x0 : Nat) (x2 : Int32) (x3 : Int32) (x4 : Int32) (x5 : Int32) (h : hp_H) (hf : l_X10_chain_25 x0 x2 x3 x4 x5 h = some o) : wq p l e (mt_R (8) 0 0) s m args below meth c (MQ below (mt_Q G (some (.int o.1)) o.2) args s 0 0 (hp_A G)) G 6 0 0 25 [(0, .ref x0), (2, .int x2), (3, .int x3), (4, .int x4), (5, .int x5)] [] h :=
  lp_ind (P := fun (s_ : Nat × Int32 × Int32 × Int32 × Int32 × hp_H) => wq p l e (mt_R (8) 0 0) s m args below meth c (MQ below (mt_Q G (some (.int o.1)) o.2) args s 0 0 (hp_A G)) G 6 0 0 25 [(0, .ref s_.1), (2, .int s_.2.1), (3, .int s_.2.2.1), (4, .int s_.2.2.2.1), (5, .int s_.2.2.2.2.1)] [] s_.2.2.2.2.2) (fun k s hk hf => w_X10_chain_25 X  (fun a0 a1 a2 a3 a4 a5 => k (a0, a1, a2, a3, a4, a5)) (fun a0 a1 a2 a3 a4 a5 hf => hk (a0, a1, a2, a3, a4, a5) hf) s.1 s.2.1 s.2.2.1 s.2.2.2.1 s.2.2.2.2.1 s.2.2.2.2.2 hf) 100000 (x0, x2, x3, x4, x5, h) hf
end Sf_X10_chain
def f_X10_chain (x0 : Nat) (x1 : Int32) (x2 : Int32) (x3 : Int32) (h : hp_H) : Option (Int32 × hp_H) := gd h x0 10 ((f_X10_needMan x0 x1 h).bind fun r1 => (f_X10_needMan x0 x2 r1).bind fun r2 => (f_X10_needWithin x3 1 12 r2).bind fun r3 => l_X10_chain_25 x0 x2 x3 (1 <<< (x1 &&& 31)) 0 r3)
set_option maxRecDepth 20000 in
theorem c_X10_chain (l : Launch) (x0 : Nat) (x1 : Int32) (x2 : Int32) (x3 : Int32) (h : hp_H) (r : Int32 × hp_H) (hf : f_X10_chain x0 x1 x2 x3 h = some r) : cv l (8) yX10_chain cX10_chain 6 (some .int) 10 x0 [.int x1, .int x2, .int x3] h (some (.int r.1)) r.2 := by
  unfold f_X10_chain at hf
  refine cv_of (lv := [(0, .ref x0), (1, .int x1), (2, .int x2), (3, .int x3)]) hf (by decide +kernel) (Nat.le_of_ble_eq_true rfl) rfl (fun hf p e s m args below meth c G X => ?_)
  refine wk_aload_n X dX10_chain_0 0 rfl ?_
  refine wk_iload_n X dX10_chain_1 1 rfl ?_
  refine wk_callVv X [.int x1] [] dX10_chain_2 rfl vo_X10_171 rfl (by decide) (Nat.le_of_ble_eq_true rfl) hf (c_X10_needMan l _ _ _) (fun r1 hf => ?_)
  refine wk_aload_n X dX10_chain_5 0 rfl ?_
  refine wk_iload_n X dX10_chain_6 2 rfl ?_
  refine wk_callVv X [.int x2] [] dX10_chain_7 rfl vo_X10_171 rfl (by decide) (Nat.le_of_ble_eq_true rfl) hf (c_X10_needMan l _ _ _) (fun r2 hf => ?_)
  refine wk_iload_n X dX10_chain_10 3 rfl ?_
  refine wk_iconst X dX10_chain_11 ic_1 ?_
  refine wk_bipush X dX10_chain_12 ib_12 ?_
  refine wk_callSv X [.int x3, .int 1, .int 12] [] dX10_chain_14 rfl vo_X10_237 rfl (by decide) (Nat.le_of_ble_eq_true rfl) hf (c_X10_needWithin l _ _ _ _) (fun r3 hf => ?_)
  refine wk_iconst X dX10_chain_17 ic_1 ?_
  refine wk_iload_n X dX10_chain_18 1 rfl ?_
  refine wk_ishl X dX10_chain_19 ?_
  refine wk_istore (lv' := [(4, .int (1 <<< (x1 &&& 31))), (0, .ref x0), (1, .int x1), (2, .int x2), (3, .int x3)]) X dX10_chain_20 (by decide) rfl ?_
  refine wk_iconst X dX10_chain_22 ic_0 ?_
  refine wk_istore (lv' := [(5, .int 0), (4, .int (1 <<< (x1 &&& 31))), (0, .ref x0), (1, .int x1), (2, .int x2), (3, .int x3)]) X dX10_chain_23 (by decide) rfl ?_
  exact wq_sub [2, 4, 5, 1, 0] rfl (wl_X10_chain_25 X _ _ _ _ _ _ hf)
section Sg_X10_chain
variable {p : Program} {l : Launch} {e : Env} {s : State} {m : MethodId} {args : Array Value} {below : List Frame} {meth : Method} {c : Code} {G : hp_G} {o : Nat × hp_H}
end Sg_X10_chain
def g_X10_chain (x0 : Nat) (x1 : Int32) (x2 : Int32) (x3 : Int32) (h : hp_H) : Option (Nat × hp_H) := gd h x0 10 (xb (g_X10_needMan x0 x1 h) (f_X10_needMan x0 x1 h) fun r1 => xb (g_X10_needMan x0 x2 r1) (f_X10_needMan x0 x2 r1) fun r2 => xb (g_X10_needWithin x3 1 12 r2) (f_X10_needWithin x3 1 12 r2) fun r3 => none)
set_option maxRecDepth 20000 in
theorem x_X10_chain (l : Launch) (hl : l.stackTraces = false) (x0 : Nat) (x1 : Int32) (x2 : Int32) (x3 : Int32) (h : hp_H) (r : Nat × hp_H) (hf : g_X10_chain x0 x1 x2 x3 h = some r) : cvx l (8) yX10_chain cX10_chain 6 (some .int) 10 x0 [.int x1, .int x2, .int x3] h r.1 r.2 := by
  unfold g_X10_chain at hf
  refine cvx_of (lv := [(0, .ref x0), (1, .int x1), (2, .int x2), (3, .int x3)]) hf (by decide +kernel) (Nat.le_of_ble_eq_true rfl) rfl (fun hf p e s m args below meth c G hT X => ?_)
  refine wk_aload_n X dX10_chain_0 0 rfl ?_
  refine wk_iload_n X dX10_chain_1 1 rfl ?_
  refine wk_callVxv X hT [.int x1] [] dX10_chain_2 rfl vo_X10_171 rfl (by decide) (Nat.le_of_ble_eq_true rfl) hf (x_X10_needMan l hl _ _ _) (c_X10_needMan l _ _ _) (fun r1 hf => ?_)
  refine wk_aload_n X dX10_chain_5 0 rfl ?_
  refine wk_iload_n X dX10_chain_6 2 rfl ?_
  refine wk_callVxv X hT [.int x2] [] dX10_chain_7 rfl vo_X10_171 rfl (by decide) (Nat.le_of_ble_eq_true rfl) hf (x_X10_needMan l hl _ _ _) (c_X10_needMan l _ _ _) (fun r2 hf => ?_)
  refine wk_iload_n X dX10_chain_10 3 rfl ?_
  refine wk_iconst X dX10_chain_11 ic_1 ?_
  refine wk_bipush X dX10_chain_12 ib_12 ?_
  refine wk_callSxv X hT [.int x3, .int 1, .int 12] [] dX10_chain_14 rfl vo_X10_237 rfl (by decide) (Nat.le_of_ble_eq_true rfl) hf (x_X10_needWithin l hl _ _ _ _) (c_X10_needWithin l _ _ _ _) (fun r3 hf => ?_)
  exact nomatch hf
section Sf_X10_needRow
variable {p : Program} {l : Launch} {e : Env} {s : State} {m : MethodId} {args : Array Value} {below : List Frame} {meth : Method} {c : Code} {G : hp_G} {o : hp_H}
def f_X10_needRow_15  (h : hp_H) : Option (hp_H) := none
set_option maxRecDepth 20000 in
theorem w_X10_needRow_15 (X : wx G p s m args meth c cX10_needRow 2 RX10 none)  (h : hp_H) (hf : f_X10_needRow_15 h = some o) : wq p l e (mt_R (7) 0 0) s m args below meth c (MQ below (mt_Q G none o) args s 0 0 (hp_A G)) G 2 0 0 15 [] [] h := by
  unfold f_X10_needRow_15 at hf
  exact nomatch hf
end Sf_X10_needRow
def f_X10_needRow (x0 : Nat) (x1 : Int32) (h : hp_H) : Option (hp_H) := gd h x0 10 (if x1 < 0 then (f_X10_needRow_15 h) else ((rd_R h x0 10 4).bind fun v1 => (rd_I h v1 1 2).bind fun v2 => if x1 < v2 then (some h) else (f_X10_needRow_15 h)))
set_option maxRecDepth 20000 in
theorem c_X10_needRow (l : Launch) (x0 : Nat) (x1 : Int32) (h : hp_H) (r : hp_H) (hf : f_X10_needRow x0 x1 h = some r) : cv l (7) yX10_needRow cX10_needRow 2 none 10 x0 [.int x1] h none r := by
  unfold f_X10_needRow at hf
  refine cv_of (lv := [(0, .ref x0), (1, .int x1)]) hf (by decide +kernel) (Nat.le_of_ble_eq_true rfl) rfl (fun hf p e s m args below meth c G X => ?_)
  refine wk_iload_n X dX10_needRow_0 1 rfl ?_
  refine wk_if_lt X 15 dX10_needRow_1 (by decide) hf (fun hf => ?_) (fun hf => ?_)
  · exact wq_sub [] rfl (w_X10_needRow_15 X _ hf)
  · refine wk_iload_n X dX10_needRow_4 1 rfl ?_
    refine wk_aload_n X dX10_needRow_5 0 rfl ?_
    refine wk_getR X dX10_needRow_6 fo_X10_31 hf (fun v1 hf => ?_)
    refine wk_getI X dX10_needRow_9 fo_X10_141 hf (fun v2 hf => ?_)
    refine wk_icmp_lt X 26 dX10_needRow_12 (by decide) hf (fun hf => ?_) (fun hf => ?_)
    · exact wk_return X dX10_needRow_26 hf
    · exact wq_sub [] rfl (w_X10_needRow_15 X _ hf)
section Sg_X10_needRow
variable {p : Program} {l : Launch} {e : Env} {s : State} {m : MethodId} {args : Array Value} {below : List Frame} {meth : Method} {c : Code} {G : hp_G} {o : Nat × hp_H}
def g_X10_needRow_15  (h : hp_H) : Option (Nat × hp_H) := some (0, h)
set_option maxRecDepth 20000 in
theorem v_X10_needRow_15 (X : wx G p s m args meth c cX10_needRow 2 RX10 none) (hl : l.stackTraces = false) (hT : ∀ x ∈ c.exceptionTable.toList, False)  (h : hp_H) (hf : g_X10_needRow_15 h = some o) : wq p l e (mt_R (7) 1 6) s m args below meth c (vx_MQ below mx_N (mx_X G o.1 o.2) args s 1 6 (hp_A G)) G 2 0 0 15 [] [] h := by
  unfold g_X10_needRow_15 at hf
  exact wk_throw X hl hT 0 19 3 (by decide) (by decide) rfl xo_X10_166_170 dX10_needRow_15 dX10_needRow_18 (Or.inr ⟨dX10_needRow_19, rfl⟩) dX10_needRow_22 dX10_needRow_25 (Nat.le_of_ble_eq_true rfl) hf
end Sg_X10_needRow
def g_X10_needRow (x0 : Nat) (x1 : Int32) (h : hp_H) : Option (Nat × hp_H) := gd h x0 10 (if x1 < 0 then (g_X10_needRow_15 h) else ((rd_R h x0 10 4).bind fun v1 => (rd_I h v1 1 2).bind fun v2 => if x1 < v2 then (none) else (g_X10_needRow_15 h)))
set_option maxRecDepth 20000 in
theorem x_X10_needRow (l : Launch) (hl : l.stackTraces = false) (x0 : Nat) (x1 : Int32) (h : hp_H) (r : Nat × hp_H) (hf : g_X10_needRow x0 x1 h = some r) : cvx l (7) yX10_needRow cX10_needRow 2 none 10 x0 [.int x1] h r.1 r.2 := by
  unfold g_X10_needRow at hf
  refine cvx_of (lv := [(0, .ref x0), (1, .int x1)]) hf (by decide +kernel) (Nat.le_of_ble_eq_true rfl) rfl (fun hf p e s m args below meth c G hT X => ?_)
  refine wk_iload_n X dX10_needRow_0 1 rfl ?_
  refine wk_if_lt X 15 dX10_needRow_1 (by decide) hf (fun hf => ?_) (fun hf => ?_)
  · exact wq_sub [] rfl (v_X10_needRow_15 X hl hT _ hf)
  · refine wk_iload_n X dX10_needRow_4 1 rfl ?_
    refine wk_aload_n X dX10_needRow_5 0 rfl ?_
    refine wk_getR X dX10_needRow_6 fo_X10_31 hf (fun v1 hf => ?_)
    refine wk_getI X dX10_needRow_9 fo_X10_141 hf (fun v2 hf => ?_)
    refine wk_icmp_lt X 26 dX10_needRow_12 (by decide) hf (fun hf => ?_) (fun hf => ?_)
    · exact nomatch hf
    · exact wq_sub [] rfl (v_X10_needRow_15 X hl hT _ hf)
section Sf_X10_change
variable {p : Program} {l : Launch} {e : Env} {s : State} {m : MethodId} {args : Array Value} {below : List Frame} {meth : Method} {c : Code} {G : hp_G} {o : Int32 × hp_H}
end Sf_X10_change
def f_X10_change (x0 : Nat) (x1 : Int32) (x2 : Int32) (h : hp_H) : Option (Int32 × hp_H) := gd h x0 10 ((f_X10_needRow x0 x1 h).bind fun r1 => (f_X10_needRow x0 x2 r1).bind fun r2 => if x1 = x2 then ((f_X10_refuse x0 1 r2).bind fun r9 => if 0 = 0 ∨ 0 = 1 then some (0, r9) else none) else ((rd_R r2 x0 10 5).bind fun v3 => (rd_R r2 v3 8 1).bind fun v4 => (rd_R r2 x0 10 8).bind fun v5 => (f_X0_keep v4 4 x1 x2 v5 r2).bind fun r6 => (rd_R r6 x0 10 8).bind fun v7 => (f_X3_exchange v7 x1 x2 r6).bind fun r8 => if 1 = 0 ∨ 1 = 1 then some (1, r8) else none))
set_option maxRecDepth 20000 in
theorem c_X10_change (l : Launch) (x0 : Nat) (x1 : Int32) (x2 : Int32) (h : hp_H) (r : Int32 × hp_H) (hf : f_X10_change x0 x1 x2 h = some r) : cv l (8) yX10_change cX10_change 3 (some .boolean) 10 x0 [.int x1, .int x2] h (some (.int r.1)) r.2 := by
  unfold f_X10_change at hf
  refine cv_of (lv := [(0, .ref x0), (1, .int x1), (2, .int x2)]) hf (by decide +kernel) (Nat.le_of_ble_eq_true rfl) rfl (fun hf p e s m args below meth c G X => ?_)
  refine wk_aload_n X dX10_change_0 0 rfl ?_
  refine wk_iload_n X dX10_change_1 1 rfl ?_
  refine wk_callVv X [.int x1] [] dX10_change_2 rfl vo_X10_188 rfl (by decide) (Nat.le_of_ble_eq_true rfl) hf (c_X10_needRow l _ _ _) (fun r1 hf => ?_)
  refine wk_aload_n X dX10_change_5 0 rfl ?_
  refine wk_iload_n X dX10_change_6 2 rfl ?_
  refine wk_callVv X [.int x2] [] dX10_change_7 rfl vo_X10_188 rfl (by decide) (Nat.le_of_ble_eq_true rfl) hf (c_X10_needRow l _ _ _) (fun r2 hf => ?_)
  refine wk_iload_n X dX10_change_10 1 rfl ?_
  refine wk_iload_n X dX10_change_11 2 rfl ?_
  refine wk_icmp_ne X 22 dX10_change_12 (by decide) hf (fun hf => ?_) (fun hf => ?_)
  · refine wk_aload_n X dX10_change_22 0 rfl ?_
    refine wk_getR X dX10_change_23 fo_X10_40 hf (fun v3 hf => ?_)
    refine wk_getR X dX10_change_26 fo_X10_119 hf (fun v4 hf => ?_)
    refine wk_iconst X dX10_change_29 ic_4 ?_
    refine wk_iload_n X dX10_change_30 1 rfl ?_
    refine wk_iload_n X dX10_change_31 2 rfl ?_
    refine wk_aload_n X dX10_change_32 0 rfl ?_
    refine wk_getR X dX10_change_33 fo_X10_55 hf (fun v5 hf => ?_)
    refine wk_callVv X [.int 4, .int x1, .int x2, .ref v5] [] dX10_change_36 rfl vo_X10_203 rfl (by decide) (Nat.le_of_ble_eq_true rfl) hf (c_X0_keep l _ _ _ _ _ _) (fun r6 hf => ?_)
    refine wk_aload_n X dX10_change_39 0 rfl ?_
    refine wk_getR X dX10_change_40 fo_X10_55 hf (fun v7 hf => ?_)
    refine wk_iload_n X dX10_change_43 1 rfl ?_
    refine wk_iload_n X dX10_change_44 2 rfl ?_
    refine wk_callVv X [.int x1, .int x2] [] dX10_change_45 rfl vo_X10_227 rfl (by decide) (Nat.le_of_ble_eq_true rfl) hf (c_X3_exchange l _ _ _ _) (fun r8 hf => ?_)
    refine wk_iconst X dX10_change_48 ic_1 ?_
    exact wk_zreturn X dX10_change_49 hf
  · refine wk_aload_n X dX10_change_15 0 rfl ?_
    refine wk_iconst X dX10_change_16 ic_1 ?_
    refine wk_callVv X [.int 1] [] dX10_change_17 rfl vo_X10_106 rfl (by decide) (Nat.le_of_ble_eq_true rfl) hf (c_X10_refuse l _ _ _) (fun r9 hf => ?_)
    refine wk_iconst X dX10_change_20 ic_0 ?_
    exact wk_zreturn X dX10_change_21 hf
section Sg_X10_change
variable {p : Program} {l : Launch} {e : Env} {s : State} {m : MethodId} {args : Array Value} {below : List Frame} {meth : Method} {c : Code} {G : hp_G} {o : Nat × hp_H}
end Sg_X10_change
def g_X10_change (x0 : Nat) (x1 : Int32) (x2 : Int32) (h : hp_H) : Option (Nat × hp_H) := gd h x0 10 (xb (g_X10_needRow x0 x1 h) (f_X10_needRow x0 x1 h) fun r1 => xb (g_X10_needRow x0 x2 r1) (f_X10_needRow x0 x2 r1) fun r2 => none)
set_option maxRecDepth 20000 in
theorem x_X10_change (l : Launch) (hl : l.stackTraces = false) (x0 : Nat) (x1 : Int32) (x2 : Int32) (h : hp_H) (r : Nat × hp_H) (hf : g_X10_change x0 x1 x2 h = some r) : cvx l (8) yX10_change cX10_change 3 (some .boolean) 10 x0 [.int x1, .int x2] h r.1 r.2 := by
  unfold g_X10_change at hf
  refine cvx_of (lv := [(0, .ref x0), (1, .int x1), (2, .int x2)]) hf (by decide +kernel) (Nat.le_of_ble_eq_true rfl) rfl (fun hf p e s m args below meth c G hT X => ?_)
  refine wk_aload_n X dX10_change_0 0 rfl ?_
  refine wk_iload_n X dX10_change_1 1 rfl ?_
  refine wk_callVxv X hT [.int x1] [] dX10_change_2 rfl vo_X10_188 rfl (by decide) (Nat.le_of_ble_eq_true rfl) hf (x_X10_needRow l hl _ _ _) (c_X10_needRow l _ _ _) (fun r1 hf => ?_)
  refine wk_aload_n X dX10_change_5 0 rfl ?_
  refine wk_iload_n X dX10_change_6 2 rfl ?_
  refine wk_callVxv X hT [.int x2] [] dX10_change_7 rfl vo_X10_188 rfl (by decide) (Nat.le_of_ble_eq_true rfl) hf (x_X10_needRow l hl _ _ _) (c_X10_needRow l _ _ _) (fun r2 hf => ?_)
  exact nomatch hf
section Sf_X10_count
variable {p : Program} {l : Launch} {e : Env} {s : State} {m : MethodId} {args : Array Value} {below : List Frame} {meth : Method} {c : Code} {G : hp_G} {o : Int32 × hp_H}
end Sf_X10_count
def f_X10_count (x0 : Nat) (x1 : Int32) (h : hp_H) : Option (Int32 × hp_H) := gd h x0 10 (if x1 = 0 then ((rd_R h x0 10 4).bind fun v1 => (rd_I h v1 1 0).bind fun v2 => some (v2, h)) else (if x1 = 1 then ((rd_R h x0 10 4).bind fun v3 => (rd_I h v3 1 1).bind fun v4 => some (v4, h)) else (if x1 = 2 then ((rd_R h x0 10 4).bind fun v5 => (rd_I h v5 1 2).bind fun v6 => some (v6, h)) else (if x1 = 3 then ((rd_R h x0 10 4).bind fun v7 => (rd_I h v7 1 3).bind fun v8 => some (v8, h)) else (if x1 = 4 then ((rd_R h x0 10 8).bind fun v9 => (rd_I h v9 3 1).bind fun v10 => some (v10, h)) else (if x1 = 5 then ((rd_R h x0 10 8).bind fun v11 => (f_X3_mudIn v11 0 h).bind fun r12 => some (r12.1, r12.2)) else (if x1 = 6 then ((rd_R h x0 10 8).bind fun v13 => (f_X3_honourOfAll v13 h).bind fun r14 => some (r14.1, r14.2)) else (if x1 = 7 then ((rd_R h x0 10 8).bind fun v15 => (f_X3_menInCamp v15 h).bind fun r16 => some (r16.1, r16.2)) else (if x1 = 8 then ((rd_R h x0 10 8).bind fun v17 => (f_X3_couplesInStep v17 h).bind fun r18 => some (r18.1, r18.2)) else (if x1 = 9 then ((rd_R h x0 10 5).bind fun v19 => (rd_R h v19 8 1).bind fun v20 => (rd_I h v20 0 4).bind fun v21 => some (v21, h)) else (if x1 = 10 then ((rd_R h x0 10 5).bind fun v22 => (rd_R h v22 8 2).bind fun v23 => (rd_I h v23 7 4).bind fun v24 => some (v24, h)) else (if x1 = 11 then ((rd_I h x0 10 1).bind fun v25 => some (v25, h)) else (if x1 = 12 then ((rd_R h x0 10 3).bind fun v26 => (f_X2_at v26 0 h).bind fun r27 => some (r27.1, r27.2)) else (if x1 = 13 then ((rd_R h x0 10 3).bind fun v28 => (f_X2_at v28 1 h).bind fun r29 => some (r29.1, r29.2)) else (if x1 = 14 then ((rd_R h x0 10 3).bind fun v30 => (f_X2_at v30 2 h).bind fun r31 => some (r31.1, r31.2)) else (none))))))))))))))))
set_option maxRecDepth 20000 in
theorem c_X10_count (l : Launch) (x0 : Nat) (x1 : Int32) (h : hp_H) (r : Int32 × hp_H) (hf : f_X10_count x0 x1 h = some r) : cv l (7) yX10_count cX10_count 2 (some .int) 10 x0 [.int x1] h (some (.int r.1)) r.2 := by
  unfold f_X10_count at hf
  refine cv_of (lv := [(0, .ref x0), (1, .int x1)]) hf (by decide +kernel) (Nat.le_of_ble_eq_true rfl) rfl (fun hf p e s m args below meth c G X => ?_)
  refine wk_iload_n X dX10_count_0 1 rfl ?_
  refine wk_ts_in X 76 0 dX10_count_1 (by decide) (by decide) (by decide) rfl (by decide) hf (fun hf => ?_) (fun n0 hf => ?_)
  · refine wk_aload_n X dX10_count_76 0 rfl ?_
    refine wk_getR X dX10_count_77 fo_X10_31 hf (fun v1 hf => ?_)
    refine wk_getI X dX10_count_80 fo_X10_135 hf (fun v2 hf => ?_)
    exact wk_ireturn X dX10_count_83 hf
  refine wk_ts_in X 84 1 dX10_count_1 (by decide) (by decide) (by decide) rfl (by decide) hf (fun hf => ?_) (fun n1 hf => ?_)
  · refine wk_aload_n X dX10_count_84 0 rfl ?_
    refine wk_getR X dX10_count_85 fo_X10_31 hf (fun v3 hf => ?_)
    refine wk_getI X dX10_count_88 fo_X10_138 hf (fun v4 hf => ?_)
    exact wk_ireturn X dX10_count_91 hf
  refine wk_ts_in X 92 2 dX10_count_1 (by decide) (by decide) (by decide) rfl (by decide) hf (fun hf => ?_) (fun n2 hf => ?_)
  · refine wk_aload_n X dX10_count_92 0 rfl ?_
    refine wk_getR X dX10_count_93 fo_X10_31 hf (fun v5 hf => ?_)
    refine wk_getI X dX10_count_96 fo_X10_141 hf (fun v6 hf => ?_)
    exact wk_ireturn X dX10_count_99 hf
  refine wk_ts_in X 100 3 dX10_count_1 (by decide) (by decide) (by decide) rfl (by decide) hf (fun hf => ?_) (fun n3 hf => ?_)
  · refine wk_aload_n X dX10_count_100 0 rfl ?_
    refine wk_getR X dX10_count_101 fo_X10_31 hf (fun v7 hf => ?_)
    refine wk_getI X dX10_count_104 fo_X10_144 hf (fun v8 hf => ?_)
    exact wk_ireturn X dX10_count_107 hf
  refine wk_ts_in X 108 4 dX10_count_1 (by decide) (by decide) (by decide) rfl (by decide) hf (fun hf => ?_) (fun n4 hf => ?_)
  · refine wk_aload_n X dX10_count_108 0 rfl ?_
    refine wk_getR X dX10_count_109 fo_X10_55 hf (fun v9 hf => ?_)
    refine wk_getI X dX10_count_112 fo_X10_147 hf (fun v10 hf => ?_)
    exact wk_ireturn X dX10_count_115 hf
  refine wk_ts_in X 116 5 dX10_count_1 (by decide) (by decide) (by decide) rfl (by decide) hf (fun hf => ?_) (fun n5 hf => ?_)
  · refine wk_aload_n X dX10_count_116 0 rfl ?_
    refine wk_getR X dX10_count_117 fo_X10_55 hf (fun v11 hf => ?_)
    refine wk_iconst X dX10_count_120 ic_0 ?_
    refine wk_callVi X [.int 0] [] dX10_count_121 rfl vo_X10_150 rfl (by decide) (Nat.le_of_ble_eq_true rfl) hf (c_X3_mudIn l _ _ _) (fun r12 hf => ?_)
    exact wk_ireturn X dX10_count_124 hf
  refine wk_ts_in X 125 6 dX10_count_1 (by decide) (by decide) (by decide) rfl (by decide) hf (fun hf => ?_) (fun n6 hf => ?_)
  · refine wk_aload_n X dX10_count_125 0 rfl ?_
    refine wk_getR X dX10_count_126 fo_X10_55 hf (fun v13 hf => ?_)
    refine wk_callVi X [] [] dX10_count_129 rfl vo_X10_153 rfl (by decide) (Nat.le_of_ble_eq_true rfl) hf (c_X3_honourOfAll l _ _) (fun r14 hf => ?_)
    exact wk_ireturn X dX10_count_132 hf
  refine wk_ts_in X 133 7 dX10_count_1 (by decide) (by decide) (by decide) rfl (by decide) hf (fun hf => ?_) (fun n7 hf => ?_)
  · refine wk_aload_n X dX10_count_133 0 rfl ?_
    refine wk_getR X dX10_count_134 fo_X10_55 hf (fun v15 hf => ?_)
    refine wk_callVi X [] [] dX10_count_137 rfl vo_X10_157 rfl (by decide) (Nat.le_of_ble_eq_true rfl) hf (c_X3_menInCamp l _ _) (fun r16 hf => ?_)
    exact wk_ireturn X dX10_count_140 hf
  refine wk_ts_in X 141 8 dX10_count_1 (by decide) (by decide) (by decide) rfl (by decide) hf (fun hf => ?_) (fun n8 hf => ?_)
  · refine wk_aload_n X dX10_count_141 0 rfl ?_
    refine wk_getR X dX10_count_142 fo_X10_55 hf (fun v17 hf => ?_)
    refine wk_callVi X [] [] dX10_count_145 rfl vo_X10_160 rfl (by decide) (Nat.le_of_ble_eq_true rfl) hf (c_X3_couplesInStep l _ _) (fun r18 hf => ?_)
    exact wk_ireturn X dX10_count_148 hf
  refine wk_ts_in X 149 9 dX10_count_1 (by decide) (by decide) (by decide) rfl (by decide) hf (fun hf => ?_) (fun n9 hf => ?_)
  · refine wk_aload_n X dX10_count_149 0 rfl ?_
    refine wk_getR X dX10_count_150 fo_X10_40 hf (fun v19 hf => ?_)
    refine wk_getR X dX10_count_153 fo_X10_119 hf (fun v20 hf => ?_)
    refine wk_getI X dX10_count_156 fo_X10_123 hf (fun v21 hf => ?_)
    exact wk_ireturn X dX10_count_159 hf
  refine wk_ts_in X 160 10 dX10_count_1 (by decide) (by decide) (by decide) rfl (by decide) hf (fun hf => ?_) (fun n10 hf => ?_)
  · refine wk_aload_n X dX10_count_160 0 rfl ?_
    refine wk_getR X dX10_count_161 fo_X10_40 hf (fun v22 hf => ?_)
    refine wk_getR X dX10_count_164 fo_X10_128 hf (fun v23 hf => ?_)
    refine wk_getI X dX10_count_167 fo_X10_132 hf (fun v24 hf => ?_)
    exact wk_ireturn X dX10_count_170 hf
  refine wk_ts_in X 171 11 dX10_count_1 (by decide) (by decide) (by decide) rfl (by decide) hf (fun hf => ?_) (fun n11 hf => ?_)
  · refine wk_aload_n X dX10_count_171 0 rfl ?_
    refine wk_getI X dX10_count_172 fo_X10_18 hf (fun v25 hf => ?_)
    exact wk_ireturn X dX10_count_175 hf
  refine wk_ts_in X 176 12 dX10_count_1 (by decide) (by decide) (by decide) rfl (by decide) hf (fun hf => ?_) (fun n12 hf => ?_)
  · refine wk_aload_n X dX10_count_176 0 rfl ?_
    refine wk_getR X dX10_count_177 fo_X10_25 hf (fun v26 hf => ?_)
    refine wk_iconst X dX10_count_180 ic_0 ?_
    refine wk_callVi X [.int 0] [] dX10_count_181 rfl vo_X10_163 rfl (by decide) (Nat.le_of_ble_eq_true rfl) hf (c_X2_at l _ _ _) (fun r27 hf => ?_)
    exact wk_ireturn X dX10_count_184 hf
  refine wk_ts_in X 185 13 dX10_count_1 (by decide) (by decide) (by decide) rfl (by decide) hf (fun hf => ?_) (fun n13 hf => ?_)
  · refine wk_aload_n X dX10_count_185 0 rfl ?_
    refine wk_getR X dX10_count_186 fo_X10_25 hf (fun v28 hf => ?_)
    refine wk_iconst X dX10_count_189 ic_1 ?_
    refine wk_callVi X [.int 1] [] dX10_count_190 rfl vo_X10_163 rfl (by decide) (Nat.le_of_ble_eq_true rfl) hf (c_X2_at l _ _ _) (fun r29 hf => ?_)
    exact wk_ireturn X dX10_count_193 hf
  refine wk_ts_in X 194 14 dX10_count_1 (by decide) (by decide) (by decide) rfl (by decide) hf (fun hf => ?_) (fun n14 hf => ?_)
  · refine wk_aload_n X dX10_count_194 0 rfl ?_
    refine wk_getR X dX10_count_195 fo_X10_25 hf (fun v30 hf => ?_)
    refine wk_iconst X dX10_count_198 ic_2 ?_
    refine wk_callVi X [.int 2] [] dX10_count_199 rfl vo_X10_163 rfl (by decide) (Nat.le_of_ble_eq_true rfl) hf (c_X2_at l _ _ _) (fun r31 hf => ?_)
    exact wk_ireturn X dX10_count_202 hf
  refine wk_ts_out X 203 dX10_count_1 (fc_c n0 (fc_c n1 (fc_c n2 (fc_c n3 (fc_c n4 (fc_c n5 (fc_c n6 (fc_c n7 (fc_c n8 (fc_c n9 (fc_c n10 (fc_c n11 (fc_c n12 (fc_c n13 (fc_c n14 fc_n))))))))))))))) (by decide) (by decide) (by decide) ?_
  exact nomatch hf
section Sg_X10_count
variable {p : Program} {l : Launch} {e : Env} {s : State} {m : MethodId} {args : Array Value} {below : List Frame} {meth : Method} {c : Code} {G : hp_G} {o : Nat × hp_H}
end Sg_X10_count
def g_X10_count (x0 : Nat) (x1 : Int32) (h : hp_H) : Option (Nat × hp_H) := gd h x0 10 (if x1 = 0 then (none) else (if x1 = 1 then (none) else (if x1 = 2 then (none) else (if x1 = 3 then (none) else (if x1 = 4 then (none) else (if x1 = 5 then (none) else (if x1 = 6 then (none) else (if x1 = 7 then (none) else (if x1 = 8 then (none) else (if x1 = 9 then (none) else (if x1 = 10 then (none) else (if x1 = 11 then (none) else (if x1 = 12 then (none) else (if x1 = 13 then (none) else (if x1 = 14 then (none) else (some (0, h)))))))))))))))))
set_option maxRecDepth 20000 in
theorem x_X10_count (l : Launch) (hl : l.stackTraces = false) (x0 : Nat) (x1 : Int32) (h : hp_H) (r : Nat × hp_H) (hf : g_X10_count x0 x1 h = some r) : cvx l (7) yX10_count cX10_count 2 (some .int) 10 x0 [.int x1] h r.1 r.2 := by
  unfold g_X10_count at hf
  refine cvx_of (lv := [(0, .ref x0), (1, .int x1)]) hf (by decide +kernel) (Nat.le_of_ble_eq_true rfl) rfl (fun hf p e s m args below meth c G hT X => ?_)
  refine wk_iload_n X dX10_count_0 1 rfl ?_
  refine wk_ts_in X 76 0 dX10_count_1 (by decide) (by decide) (by decide) rfl (by decide) hf (fun hf => ?_) (fun n0 hf => ?_)
  · exact nomatch hf
  refine wk_ts_in X 84 1 dX10_count_1 (by decide) (by decide) (by decide) rfl (by decide) hf (fun hf => ?_) (fun n1 hf => ?_)
  · exact nomatch hf
  refine wk_ts_in X 92 2 dX10_count_1 (by decide) (by decide) (by decide) rfl (by decide) hf (fun hf => ?_) (fun n2 hf => ?_)
  · exact nomatch hf
  refine wk_ts_in X 100 3 dX10_count_1 (by decide) (by decide) (by decide) rfl (by decide) hf (fun hf => ?_) (fun n3 hf => ?_)
  · exact nomatch hf
  refine wk_ts_in X 108 4 dX10_count_1 (by decide) (by decide) (by decide) rfl (by decide) hf (fun hf => ?_) (fun n4 hf => ?_)
  · exact nomatch hf
  refine wk_ts_in X 116 5 dX10_count_1 (by decide) (by decide) (by decide) rfl (by decide) hf (fun hf => ?_) (fun n5 hf => ?_)
  · exact nomatch hf
  refine wk_ts_in X 125 6 dX10_count_1 (by decide) (by decide) (by decide) rfl (by decide) hf (fun hf => ?_) (fun n6 hf => ?_)
  · exact nomatch hf
  refine wk_ts_in X 133 7 dX10_count_1 (by decide) (by decide) (by decide) rfl (by decide) hf (fun hf => ?_) (fun n7 hf => ?_)
  · exact nomatch hf
  refine wk_ts_in X 141 8 dX10_count_1 (by decide) (by decide) (by decide) rfl (by decide) hf (fun hf => ?_) (fun n8 hf => ?_)
  · exact nomatch hf
  refine wk_ts_in X 149 9 dX10_count_1 (by decide) (by decide) (by decide) rfl (by decide) hf (fun hf => ?_) (fun n9 hf => ?_)
  · exact nomatch hf
  refine wk_ts_in X 160 10 dX10_count_1 (by decide) (by decide) (by decide) rfl (by decide) hf (fun hf => ?_) (fun n10 hf => ?_)
  · exact nomatch hf
  refine wk_ts_in X 171 11 dX10_count_1 (by decide) (by decide) (by decide) rfl (by decide) hf (fun hf => ?_) (fun n11 hf => ?_)
  · exact nomatch hf
  refine wk_ts_in X 176 12 dX10_count_1 (by decide) (by decide) (by decide) rfl (by decide) hf (fun hf => ?_) (fun n12 hf => ?_)
  · exact nomatch hf
  refine wk_ts_in X 185 13 dX10_count_1 (by decide) (by decide) (by decide) rfl (by decide) hf (fun hf => ?_) (fun n13 hf => ?_)
  · exact nomatch hf
  refine wk_ts_in X 194 14 dX10_count_1 (by decide) (by decide) (by decide) rfl (by decide) hf (fun hf => ?_) (fun n14 hf => ?_)
  · exact nomatch hf
  refine wk_ts_out X 203 dX10_count_1 (fc_c n0 (fc_c n1 (fc_c n2 (fc_c n3 (fc_c n4 (fc_c n5 (fc_c n6 (fc_c n7 (fc_c n8 (fc_c n9 (fc_c n10 (fc_c n11 (fc_c n12 (fc_c n13 (fc_c n14 fc_n))))))))))))))) (by decide) (by decide) (by decide) ?_
  exact wk_throw X hl hT 0 16 2 (by decide) (by decide) rfl xo_X10_166_170 dX10_count_203 dX10_count_206 (Or.inl ⟨dX10_count_207, rfl⟩) dX10_count_209 dX10_count_212 (Nat.le_of_ble_eq_true rfl) hf
section Sf_X10_far
variable {p : Program} {l : Launch} {e : Env} {s : State} {m : MethodId} {args : Array Value} {below : List Frame} {meth : Method} {c : Code} {G : hp_G} {o : Int32 × hp_H}
end Sf_X10_far
def f_X10_far (x0 : Nat) (x1 : Int32) (x2 : Int32) (h : hp_H) : Option (Int32 × hp_H) := gd h x0 10 ((f_X10_needMan x0 x1 h).bind fun r1 => (f_X10_needMan x0 x2 r1).bind fun r2 => (rd_R r2 x0 10 8).bind fun v3 => (rd_R r2 x0 10 8).bind fun v4 => (rd_R r2 v4 3 2).bind fun v5 => (f_X2_at v5 x2 r2).bind fun r6 => (f_X3_farFrom v3 x1 r6.1 r6.2).bind fun r7 => some (r7.1, r7.2))
set_option maxRecDepth 20000 in
theorem c_X10_far (l : Launch) (x0 : Nat) (x1 : Int32) (x2 : Int32) (h : hp_H) (r : Int32 × hp_H) (hf : f_X10_far x0 x1 x2 h = some r) : cv l (8) yX10_far cX10_far 3 (some .int) 10 x0 [.int x1, .int x2] h (some (.int r.1)) r.2 := by
  unfold f_X10_far at hf
  refine cv_of (lv := [(0, .ref x0), (1, .int x1), (2, .int x2)]) hf (by decide +kernel) (Nat.le_of_ble_eq_true rfl) rfl (fun hf p e s m args below meth c G X => ?_)
  refine wk_aload_n X dX10_far_0 0 rfl ?_
  refine wk_iload_n X dX10_far_1 1 rfl ?_
  refine wk_callVv X [.int x1] [] dX10_far_2 rfl vo_X10_171 rfl (by decide) (Nat.le_of_ble_eq_true rfl) hf (c_X10_needMan l _ _ _) (fun r1 hf => ?_)
  refine wk_aload_n X dX10_far_5 0 rfl ?_
  refine wk_iload_n X dX10_far_6 2 rfl ?_
  refine wk_callVv X [.int x2] [] dX10_far_7 rfl vo_X10_171 rfl (by decide) (Nat.le_of_ble_eq_true rfl) hf (c_X10_needMan l _ _ _) (fun r2 hf => ?_)
  refine wk_aload_n X dX10_far_10 0 rfl ?_
  refine wk_getR X dX10_far_11 fo_X10_55 hf (fun v3 hf => ?_)
  refine wk_iload_n X dX10_far_14 1 rfl ?_
  refine wk_aload_n X dX10_far_15 0 rfl ?_
  refine wk_getR X dX10_far_16 fo_X10_55 hf (fun v4 hf => ?_)
  refine wk_getR X dX10_far_19 fo_X10_174 hf (fun v5 hf => ?_)
  refine wk_iload_n X dX10_far_22 2 rfl ?_
  refine wk_callVi X [.int x2] [.int x1, .ref v3] dX10_far_23 rfl vo_X10_163 rfl (by decide) (Nat.le_of_ble_eq_true rfl) hf (c_X2_at l _ _ _) (fun r6 hf => ?_)
  refine wk_callVi X [.int x1, .int r6.1] [] dX10_far_26 rfl vo_X10_259 rfl (by decide) (Nat.le_of_ble_eq_true rfl) hf (c_X3_farFrom l _ _ _ _) (fun r7 hf => ?_)
  exact wk_ireturn X dX10_far_29 hf
section Sg_X10_far
variable {p : Program} {l : Launch} {e : Env} {s : State} {m : MethodId} {args : Array Value} {below : List Frame} {meth : Method} {c : Code} {G : hp_G} {o : Nat × hp_H}
end Sg_X10_far
def g_X10_far (x0 : Nat) (x1 : Int32) (x2 : Int32) (h : hp_H) : Option (Nat × hp_H) := gd h x0 10 (xb (g_X10_needMan x0 x1 h) (f_X10_needMan x0 x1 h) fun r1 => xb (g_X10_needMan x0 x2 r1) (f_X10_needMan x0 x2 r1) fun r2 => none)
set_option maxRecDepth 20000 in
theorem x_X10_far (l : Launch) (hl : l.stackTraces = false) (x0 : Nat) (x1 : Int32) (x2 : Int32) (h : hp_H) (r : Nat × hp_H) (hf : g_X10_far x0 x1 x2 h = some r) : cvx l (8) yX10_far cX10_far 3 (some .int) 10 x0 [.int x1, .int x2] h r.1 r.2 := by
  unfold g_X10_far at hf
  refine cvx_of (lv := [(0, .ref x0), (1, .int x1), (2, .int x2)]) hf (by decide +kernel) (Nat.le_of_ble_eq_true rfl) rfl (fun hf p e s m args below meth c G hT X => ?_)
  refine wk_aload_n X dX10_far_0 0 rfl ?_
  refine wk_iload_n X dX10_far_1 1 rfl ?_
  refine wk_callVxv X hT [.int x1] [] dX10_far_2 rfl vo_X10_171 rfl (by decide) (Nat.le_of_ble_eq_true rfl) hf (x_X10_needMan l hl _ _ _) (c_X10_needMan l _ _ _) (fun r1 hf => ?_)
  refine wk_aload_n X dX10_far_5 0 rfl ?_
  refine wk_iload_n X dX10_far_6 2 rfl ?_
  refine wk_callVxv X hT [.int x2] [] dX10_far_7 rfl vo_X10_171 rfl (by decide) (Nat.le_of_ble_eq_true rfl) hf (x_X10_needMan l hl _ _ _) (c_X10_needMan l _ _ _) (fun r2 hf => ?_)
  exact nomatch hf
section Sf_X10_first
variable {p : Program} {l : Launch} {e : Env} {s : State} {m : MethodId} {args : Array Value} {below : List Frame} {meth : Method} {c : Code} {G : hp_G} {o : Int32 × hp_H}
def f_X10_first_43  (h : hp_H) : Option (Int32 × hp_H) := some ((-1), h)
set_option maxRecDepth 20000 in
theorem w_X10_first_43 (X : wx G p s m args meth c cX10_first 3 RX10 (some .int))  (h : hp_H) (hf : f_X10_first_43 h = some o) : wq p l e (mt_R (8) 0 0) s m args below meth c (MQ below (mt_Q G (some (.int o.1)) o.2) args s 0 0 (hp_A G)) G 3 0 0 43 [] [] h := by
  unfold f_X10_first_43 at hf
  refine wk_iconst X dX10_first_43 ic_m1 ?_
  exact wk_ireturn X dX10_first_44 hf
def f_X10_first_33 (x2 : Int32) (h : hp_H) : Option (Int32 × hp_H) := some (x2 + 1, h)
set_option maxRecDepth 20000 in
theorem w_X10_first_33 (X : wx G p s m args meth c cX10_first 3 RX10 (some .int)) (x2 : Int32) (h : hp_H) (hf : f_X10_first_33 x2 h = some o) : wq p l e (mt_R (8) 0 0) s m args below meth c (MQ below (mt_Q G (some (.int o.1)) o.2) args s 0 0 (hp_A G)) G 3 0 0 33 [(2, .int x2)] [] h := by
  unfold f_X10_first_33 at hf
  refine wk_iload_n X dX10_first_33 0 rfl ?_
  refine wk_iconst X dX10_first_34 ic_1 ?_
  refine wk_iadd X dX10_first_35 ?_
  exact wk_ireturn X dX10_first_36 hf
def f_X10_first_7 (k7 : Nat → Int32 → Int32 → hp_H → Option (Int32 × hp_H)) (x0 : Nat) (x1 : Int32) (x2 : Int32) (h : hp_H) : Option (Int32 × hp_H) := if 40 ≤ x2 then (f_X10_first_43 h) else ((rd_R h x0 10 8).bind fun v1 => (rd_R h x0 10 8).bind fun v2 => (f_X3_mudIn v2 x2 h).bind fun r3 => (f_X3_timesNamed v1 x1 x2 r3.1 r3.2).bind fun r4 => if r4.1 ≤ 0 then (k7 x0 x1 (x2 + 1) r4.2) else (f_X10_first_33 x2 r4.2))
set_option maxRecDepth 20000 in
theorem w_X10_first_7 (X : wx G p s m args meth c cX10_first 3 RX10 (some .int)) (k7 : Nat → Int32 → Int32 → hp_H → Option (Int32 × hp_H)) (hk7 : ∀ (x0 : Nat) (x1 : Int32) (x2 : Int32) (h : hp_H), k7 x0 x1 x2 h = some o → wq p l e (mt_R (8) 0 0) s m args below meth c (MQ below (mt_Q G (some (.int o.1)) o.2) args s 0 0 (hp_A G)) G 3 0 0 7 [(0, .ref x0), (1, .int x1), (2, .int x2)] [] h) (x0 : Nat) (x1 : Int32) (x2 : Int32) (h : hp_H) (hf : f_X10_first_7 k7 x0 x1 x2 h = some o) : wq p l e (mt_R (8) 0 0) s m args below meth c (MQ below (mt_Q G (some (.int o.1)) o.2) args s 0 0 (hp_A G)) G 3 0 0 7 [(0, .ref x0), (1, .int x1), (2, .int x2)] [] h := by
  unfold f_X10_first_7 at hf
  refine wk_iload_n X dX10_first_7 2 rfl ?_
  refine wk_bipush X dX10_first_8 ib_40 ?_
  refine wk_icmp_ge X 43 dX10_first_10 (by decide) hf (fun hf => ?_) (fun hf => ?_)
  · exact wq_sub [] rfl (w_X10_first_43 X _ hf)
  · refine wk_aload_n X dX10_first_13 0 rfl ?_
    refine wk_getR X dX10_first_14 fo_X10_55 hf (fun v1 hf => ?_)
    refine wk_iload_n X dX10_first_17 1 rfl ?_
    refine wk_iload_n X dX10_first_18 2 rfl ?_
    refine wk_aload_n X dX10_first_19 0 rfl ?_
    refine wk_getR X dX10_first_20 fo_X10_55 hf (fun v2 hf => ?_)
    refine wk_iload_n X dX10_first_23 2 rfl ?_
    refine wk_callVi X [.int x2] [.int x2, .int x1, .ref v1] dX10_first_24 rfl vo_X10_150 rfl (by decide) (Nat.le_of_ble_eq_true rfl) hf (c_X3_mudIn l _ _ _) (fun r3 hf => ?_)
    refine wk_callVi X [.int x1, .int x2, .int r3.1] [] dX10_first_27 rfl vo_X10_244 rfl (by decide) (Nat.le_of_ble_eq_true rfl) hf (c_X3_timesNamed l _ _ _ _ _) (fun r4 hf => ?_)
    refine wk_if_le X 37 dX10_first_30 (by decide) hf (fun hf => ?_) (fun hf => ?_)
    · refine wk_iinc (lv' := [(2, .int (x2 + 1)), (0, .ref x0), (1, .int x1)]) X dX10_first_37 2 rfl ic_1 (by decide) rfl ?_
      refine wk_goto X 7 dX10_first_40 (by decide) ?_
      exact wq_sub [1, 2, 0] rfl (hk7 _ _ _ _ hf)
    · exact wq_sub [2] rfl (w_X10_first_33 X _ _ hf)
def l_X10_first_7 (x0 : Nat) (x1 : Int32) (x2 : Int32) (h : hp_H) : Option (Int32 × hp_H) := lp (fun k (s : Nat × Int32 × Int32 × hp_H) => f_X10_first_7  (fun a0 a1 a2 a3 => k (a0, a1, a2, a3)) s.1 s.2.1 s.2.2.1 s.2.2.2) 100000 (x0, x1, x2, h)
theorem wl_X10_first_7 (X : wx G p s m args meth c cX10_first 3 RX10 (some .int)) (x0 : Nat) (x1 : Int32) (x2 : Int32) (h : hp_H) (hf : l_X10_first_7 x0 x1 x2 h = some o) : wq p l e (mt_R (8) 0 0) s m args below meth c (MQ below (mt_Q G (some (.int o.1)) o.2) args s 0 0 (hp_A G)) G 3 0 0 7 [(0, .ref x0), (1, .int x1), (2, .int x2)] [] h :=
  lp_ind (P := fun (s_ : Nat × Int32 × Int32 × hp_H) => wq p l e (mt_R (8) 0 0) s m args below meth c (MQ below (mt_Q G (some (.int o.1)) o.2) args s 0 0 (hp_A G)) G 3 0 0 7 [(0, .ref s_.1), (1, .int s_.2.1), (2, .int s_.2.2.1)] [] s_.2.2.2) (fun k s hk hf => w_X10_first_7 X  (fun a0 a1 a2 a3 => k (a0, a1, a2, a3)) (fun a0 a1 a2 a3 hf => hk (a0, a1, a2, a3) hf) s.1 s.2.1 s.2.2.1 s.2.2.2 hf) 100000 (x0, x1, x2, h) hf
end Sf_X10_first
def f_X10_first (x0 : Nat) (x1 : Int32) (h : hp_H) : Option (Int32 × hp_H) := gd h x0 10 ((f_X10_needMan x0 x1 h).bind fun r1 => l_X10_first_7 x0 x1 0 r1)
set_option maxRecDepth 20000 in
theorem c_X10_first (l : Launch) (x0 : Nat) (x1 : Int32) (h : hp_H) (r : Int32 × hp_H) (hf : f_X10_first x0 x1 h = some r) : cv l (8) yX10_first cX10_first 3 (some .int) 10 x0 [.int x1] h (some (.int r.1)) r.2 := by
  unfold f_X10_first at hf
  refine cv_of (lv := [(0, .ref x0), (1, .int x1)]) hf (by decide +kernel) (Nat.le_of_ble_eq_true rfl) rfl (fun hf p e s m args below meth c G X => ?_)
  refine wk_aload_n X dX10_first_0 0 rfl ?_
  refine wk_iload_n X dX10_first_1 1 rfl ?_
  refine wk_callVv X [.int x1] [] dX10_first_2 rfl vo_X10_171 rfl (by decide) (Nat.le_of_ble_eq_true rfl) hf (c_X10_needMan l _ _ _) (fun r1 hf => ?_)
  refine wk_iconst X dX10_first_5 ic_0 ?_
  refine wk_istore_n (lv' := [(2, .int 0), (0, .ref x0), (1, .int x1)]) X dX10_first_6 (by decide) rfl ?_
  exact wq_sub [1, 2, 0] rfl (wl_X10_first_7 X _ _ _ _ hf)
section Sg_X10_first
variable {p : Program} {l : Launch} {e : Env} {s : State} {m : MethodId} {args : Array Value} {below : List Frame} {meth : Method} {c : Code} {G : hp_G} {o : Nat × hp_H}
end Sg_X10_first
def g_X10_first (x0 : Nat) (x1 : Int32) (h : hp_H) : Option (Nat × hp_H) := gd h x0 10 (xb (g_X10_needMan x0 x1 h) (f_X10_needMan x0 x1 h) fun r1 => none)
set_option maxRecDepth 20000 in
theorem x_X10_first (l : Launch) (hl : l.stackTraces = false) (x0 : Nat) (x1 : Int32) (h : hp_H) (r : Nat × hp_H) (hf : g_X10_first x0 x1 h = some r) : cvx l (8) yX10_first cX10_first 3 (some .int) 10 x0 [.int x1] h r.1 r.2 := by
  unfold g_X10_first at hf
  refine cvx_of (lv := [(0, .ref x0), (1, .int x1)]) hf (by decide +kernel) (Nat.le_of_ble_eq_true rfl) rfl (fun hf p e s m args below meth c G hT X => ?_)
  refine wk_aload_n X dX10_first_0 0 rfl ?_
  refine wk_iload_n X dX10_first_1 1 rfl ?_
  refine wk_callVxv X hT [.int x1] [] dX10_first_2 rfl vo_X10_171 rfl (by decide) (Nat.le_of_ble_eq_true rfl) hf (x_X10_needMan l hl _ _ _) (c_X10_needMan l _ _ _) (fun r1 hf => ?_)
  exact nomatch hf
section Sf_X10_needWhat
variable {p : Program} {l : Launch} {e : Env} {s : State} {m : MethodId} {args : Array Value} {below : List Frame} {meth : Method} {c : Code} {G : hp_G} {o : hp_H}
def f_X10_needWhat_9  (h : hp_H) : Option (hp_H) := none
set_option maxRecDepth 20000 in
theorem w_X10_needWhat_9 (X : wx G p s m args meth c cX10_needWhat 2 RX10 none)  (h : hp_H) (hf : f_X10_needWhat_9 h = some o) : wq p l e (mt_R (7) 0 0) s m args below meth c (MQ below (mt_Q G none o) args s 0 0 (hp_A G)) G 2 0 0 9 [] [] h := by
  unfold f_X10_needWhat_9 at hf
  exact nomatch hf
end Sf_X10_needWhat
def f_X10_needWhat (x0 : Int32) (x1 : Int32) (h : hp_H) : Option (hp_H) := if x0 < 0 then (f_X10_needWhat_9 h) else (if x0 ≤ x1 then (some h) else (f_X10_needWhat_9 h))
set_option maxRecDepth 20000 in
theorem c_X10_needWhat (l : Launch) (x0 : Int32) (x1 : Int32) (h : hp_H) (r : hp_H) (hf : f_X10_needWhat x0 x1 h = some r) : cs l 7 yX10_needWhat cX10_needWhat 2 none [.int x0, .int x1] h none r := by
  unfold f_X10_needWhat at hf
  refine mt_of (lv := [(0, .int x0), (1, .int x1)]) (by decide +kernel) (Nat.le_of_ble_eq_true rfl) rfl (fun p e s m args below meth c G X => ?_)
  refine wk_iload_n X dX10_needWhat_0 0 rfl ?_
  refine wk_if_lt X 9 dX10_needWhat_1 (by decide) hf (fun hf => ?_) (fun hf => ?_)
  · exact wq_sub [] rfl (w_X10_needWhat_9 X _ hf)
  · refine wk_iload_n X dX10_needWhat_4 0 rfl ?_
    refine wk_iload_n X dX10_needWhat_5 1 rfl ?_
    refine wk_icmp_le X 20 dX10_needWhat_6 (by decide) hf (fun hf => ?_) (fun hf => ?_)
    · exact wk_return X dX10_needWhat_20 hf
    · exact wq_sub [] rfl (w_X10_needWhat_9 X _ hf)
section Sg_X10_needWhat
variable {p : Program} {l : Launch} {e : Env} {s : State} {m : MethodId} {args : Array Value} {below : List Frame} {meth : Method} {c : Code} {G : hp_G} {o : Nat × hp_H}
def g_X10_needWhat_9  (h : hp_H) : Option (Nat × hp_H) := some (0, h)
set_option maxRecDepth 20000 in
theorem v_X10_needWhat_9 (X : wx G p s m args meth c cX10_needWhat 2 RX10 none) (hl : l.stackTraces = false) (hT : ∀ x ∈ c.exceptionTable.toList, False)  (h : hp_H) (hf : g_X10_needWhat_9 h = some o) : wq p l e (mt_R (7) 1 6) s m args below meth c (vx_MQ below mx_N (mx_X G o.1 o.2) args s 1 6 (hp_A G)) G 2 0 0 9 [] [] h := by
  unfold g_X10_needWhat_9 at hf
  exact wk_throw X hl hT 0 22 3 (by decide) (by decide) rfl xo_X10_166_170 dX10_needWhat_9 dX10_needWhat_12 (Or.inr ⟨dX10_needWhat_13, rfl⟩) dX10_needWhat_16 dX10_needWhat_19 (Nat.le_of_ble_eq_true rfl) hf
end Sg_X10_needWhat
def g_X10_needWhat (x0 : Int32) (x1 : Int32) (h : hp_H) : Option (Nat × hp_H) := if x0 < 0 then (g_X10_needWhat_9 h) else (if x0 ≤ x1 then (none) else (g_X10_needWhat_9 h))
set_option maxRecDepth 20000 in
theorem x_X10_needWhat (l : Launch) (hl : l.stackTraces = false) (x0 : Int32) (x1 : Int32) (h : hp_H) (r : Nat × hp_H) (hf : g_X10_needWhat x0 x1 h = some r) : csx l (7) yX10_needWhat cX10_needWhat 2 none [.int x0, .int x1] h r.1 r.2 := by
  unfold g_X10_needWhat at hf
  refine mx_of (lv := [(0, .int x0), (1, .int x1)]) (by decide +kernel) (Nat.le_of_ble_eq_true rfl) rfl (fun p e s m args below meth c G hT X => ?_)
  refine wk_iload_n X dX10_needWhat_0 0 rfl ?_
  refine wk_if_lt X 9 dX10_needWhat_1 (by decide) hf (fun hf => ?_) (fun hf => ?_)
  · exact wq_sub [] rfl (v_X10_needWhat_9 X hl hT _ hf)
  · refine wk_iload_n X dX10_needWhat_4 0 rfl ?_
    refine wk_iload_n X dX10_needWhat_5 1 rfl ?_
    refine wk_icmp_le X 20 dX10_needWhat_6 (by decide) hf (fun hf => ?_) (fun hf => ?_)
    · exact nomatch hf
    · exact wq_sub [] rfl (v_X10_needWhat_9 X hl hT _ hf)
section Sf_X10_game
variable {p : Program} {l : Launch} {e : Env} {s : State} {m : MethodId} {args : Array Value} {below : List Frame} {meth : Method} {c : Code} {G : hp_G} {o : Int32 × hp_H}
def f_X10_game_44  (h : hp_H) : Option (Int32 × hp_H) := none
set_option maxRecDepth 20000 in
theorem w_X10_game_44 (X : wx G p s m args meth c cX10_game 7 RX10 (some .int))  (h : hp_H) (hf : f_X10_game_44 h = some o) : wq p l e (mt_R (8) 0 0) s m args below meth c (MQ below (mt_Q G (some (.int o.1)) o.2) args s 0 0 (hp_A G)) G 7 0 0 44 [] [] h := by
  unfold f_X10_game_44 at hf
  exact nomatch hf
def f_X10_game_135 (t0 : Int32) (h : hp_H) : Option (Int32 × hp_H) := some (t0, h)
set_option maxRecDepth 20000 in
theorem w_X10_game_135 (X : wx G p s m args meth c cX10_game 7 RX10 (some .int)) (t0 : Int32) (h : hp_H) (hf : f_X10_game_135 t0 h = some o) : wq p l e (mt_R (8) 0 0) s m args below meth c (MQ below (mt_Q G (some (.int o.1)) o.2) args s 0 0 (hp_A G)) G 7 0 0 135 [] [.int t0] h := by
  unfold f_X10_game_135 at hf
  exact wk_ireturn X dX10_game_135 hf
def f_X10_game_124 (x3 : Int32) (x4 : Int32) (x5 : Int32) (h : hp_H) : Option (Int32 × hp_H) := if x3 = 0 then (f_X10_game_135 x4 h) else (f_X10_game_135 x5 h)
set_option maxRecDepth 20000 in
theorem w_X10_game_124 (X : wx G p s m args meth c cX10_game 7 RX10 (some .int)) (x3 : Int32) (x4 : Int32) (x5 : Int32) (h : hp_H) (hf : f_X10_game_124 x3 x4 x5 h = some o) : wq p l e (mt_R (8) 0 0) s m args below meth c (MQ below (mt_Q G (some (.int o.1)) o.2) args s 0 0 (hp_A G)) G 7 0 0 124 [(3, .int x3), (4, .int x4), (5, .int x5)] [] h := by
  unfold f_X10_game_124 at hf
  refine wk_iload_n X dX10_game_124 0 rfl ?_
  refine wk_if_ne X 133 dX10_game_125 (by decide) hf (fun hf => ?_) (fun hf => ?_)
  · refine wk_iload X dX10_game_133 2 rfl ?_
    exact wq_sub [] rfl (w_X10_game_135 X _ _ hf)
  · refine wk_iload X dX10_game_128 1 rfl ?_
    refine wk_goto X 135 dX10_game_130 (by decide) ?_
    exact wq_sub [] rfl (w_X10_game_135 X _ _ hf)
def f_X10_game_118 (k87 : Nat → Int32 → Int32 → Int32 → Int32 → hp_H → Option (Int32 × hp_H)) (x0 : Nat) (x3 : Int32) (x4 : Int32) (x5 : Int32) (x6 : Int32) (h : hp_H) : Option (Int32 × hp_H) := k87 x0 x3 x4 x5 (x6 + (-1)) h
set_option maxRecDepth 20000 in
theorem w_X10_game_118 (X : wx G p s m args meth c cX10_game 7 RX10 (some .int)) (k87 : Nat → Int32 → Int32 → Int32 → Int32 → hp_H → Option (Int32 × hp_H)) (hk87 : ∀ (x0 : Nat) (x3 : Int32) (x4 : Int32) (x5 : Int32) (x6 : Int32) (h : hp_H), k87 x0 x3 x4 x5 x6 h = some o → wq p l e (mt_R (8) 0 0) s m args below meth c (MQ below (mt_Q G (some (.int o.1)) o.2) args s 0 0 (hp_A G)) G 7 0 0 87 [(0, .ref x0), (3, .int x3), (4, .int x4), (5, .int x5), (6, .int x6)] [] h) (x0 : Nat) (x3 : Int32) (x4 : Int32) (x5 : Int32) (x6 : Int32) (h : hp_H) (hf : f_X10_game_118 k87 x0 x3 x4 x5 x6 h = some o) : wq p l e (mt_R (8) 0 0) s m args below meth c (MQ below (mt_Q G (some (.int o.1)) o.2) args s 0 0 (hp_A G)) G 7 0 0 118 [(0, .ref x0), (3, .int x3), (4, .int x4), (5, .int x5), (6, .int x6)] [] h := by
  unfold f_X10_game_118 at hf
  refine wk_iinc (lv' := [(6, .int (x6 + (-1))), (0, .ref x0), (3, .int x3), (4, .int x4), (5, .int x5)]) X dX10_game_118 4 rfl ic_m1 (by decide) rfl ?_
  refine wk_goto X 87 dX10_game_121 (by decide) ?_
  exact wq_sub [1, 2, 3, 4, 0] rfl (hk87 _ _ _ _ _ _ hf)
def f_X10_game_87 (k87 : Nat → Int32 → Int32 → Int32 → Int32 → hp_H → Option (Int32 × hp_H)) (x0 : Nat) (x3 : Int32) (x4 : Int32) (x5 : Int32) (x6 : Int32) (h : hp_H) : Option (Int32 × hp_H) := if x6 < 0 then (f_X10_game_124 x3 x4 x5 h) else ((f_X10_doesRest x0 x6 h).bind fun r1 => if r1.1 = 0 then (f_X10_game_118 k87 x0 x3 x4 x5 x6 r1.2) else (f_X10_game_118 k87 x0 x3 (x4 + 1) (((10 : Int32) * (x6 >>> (1 &&& 31))) + (x6 &&& 1)) x6 r1.2))
set_option maxRecDepth 20000 in
theorem w_X10_game_87 (X : wx G p s m args meth c cX10_game 7 RX10 (some .int)) (k87 : Nat → Int32 → Int32 → Int32 → Int32 → hp_H → Option (Int32 × hp_H)) (hk87 : ∀ (x0 : Nat) (x3 : Int32) (x4 : Int32) (x5 : Int32) (x6 : Int32) (h : hp_H), k87 x0 x3 x4 x5 x6 h = some o → wq p l e (mt_R (8) 0 0) s m args below meth c (MQ below (mt_Q G (some (.int o.1)) o.2) args s 0 0 (hp_A G)) G 7 0 0 87 [(0, .ref x0), (3, .int x3), (4, .int x4), (5, .int x5), (6, .int x6)] [] h) (x0 : Nat) (x3 : Int32) (x4 : Int32) (x5 : Int32) (x6 : Int32) (h : hp_H) (hf : f_X10_game_87 k87 x0 x3 x4 x5 x6 h = some o) : wq p l e (mt_R (8) 0 0) s m args below meth c (MQ below (mt_Q G (some (.int o.1)) o.2) args s 0 0 (hp_A G)) G 7 0 0 87 [(0, .ref x0), (3, .int x3), (4, .int x4), (5, .int x5), (6, .int x6)] [] h := by
  unfold f_X10_game_87 at hf
  refine wk_iload X dX10_game_87 4 rfl ?_
  refine wk_if_lt X 124 dX10_game_89 (by decide) hf (fun hf => ?_) (fun hf => ?_)
  · exact wq_sub [1, 2, 3] rfl (w_X10_game_124 X _ _ _ _ hf)
  · refine wk_aload_n X dX10_game_92 0 rfl ?_
    refine wk_iload X dX10_game_93 4 rfl ?_
    refine wk_callVi X [.int x6] [] dX10_game_95 rfl vo_X10_313 rfl (by decide) (Nat.le_of_ble_eq_true rfl) hf (c_X10_doesRest l _ _ _) (fun r1 hf => ?_)
    refine wk_if_eq X 118 dX10_game_98 (by decide) hf (fun hf => ?_) (fun hf => ?_)
    · exact wq_sub [0, 1, 2, 3, 4] rfl (w_X10_game_118 X k87 hk87 _ _ _ _ _ _ hf)
    · refine wk_iinc (lv' := [(4, .int (x4 + 1)), (0, .ref x0), (3, .int x3), (5, .int x5), (6, .int x6)]) X dX10_game_101 2 rfl ic_1 (by decide) rfl ?_
      refine wk_bipush X dX10_game_104 ib_10 ?_
      refine wk_iload X dX10_game_106 4 rfl ?_
      refine wk_iconst X dX10_game_108 ic_1 ?_
      refine wk_ishr X dX10_game_109 ?_
      refine wk_imul X dX10_game_110 ?_
      refine wk_iload X dX10_game_111 4 rfl ?_
      refine wk_iconst X dX10_game_113 ic_1 ?_
      refine wk_iand X dX10_game_114 ?_
      refine wk_iadd X dX10_game_115 ?_
      refine wk_istore (lv' := [(5, .int (((10 : Int32) * (x6 >>> (1 &&& 31))) + (x6 &&& 1))), (4, .int (x4 + 1)), (0, .ref x0), (3, .int x3), (6, .int x6)]) X dX10_game_116 (by decide) rfl ?_
      exact wq_sub [2, 3, 1, 0, 4] rfl (w_X10_game_118 X k87 hk87 _ _ _ _ _ _ hf)
def l_X10_game_87 (x0 : Nat) (x3 : Int32) (x4 : Int32) (x5 : Int32) (x6 : Int32) (h : hp_H) : Option (Int32 × hp_H) := lp (fun k (s : Nat × Int32 × Int32 × Int32 × Int32 × hp_H) => f_X10_game_87  (fun a0 a1 a2 a3 a4 a5 => k (a0, a1, a2, a3, a4, a5)) s.1 s.2.1 s.2.2.1 s.2.2.2.1 s.2.2.2.2.1 s.2.2.2.2.2) 100000 (x0, x3, x4, x5, x6, h)
theorem wl_X10_game_87 (X : wx G p s m args meth c cX10_game 7 RX10 (some .int)) (x0 : Nat) (x3 : Int32) (x4 : Int32) (x5 : Int32) (x6 : Int32) (h : hp_H) (hf : l_X10_game_87 x0 x3 x4 x5 x6 h = some o) : wq p l e (mt_R (8) 0 0) s m args below meth c (MQ below (mt_Q G (some (.int o.1)) o.2) args s 0 0 (hp_A G)) G 7 0 0 87 [(0, .ref x0), (3, .int x3), (4, .int x4), (5, .int x5), (6, .int x6)] [] h :=
  lp_ind (P := fun (s_ : Nat × Int32 × Int32 × Int32 × Int32 × hp_H) => wq p l e (mt_R (8) 0 0) s m args below meth c (MQ below (mt_Q G (some (.int o.1)) o.2) args s 0 0 (hp_A G)) G 7 0 0 87 [(0, .ref s_.1), (3, .int s_.2.1), (4, .int s_.2.2.1), (5, .int s_.2.2.2.1), (6, .int s_.2.2.2.2.1)] [] s_.2.2.2.2.2) (fun k s hk hf => w_X10_game_87 X  (fun a0 a1 a2 a3 a4 a5 => k (a0, a1, a2, a3, a4, a5)) (fun a0 a1 a2 a3 a4 a5 hf => hk (a0, a1, a2, a3, a4, a5) hf) s.1 s.2.1 s.2.2.1 s.2.2.2.1 s.2.2.2.2.1 s.2.2.2.2.2 hf) 100000 (x0, x3, x4, x5, x6, h) hf
def f_X10_game_78 (x0 : Nat) (x3 : Int32) (h : hp_H) : Option (Int32 × hp_H) := l_X10_game_87 x0 x3 0 (-1) 3 h
set_option maxRecDepth 20000 in
theorem w_X10_game_78 (X : wx G p s m args meth c cX10_game 7 RX10 (some .int)) (x0 : Nat) (x3 : Int32) (h : hp_H) (hf : f_X10_game_78 x0 x3 h = some o) : wq p l e (mt_R (8) 0 0) s m args below meth c (MQ below (mt_Q G (some (.int o.1)) o.2) args s 0 0 (hp_A G)) G 7 0 0 78 [(0, .ref x0), (3, .int x3)] [] h := by
  unfold f_X10_game_78 at hf
  refine wk_iconst X dX10_game_78 ic_0 ?_
  refine wk_istore (lv' := [(4, .int 0), (0, .ref x0), (3, .int x3)]) X dX10_game_79 (by decide) rfl ?_
  refine wk_iconst X dX10_game_81 ic_m1 ?_
  refine wk_istore (lv' := [(5, .int (-1)), (4, .int 0), (0, .ref x0), (3, .int x3)]) X dX10_game_82 (by decide) rfl ?_
  refine wk_iconst X dX10_game_84 ic_3 ?_
  refine wk_istore (lv' := [(6, .int 3), (5, .int (-1)), (4, .int 0), (0, .ref x0), (3, .int x3)]) X dX10_game_85 (by decide) rfl ?_
  exact wq_sub [3, 4, 2, 1, 0] rfl (wl_X10_game_87 X _ _ _ _ _ _ hf)
def f_X10_game_58 (k58 : Nat → Int32 → Int32 → Int32 → Int32 → hp_H → Option (Int32 × hp_H)) (x0 : Nat) (x1 : Int32) (x2 : Int32) (x3 : Int32) (x4 : Int32) (h : hp_H) : Option (Int32 × hp_H) := if 4 ≤ x4 then (f_X10_game_78 x0 x3 h) else ((f_X10_stamp x0 x1 x2 x4 h).bind fun r1 => k58 x0 x1 x2 x3 (x4 + 1) r1)
set_option maxRecDepth 20000 in
theorem w_X10_game_58 (X : wx G p s m args meth c cX10_game 7 RX10 (some .int)) (k58 : Nat → Int32 → Int32 → Int32 → Int32 → hp_H → Option (Int32 × hp_H)) (hk58 : ∀ (x0 : Nat) (x1 : Int32) (x2 : Int32) (x3 : Int32) (x4 : Int32) (h : hp_H), k58 x0 x1 x2 x3 x4 h = some o → wq p l e (mt_R (8) 0 0) s m args below meth c (MQ below (mt_Q G (some (.int o.1)) o.2) args s 0 0 (hp_A G)) G 7 0 0 58 [(0, .ref x0), (1, .int x1), (2, .int x2), (3, .int x3), (4, .int x4)] [] h) (x0 : Nat) (x1 : Int32) (x2 : Int32) (x3 : Int32) (x4 : Int32) (h : hp_H) (hf : f_X10_game_58 k58 x0 x1 x2 x3 x4 h = some o) : wq p l e (mt_R (8) 0 0) s m args below meth c (MQ below (mt_Q G (some (.int o.1)) o.2) args s 0 0 (hp_A G)) G 7 0 0 58 [(0, .ref x0), (1, .int x1), (2, .int x2), (3, .int x3), (4, .int x4)] [] h := by
  unfold f_X10_game_58 at hf
  refine wk_iload X dX10_game_58 4 rfl ?_
  refine wk_iconst X dX10_game_60 ic_4 ?_
  refine wk_icmp_ge X 78 dX10_game_61 (by decide) hf (fun hf => ?_) (fun hf => ?_)
  · exact wq_sub [0, 3] rfl (w_X10_game_78 X _ _ _ hf)
  · refine wk_aload_n X dX10_game_64 0 rfl ?_
    refine wk_iload_n X dX10_game_65 1 rfl ?_
    refine wk_iload_n X dX10_game_66 2 rfl ?_
    refine wk_iload X dX10_game_67 4 rfl ?_
    refine wk_callVv X [.int x1, .int x2, .int x4] [] dX10_game_69 rfl vo_X10_310 rfl (by decide) (Nat.le_of_ble_eq_true rfl) hf (c_X10_stamp l _ _ _ _ _) (fun r1 hf => ?_)
    refine wk_iinc (lv' := [(4, .int (x4 + 1)), (0, .ref x0), (1, .int x1), (2, .int x2), (3, .int x3)]) X dX10_game_72 4 rfl ic_1 (by decide) rfl ?_
    refine wk_goto X 58 dX10_game_75 (by decide) ?_
    exact wq_sub [1, 2, 3, 4, 0] rfl (hk58 _ _ _ _ _ _ hf)
def l_X10_game_58 (x0 : Nat) (x1 : Int32) (x2 : Int32) (x3 : Int32) (x4 : Int32) (h : hp_H) : Option (Int32 × hp_H) := lp (fun k (s : Nat × Int32 × Int32 × Int32 × Int32 × hp_H) => f_X10_game_58  (fun a0 a1 a2 a3 a4 a5 => k (a0, a1, a2, a3, a4, a5)) s.1 s.2.1 s.2.2.1 s.2.2.2.1 s.2.2.2.2.1 s.2.2.2.2.2) 100000 (x0, x1, x2, x3, x4, h)
theorem wl_X10_game_58 (X : wx G p s m args meth c cX10_game 7 RX10 (some .int)) (x0 : Nat) (x1 : Int32) (x2 : Int32) (x3 : Int32) (x4 : Int32) (h : hp_H) (hf : l_X10_game_58 x0 x1 x2 x3 x4 h = some o) : wq p l e (mt_R (8) 0 0) s m args below meth c (MQ below (mt_Q G (some (.int o.1)) o.2) args s 0 0 (hp_A G)) G 7 0 0 58 [(0, .ref x0), (1, .int x1), (2, .int x2), (3, .int x3), (4, .int x4)] [] h :=
  lp_ind (P := fun (s_ : Nat × Int32 × Int32 × Int32 × Int32 × hp_H) => wq p l e (mt_R (8) 0 0) s m args below meth c (MQ below (mt_Q G (some (.int o.1)) o.2) args s 0 0 (hp_A G)) G 7 0 0 58 [(0, .ref s_.1), (1, .int s_.2.1), (2, .int s_.2.2.1), (3, .int s_.2.2.2.1), (4, .int s_.2.2.2.2.1)] [] s_.2.2.2.2.2) (fun k s hk hf => w_X10_game_58 X  (fun a0 a1 a2 a3 a4 a5 => k (a0, a1, a2, a3, a4, a5)) (fun a0 a1 a2 a3 a4 a5 hf => hk (a0, a1, a2, a3, a4, a5) hf) s.1 s.2.1 s.2.2.1 s.2.2.2.1 s.2.2.2.2.1 s.2.2.2.2.2 hf) 100000 (x0, x1, x2, x3, x4, h) hf
end Sf_X10_game
def f_X10_game (x0 : Nat) (x1 : Int32) (x2 : Int32) (x3 : Int32) (h : hp_H) : Option (Int32 × hp_H) := gd h x0 10 ((f_X10_needMan x0 x1 h).bind fun r1 => (f_X10_needMan x0 x2 r1).bind fun r2 => (f_X10_needWhat x3 1 r2).bind fun r3 => if x1 = x2 then (f_X10_game_44 r3) else ((rd_R r3 x0 10 8).bind fun v4 => (f_X3_rowOf v4 x1 r3).bind fun r5 => if r5.1 = (-1) then (f_X10_game_44 r5.2) else ((rd_R r5.2 x0 10 8).bind fun v6 => (f_X3_rowOf v6 x2 r5.2).bind fun r7 => if r7.1 = (-1) then (f_X10_game_44 r7.2) else (l_X10_game_58 x0 x1 x2 x3 0 r7.2))))
set_option maxRecDepth 20000 in
theorem c_X10_game (l : Launch) (x0 : Nat) (x1 : Int32) (x2 : Int32) (x3 : Int32) (h : hp_H) (r : Int32 × hp_H) (hf : f_X10_game x0 x1 x2 x3 h = some r) : cv l (8) yX10_game cX10_game 7 (some .int) 10 x0 [.int x1, .int x2, .int x3] h (some (.int r.1)) r.2 := by
  unfold f_X10_game at hf
  refine cv_of (lv := [(0, .ref x0), (1, .int x1), (2, .int x2), (3, .int x3)]) hf (by decide +kernel) (Nat.le_of_ble_eq_true rfl) rfl (fun hf p e s m args below meth c G X => ?_)
  refine wk_aload_n X dX10_game_0 0 rfl ?_
  refine wk_iload_n X dX10_game_1 1 rfl ?_
  refine wk_callVv X [.int x1] [] dX10_game_2 rfl vo_X10_171 rfl (by decide) (Nat.le_of_ble_eq_true rfl) hf (c_X10_needMan l _ _ _) (fun r1 hf => ?_)
  refine wk_aload_n X dX10_game_5 0 rfl ?_
  refine wk_iload_n X dX10_game_6 2 rfl ?_
  refine wk_callVv X [.int x2] [] dX10_game_7 rfl vo_X10_171 rfl (by decide) (Nat.le_of_ble_eq_true rfl) hf (c_X10_needMan l _ _ _) (fun r2 hf => ?_)
  refine wk_iload_n X dX10_game_10 3 rfl ?_
  refine wk_iconst X dX10_game_11 ic_1 ?_
  refine wk_callSv X [.int x3, .int 1] [] dX10_game_12 rfl vo_X10_234 rfl (by decide) (Nat.le_of_ble_eq_true rfl) hf (c_X10_needWhat l _ _ _) (fun r3 hf => ?_)
  refine wk_iload_n X dX10_game_15 1 rfl ?_
  refine wk_iload_n X dX10_game_16 2 rfl ?_
  refine wk_icmp_eq X 44 dX10_game_17 (by decide) hf (fun hf => ?_) (fun hf => ?_)
  · exact wq_sub [] rfl (w_X10_game_44 X _ hf)
  · refine wk_aload_n X dX10_game_20 0 rfl ?_
    refine wk_getR X dX10_game_21 fo_X10_55 hf (fun v4 hf => ?_)
    refine wk_iload_n X dX10_game_24 1 rfl ?_
    refine wk_callVi X [.int x1] [] dX10_game_25 rfl vo_X10_183 rfl (by decide) (Nat.le_of_ble_eq_true rfl) hf (c_X3_rowOf l _ _ _) (fun r5 hf => ?_)
    refine wk_iconst X dX10_game_28 ic_m1 ?_
    refine wk_icmp_eq X 44 dX10_game_29 (by decide) hf (fun hf => ?_) (fun hf => ?_)
    · exact wq_sub [] rfl (w_X10_game_44 X _ hf)
    · refine wk_aload_n X dX10_game_32 0 rfl ?_
      refine wk_getR X dX10_game_33 fo_X10_55 hf (fun v6 hf => ?_)
      refine wk_iload_n X dX10_game_36 2 rfl ?_
      refine wk_callVi X [.int x2] [] dX10_game_37 rfl vo_X10_183 rfl (by decide) (Nat.le_of_ble_eq_true rfl) hf (c_X3_rowOf l _ _ _) (fun r7 hf => ?_)
      refine wk_iconst X dX10_game_40 ic_m1 ?_
      refine wk_icmp_ne X 55 dX10_game_41 (by decide) hf (fun hf => ?_) (fun hf => ?_)
      · refine wk_iconst X dX10_game_55 ic_0 ?_
        refine wk_istore (lv' := [(4, .int 0), (0, .ref x0), (1, .int x1), (2, .int x2), (3, .int x3)]) X dX10_game_56 (by decide) rfl ?_
        exact wq_sub [1, 2, 3, 4, 0] rfl (wl_X10_game_58 X _ _ _ _ _ _ hf)
      · exact wq_sub [] rfl (w_X10_game_44 X _ hf)
section Sg_X10_game
variable {p : Program} {l : Launch} {e : Env} {s : State} {m : MethodId} {args : Array Value} {below : List Frame} {meth : Method} {c : Code} {G : hp_G} {o : Nat × hp_H}
def g_X10_game_44  (h : hp_H) : Option (Nat × hp_H) := some (1, h)
set_option maxRecDepth 20000 in
theorem v_X10_game_44 (X : wx G p s m args meth c cX10_game 7 RX10 (some .int)) (hl : l.stackTraces = false) (hT : ∀ x ∈ c.exceptionTable.toList, False)  (h : hp_H) (hf : g_X10_game_44 h = some o) : wq p l e (mt_R (8) 1 6) s m args below meth c (vx_MQ below mx_N (mx_X G o.1 o.2) args s 1 6 (hp_A G)) G 7 0 0 44 [] [] h := by
  unfold g_X10_game_44 at hf
  exact wk_throw X hl hT 1 24 3 (by decide) (by decide) rfl xo_X10_94_98 dX10_game_44 dX10_game_47 (Or.inr ⟨dX10_game_48, rfl⟩) dX10_game_51 dX10_game_54 (Nat.le_of_ble_eq_true rfl) hf
end Sg_X10_game
def g_X10_game (x0 : Nat) (x1 : Int32) (x2 : Int32) (x3 : Int32) (h : hp_H) : Option (Nat × hp_H) := gd h x0 10 (xb (g_X10_needMan x0 x1 h) (f_X10_needMan x0 x1 h) fun r1 => xb (g_X10_needMan x0 x2 r1) (f_X10_needMan x0 x2 r1) fun r2 => xb (g_X10_needWhat x3 1 r2) (f_X10_needWhat x3 1 r2) fun r3 => if x1 = x2 then (g_X10_game_44 r3) else ((rd_R r3 x0 10 8).bind fun v4 => (f_X3_rowOf v4 x1 r3).bind fun r5 => if r5.1 = (-1) then (g_X10_game_44 r5.2) else ((rd_R r5.2 x0 10 8).bind fun v6 => (f_X3_rowOf v6 x2 r5.2).bind fun r7 => if r7.1 = (-1) then (g_X10_game_44 r7.2) else (none))))
set_option maxRecDepth 20000 in
theorem x_X10_game (l : Launch) (hl : l.stackTraces = false) (x0 : Nat) (x1 : Int32) (x2 : Int32) (x3 : Int32) (h : hp_H) (r : Nat × hp_H) (hf : g_X10_game x0 x1 x2 x3 h = some r) : cvx l (8) yX10_game cX10_game 7 (some .int) 10 x0 [.int x1, .int x2, .int x3] h r.1 r.2 := by
  unfold g_X10_game at hf
  refine cvx_of (lv := [(0, .ref x0), (1, .int x1), (2, .int x2), (3, .int x3)]) hf (by decide +kernel) (Nat.le_of_ble_eq_true rfl) rfl (fun hf p e s m args below meth c G hT X => ?_)
  refine wk_aload_n X dX10_game_0 0 rfl ?_
  refine wk_iload_n X dX10_game_1 1 rfl ?_
  refine wk_callVxv X hT [.int x1] [] dX10_game_2 rfl vo_X10_171 rfl (by decide) (Nat.le_of_ble_eq_true rfl) hf (x_X10_needMan l hl _ _ _) (c_X10_needMan l _ _ _) (fun r1 hf => ?_)
  refine wk_aload_n X dX10_game_5 0 rfl ?_
  refine wk_iload_n X dX10_game_6 2 rfl ?_
  refine wk_callVxv X hT [.int x2] [] dX10_game_7 rfl vo_X10_171 rfl (by decide) (Nat.le_of_ble_eq_true rfl) hf (x_X10_needMan l hl _ _ _) (c_X10_needMan l _ _ _) (fun r2 hf => ?_)
  refine wk_iload_n X dX10_game_10 3 rfl ?_
  refine wk_iconst X dX10_game_11 ic_1 ?_
  refine wk_callSxv X hT [.int x3, .int 1] [] dX10_game_12 rfl vo_X10_234 rfl (by decide) (Nat.le_of_ble_eq_true rfl) hf (x_X10_needWhat l hl _ _ _) (c_X10_needWhat l _ _ _) (fun r3 hf => ?_)
  refine wk_iload_n X dX10_game_15 1 rfl ?_
  refine wk_iload_n X dX10_game_16 2 rfl ?_
  refine wk_icmp_eq X 44 dX10_game_17 (by decide) hf (fun hf => ?_) (fun hf => ?_)
  · exact wq_sub [] rfl (v_X10_game_44 X hl hT _ hf)
  · refine wk_aload_n X dX10_game_20 0 rfl ?_
    refine wk_getR X dX10_game_21 fo_X10_55 hf (fun v4 hf => ?_)
    refine wk_iload_n X dX10_game_24 1 rfl ?_
    refine wk_callVi X [.int x1] [] dX10_game_25 rfl vo_X10_183 rfl (by decide) (Nat.le_of_ble_eq_true rfl) hf (c_X3_rowOf l _ _ _) (fun r5 hf => ?_)
    refine wk_iconst X dX10_game_28 ic_m1 ?_
    refine wk_icmp_eq X 44 dX10_game_29 (by decide) hf (fun hf => ?_) (fun hf => ?_)
    · exact wq_sub [] rfl (v_X10_game_44 X hl hT _ hf)
    · refine wk_aload_n X dX10_game_32 0 rfl ?_
      refine wk_getR X dX10_game_33 fo_X10_55 hf (fun v6 hf => ?_)
      refine wk_iload_n X dX10_game_36 2 rfl ?_
      refine wk_callVi X [.int x2] [] dX10_game_37 rfl vo_X10_183 rfl (by decide) (Nat.le_of_ble_eq_true rfl) hf (c_X3_rowOf l _ _ _) (fun r7 hf => ?_)
      refine wk_iconst X dX10_game_40 ic_m1 ?_
      refine wk_icmp_ne X 55 dX10_game_41 (by decide) hf (fun hf => ?_) (fun hf => ?_)
      · exact nomatch hf
      · exact wq_sub [] rfl (v_X10_game_44 X hl hT _ hf)
section Sf_X10_needBeat
variable {p : Program} {l : Launch} {e : Env} {s : State} {m : MethodId} {args : Array Value} {below : List Frame} {meth : Method} {c : Code} {G : hp_G} {o : hp_H}
def f_X10_needBeat_15  (h : hp_H) : Option (hp_H) := none
set_option maxRecDepth 20000 in
theorem w_X10_needBeat_15 (X : wx G p s m args meth c cX10_needBeat 2 RX10 none)  (h : hp_H) (hf : f_X10_needBeat_15 h = some o) : wq p l e (mt_R (7) 0 0) s m args below meth c (MQ below (mt_Q G none o) args s 0 0 (hp_A G)) G 2 0 0 15 [] [] h := by
  unfold f_X10_needBeat_15 at hf
  exact nomatch hf
end Sf_X10_needBeat
def f_X10_needBeat (x0 : Nat) (x1 : Int32) (h : hp_H) : Option (hp_H) := gd h x0 10 (if x1 < 0 then (f_X10_needBeat_15 h) else ((rd_R h x0 10 4).bind fun v1 => (rd_I h v1 1 0).bind fun v2 => if x1 < v2 then (some h) else (f_X10_needBeat_15 h)))
set_option maxRecDepth 20000 in
theorem c_X10_needBeat (l : Launch) (x0 : Nat) (x1 : Int32) (h : hp_H) (r : hp_H) (hf : f_X10_needBeat x0 x1 h = some r) : cv l (7) yX10_needBeat cX10_needBeat 2 none 10 x0 [.int x1] h none r := by
  unfold f_X10_needBeat at hf
  refine cv_of (lv := [(0, .ref x0), (1, .int x1)]) hf (by decide +kernel) (Nat.le_of_ble_eq_true rfl) rfl (fun hf p e s m args below meth c G X => ?_)
  refine wk_iload_n X dX10_needBeat_0 1 rfl ?_
  refine wk_if_lt X 15 dX10_needBeat_1 (by decide) hf (fun hf => ?_) (fun hf => ?_)
  · exact wq_sub [] rfl (w_X10_needBeat_15 X _ hf)
  · refine wk_iload_n X dX10_needBeat_4 1 rfl ?_
    refine wk_aload_n X dX10_needBeat_5 0 rfl ?_
    refine wk_getR X dX10_needBeat_6 fo_X10_31 hf (fun v1 hf => ?_)
    refine wk_getI X dX10_needBeat_9 fo_X10_135 hf (fun v2 hf => ?_)
    refine wk_icmp_lt X 26 dX10_needBeat_12 (by decide) hf (fun hf => ?_) (fun hf => ?_)
    · exact wk_return X dX10_needBeat_26 hf
    · exact wq_sub [] rfl (w_X10_needBeat_15 X _ hf)
section Sg_X10_needBeat
variable {p : Program} {l : Launch} {e : Env} {s : State} {m : MethodId} {args : Array Value} {below : List Frame} {meth : Method} {c : Code} {G : hp_G} {o : Nat × hp_H}
def g_X10_needBeat_15  (h : hp_H) : Option (Nat × hp_H) := some (0, h)
set_option maxRecDepth 20000 in
theorem v_X10_needBeat_15 (X : wx G p s m args meth c cX10_needBeat 2 RX10 none) (hl : l.stackTraces = false) (hT : ∀ x ∈ c.exceptionTable.toList, False)  (h : hp_H) (hf : g_X10_needBeat_15 h = some o) : wq p l e (mt_R (7) 1 6) s m args below meth c (vx_MQ below mx_N (mx_X G o.1 o.2) args s 1 6 (hp_A G)) G 2 0 0 15 [] [] h := by
  unfold g_X10_needBeat_15 at hf
  exact wk_throw X hl hT 0 21 3 (by decide) (by decide) rfl xo_X10_166_170 dX10_needBeat_15 dX10_needBeat_18 (Or.inr ⟨dX10_needBeat_19, rfl⟩) dX10_needBeat_22 dX10_needBeat_25 (Nat.le_of_ble_eq_true rfl) hf
end Sg_X10_needBeat
def g_X10_needBeat (x0 : Nat) (x1 : Int32) (h : hp_H) : Option (Nat × hp_H) := gd h x0 10 (if x1 < 0 then (g_X10_needBeat_15 h) else ((rd_R h x0 10 4).bind fun v1 => (rd_I h v1 1 0).bind fun v2 => if x1 < v2 then (none) else (g_X10_needBeat_15 h)))
set_option maxRecDepth 20000 in
theorem x_X10_needBeat (l : Launch) (hl : l.stackTraces = false) (x0 : Nat) (x1 : Int32) (h : hp_H) (r : Nat × hp_H) (hf : g_X10_needBeat x0 x1 h = some r) : cvx l (7) yX10_needBeat cX10_needBeat 2 none 10 x0 [.int x1] h r.1 r.2 := by
  unfold g_X10_needBeat at hf
  refine cvx_of (lv := [(0, .ref x0), (1, .int x1)]) hf (by decide +kernel) (Nat.le_of_ble_eq_true rfl) rfl (fun hf p e s m args below meth c G hT X => ?_)
  refine wk_iload_n X dX10_needBeat_0 1 rfl ?_
  refine wk_if_lt X 15 dX10_needBeat_1 (by decide) hf (fun hf => ?_) (fun hf => ?_)
  · exact wq_sub [] rfl (v_X10_needBeat_15 X hl hT _ hf)
  · refine wk_iload_n X dX10_needBeat_4 1 rfl ?_
    refine wk_aload_n X dX10_needBeat_5 0 rfl ?_
    refine wk_getR X dX10_needBeat_6 fo_X10_31 hf (fun v1 hf => ?_)
    refine wk_getI X dX10_needBeat_9 fo_X10_135 hf (fun v2 hf => ?_)
    refine wk_icmp_lt X 26 dX10_needBeat_12 (by decide) hf (fun hf => ?_) (fun hf => ?_)
    · exact nomatch hf
    · exact wq_sub [] rfl (v_X10_needBeat_15 X hl hT _ hf)
section Sf_X10_heel
variable {p : Program} {l : Launch} {e : Env} {s : State} {m : MethodId} {args : Array Value} {below : List Frame} {meth : Method} {c : Code} {G : hp_G} {o : Int32 × hp_H}
end Sf_X10_heel
def f_X10_heel (x0 : Nat) (x1 : Int32) (x2 : Int32) (h : hp_H) : Option (Int32 × hp_H) := gd h x0 10 ((f_X10_needMan x0 x1 h).bind fun r1 => (f_X10_needBeat x0 x2 r1).bind fun r2 => (rd_R r2 x0 10 5).bind fun v3 => (rd_R r2 v3 8 1).bind fun v4 => (rd_R r2 x0 10 8).bind fun v5 => (f_X0_keep v4 2 x1 x2 v5 r2).bind fun r6 => (rd_R r6 x0 10 8).bind fun v7 => (f_X3_turnHeel v7 x1 x2 r6).bind fun r8 => (rd_R r8 x0 10 8).bind fun v9 => (rd_R r8 v9 3 2).bind fun v10 => (f_X2_at v10 x1 r8).bind fun r11 => some (r11.1, r11.2))
set_option maxRecDepth 20000 in
theorem c_X10_heel (l : Launch) (x0 : Nat) (x1 : Int32) (x2 : Int32) (h : hp_H) (r : Int32 × hp_H) (hf : f_X10_heel x0 x1 x2 h = some r) : cv l (8) yX10_heel cX10_heel 3 (some .int) 10 x0 [.int x1, .int x2] h (some (.int r.1)) r.2 := by
  unfold f_X10_heel at hf
  refine cv_of (lv := [(0, .ref x0), (1, .int x1), (2, .int x2)]) hf (by decide +kernel) (Nat.le_of_ble_eq_true rfl) rfl (fun hf p e s m args below meth c G X => ?_)
  refine wk_aload_n X dX10_heel_0 0 rfl ?_
  refine wk_iload_n X dX10_heel_1 1 rfl ?_
  refine wk_callVv X [.int x1] [] dX10_heel_2 rfl vo_X10_171 rfl (by decide) (Nat.le_of_ble_eq_true rfl) hf (c_X10_needMan l _ _ _) (fun r1 hf => ?_)
  refine wk_aload_n X dX10_heel_5 0 rfl ?_
  refine wk_iload_n X dX10_heel_6 2 rfl ?_
  refine wk_callVv X [.int x2] [] dX10_heel_7 rfl vo_X10_218 rfl (by decide) (Nat.le_of_ble_eq_true rfl) hf (c_X10_needBeat l _ _ _) (fun r2 hf => ?_)
  refine wk_aload_n X dX10_heel_10 0 rfl ?_
  refine wk_getR X dX10_heel_11 fo_X10_40 hf (fun v3 hf => ?_)
  refine wk_getR X dX10_heel_14 fo_X10_119 hf (fun v4 hf => ?_)
  refine wk_iconst X dX10_heel_17 ic_2 ?_
  refine wk_iload_n X dX10_heel_18 1 rfl ?_
  refine wk_iload_n X dX10_heel_19 2 rfl ?_
  refine wk_aload_n X dX10_heel_20 0 rfl ?_
  refine wk_getR X dX10_heel_21 fo_X10_55 hf (fun v5 hf => ?_)
  refine wk_callVv X [.int 2, .int x1, .int x2, .ref v5] [] dX10_heel_24 rfl vo_X10_203 rfl (by decide) (Nat.le_of_ble_eq_true rfl) hf (c_X0_keep l _ _ _ _ _ _) (fun r6 hf => ?_)
  refine wk_aload_n X dX10_heel_27 0 rfl ?_
  refine wk_getR X dX10_heel_28 fo_X10_55 hf (fun v7 hf => ?_)
  refine wk_iload_n X dX10_heel_31 1 rfl ?_
  refine wk_iload_n X dX10_heel_32 2 rfl ?_
  refine wk_callVv X [.int x1, .int x2] [] dX10_heel_33 rfl vo_X10_221 rfl (by decide) (Nat.le_of_ble_eq_true rfl) hf (c_X3_turnHeel l _ _ _ _) (fun r8 hf => ?_)
  refine wk_aload_n X dX10_heel_36 0 rfl ?_
  refine wk_getR X dX10_heel_37 fo_X10_55 hf (fun v9 hf => ?_)
  refine wk_getR X dX10_heel_40 fo_X10_174 hf (fun v10 hf => ?_)
  refine wk_iload_n X dX10_heel_43 1 rfl ?_
  refine wk_callVi X [.int x1] [] dX10_heel_44 rfl vo_X10_163 rfl (by decide) (Nat.le_of_ble_eq_true rfl) hf (c_X2_at l _ _ _) (fun r11 hf => ?_)
  exact wk_ireturn X dX10_heel_47 hf
section Sg_X10_heel
variable {p : Program} {l : Launch} {e : Env} {s : State} {m : MethodId} {args : Array Value} {below : List Frame} {meth : Method} {c : Code} {G : hp_G} {o : Nat × hp_H}
end Sg_X10_heel
def g_X10_heel (x0 : Nat) (x1 : Int32) (x2 : Int32) (h : hp_H) : Option (Nat × hp_H) := gd h x0 10 (xb (g_X10_needMan x0 x1 h) (f_X10_needMan x0 x1 h) fun r1 => xb (g_X10_needBeat x0 x2 r1) (f_X10_needBeat x0 x2 r1) fun r2 => none)
set_option maxRecDepth 20000 in
theorem x_X10_heel (l : Launch) (hl : l.stackTraces = false) (x0 : Nat) (x1 : Int32) (x2 : Int32) (h : hp_H) (r : Nat × hp_H) (hf : g_X10_heel x0 x1 x2 h = some r) : cvx l (8) yX10_heel cX10_heel 3 (some .int) 10 x0 [.int x1, .int x2] h r.1 r.2 := by
  unfold g_X10_heel at hf
  refine cvx_of (lv := [(0, .ref x0), (1, .int x1), (2, .int x2)]) hf (by decide +kernel) (Nat.le_of_ble_eq_true rfl) rfl (fun hf p e s m args below meth c G hT X => ?_)
  refine wk_aload_n X dX10_heel_0 0 rfl ?_
  refine wk_iload_n X dX10_heel_1 1 rfl ?_
  refine wk_callVxv X hT [.int x1] [] dX10_heel_2 rfl vo_X10_171 rfl (by decide) (Nat.le_of_ble_eq_true rfl) hf (x_X10_needMan l hl _ _ _) (c_X10_needMan l _ _ _) (fun r1 hf => ?_)
  refine wk_aload_n X dX10_heel_5 0 rfl ?_
  refine wk_iload_n X dX10_heel_6 2 rfl ?_
  refine wk_callVxv X hT [.int x2] [] dX10_heel_7 rfl vo_X10_218 rfl (by decide) (Nat.le_of_ble_eq_true rfl) hf (x_X10_needBeat l hl _ _ _) (c_X10_needBeat l _ _ _) (fun r2 hf => ?_)
  exact nomatch hf
section Sf_X10_hidden
variable {p : Program} {l : Launch} {e : Env} {s : State} {m : MethodId} {args : Array Value} {below : List Frame} {meth : Method} {c : Code} {G : hp_G} {o : Int32 × hp_H}
def f_X10_hidden_54 (x2 : Int32) (h : hp_H) : Option (Int32 × hp_H) := some (x2, h)
set_option maxRecDepth 20000 in
theorem w_X10_hidden_54 (X : wx G p s m args meth c cX10_hidden 4 RX10 (some .int)) (x2 : Int32) (h : hp_H) (hf : f_X10_hidden_54 x2 h = some o) : wq p l e (mt_R (8) 0 0) s m args below meth c (MQ below (mt_Q G (some (.int o.1)) o.2) args s 0 0 (hp_A G)) G 4 0 0 54 [(2, .int x2)] [] h := by
  unfold f_X10_hidden_54 at hf
  refine wk_iload_n X dX10_hidden_54 0 rfl ?_
  exact wk_ireturn X dX10_hidden_55 hf
def f_X10_hidden_48 (k9 : Nat → Int32 → Int32 → Int32 → hp_H → Option (Int32 × hp_H)) (x0 : Nat) (x1 : Int32) (x2 : Int32) (x3 : Int32) (h : hp_H) : Option (Int32 × hp_H) := k9 x0 x1 x2 (x3 + 1) h
set_option maxRecDepth 20000 in
theorem w_X10_hidden_48 (X : wx G p s m args meth c cX10_hidden 4 RX10 (some .int)) (k9 : Nat → Int32 → Int32 → Int32 → hp_H → Option (Int32 × hp_H)) (hk9 : ∀ (x0 : Nat) (x1 : Int32) (x2 : Int32) (x3 : Int32) (h : hp_H), k9 x0 x1 x2 x3 h = some o → wq p l e (mt_R (8) 0 0) s m args below meth c (MQ below (mt_Q G (some (.int o.1)) o.2) args s 0 0 (hp_A G)) G 4 0 0 9 [(0, .ref x0), (1, .int x1), (2, .int x2), (3, .int x3)] [] h) (x0 : Nat) (x1 : Int32) (x2 : Int32) (x3 : Int32) (h : hp_H) (hf : f_X10_hidden_48 k9 x0 x1 x2 x3 h = some o) : wq p l e (mt_R (8) 0 0) s m args below meth c (MQ below (mt_Q G (some (.int o.1)) o.2) args s 0 0 (hp_A G)) G 4 0 0 48 [(0, .ref x0), (1, .int x1), (2, .int x2), (3, .int x3)] [] h := by
  unfold f_X10_hidden_48 at hf
  refine wk_iinc (lv' := [(3, .int (x3 + 1)), (0, .ref x0), (1, .int x1), (2, .int x2)]) X dX10_hidden_48 3 rfl ic_1 (by decide) rfl ?_
  refine wk_goto X 9 dX10_hidden_51 (by decide) ?_
  exact wq_sub [1, 2, 3, 0] rfl (hk9 _ _ _ _ _ hf)
def f_X10_hidden_9 (k9 : Nat → Int32 → Int32 → Int32 → hp_H → Option (Int32 × hp_H)) (x0 : Nat) (x1 : Int32) (x2 : Int32) (x3 : Int32) (h : hp_H) : Option (Int32 × hp_H) := (rd_R h x0 10 4).bind fun v1 => (rd_I h v1 1 2).bind fun v2 => if v2 ≤ x3 then (f_X10_hidden_54 x2 h) else ((rd_R h x0 10 8).bind fun v3 => (f_X3_isFullFor v3 x1 x3 h).bind fun r4 => if r4.1 = 0 then ((f_X10_namedWith x0 x1 x3 r4.2).bind fun r5 => if r5.1 = x1 then (f_X10_hidden_48 k9 x0 x1 x2 x3 r5.2) else (f_X10_hidden_48 k9 x0 x1 (x2 ||| (1 <<< (x3 &&& 31))) x3 r5.2)) else (f_X10_hidden_48 k9 x0 x1 x2 x3 r4.2))
set_option maxRecDepth 20000 in
theorem w_X10_hidden_9 (X : wx G p s m args meth c cX10_hidden 4 RX10 (some .int)) (k9 : Nat → Int32 → Int32 → Int32 → hp_H → Option (Int32 × hp_H)) (hk9 : ∀ (x0 : Nat) (x1 : Int32) (x2 : Int32) (x3 : Int32) (h : hp_H), k9 x0 x1 x2 x3 h = some o → wq p l e (mt_R (8) 0 0) s m args below meth c (MQ below (mt_Q G (some (.int o.1)) o.2) args s 0 0 (hp_A G)) G 4 0 0 9 [(0, .ref x0), (1, .int x1), (2, .int x2), (3, .int x3)] [] h) (x0 : Nat) (x1 : Int32) (x2 : Int32) (x3 : Int32) (h : hp_H) (hf : f_X10_hidden_9 k9 x0 x1 x2 x3 h = some o) : wq p l e (mt_R (8) 0 0) s m args below meth c (MQ below (mt_Q G (some (.int o.1)) o.2) args s 0 0 (hp_A G)) G 4 0 0 9 [(0, .ref x0), (1, .int x1), (2, .int x2), (3, .int x3)] [] h := by
  unfold f_X10_hidden_9 at hf
  refine wk_iload_n X dX10_hidden_9 3 rfl ?_
  refine wk_aload_n X dX10_hidden_10 0 rfl ?_
  refine wk_getR X dX10_hidden_11 fo_X10_31 hf (fun v1 hf => ?_)
  refine wk_getI X dX10_hidden_14 fo_X10_141 hf (fun v2 hf => ?_)
  refine wk_icmp_ge X 54 dX10_hidden_17 (by decide) hf (fun hf => ?_) (fun hf => ?_)
  · exact wq_sub [2] rfl (w_X10_hidden_54 X _ _ hf)
  · refine wk_aload_n X dX10_hidden_20 0 rfl ?_
    refine wk_getR X dX10_hidden_21 fo_X10_55 hf (fun v3 hf => ?_)
    refine wk_iload_n X dX10_hidden_24 1 rfl ?_
    refine wk_iload_n X dX10_hidden_25 3 rfl ?_
    refine wk_callVi X [.int x1, .int x3] [] dX10_hidden_26 rfl vo_X10_210 rfl (by decide) (Nat.le_of_ble_eq_true rfl) hf (c_X3_isFullFor l _ _ _ _) (fun r4 hf => ?_)
    refine wk_if_ne X 48 dX10_hidden_29 (by decide) hf (fun hf => ?_) (fun hf => ?_)
    · exact wq_sub [0, 1, 2, 3] rfl (w_X10_hidden_48 X k9 hk9 _ _ _ _ _ hf)
    · refine wk_aload_n X dX10_hidden_32 0 rfl ?_
      refine wk_iload_n X dX10_hidden_33 1 rfl ?_
      refine wk_iload_n X dX10_hidden_34 3 rfl ?_
      refine wk_callVi X [.int x1, .int x3] [] dX10_hidden_35 rfl vo_X10_276 rfl (by decide) (Nat.le_of_ble_eq_true rfl) hf (c_X10_namedWith l _ _ _ _) (fun r5 hf => ?_)
      refine wk_iload_n X dX10_hidden_38 1 rfl ?_
      refine wk_icmp_eq X 48 dX10_hidden_39 (by decide) hf (fun hf => ?_) (fun hf => ?_)
      · exact wq_sub [0, 1, 2, 3] rfl (w_X10_hidden_48 X k9 hk9 _ _ _ _ _ hf)
      · refine wk_iload_n X dX10_hidden_42 2 rfl ?_
        refine wk_iconst X dX10_hidden_43 ic_1 ?_
        refine wk_iload_n X dX10_hidden_44 3 rfl ?_
        refine wk_ishl X dX10_hidden_45 ?_
        refine wk_ior X dX10_hidden_46 ?_
        refine wk_istore_n (lv' := [(2, .int (x2 ||| (1 <<< (x3 &&& 31)))), (0, .ref x0), (1, .int x1), (3, .int x3)]) X dX10_hidden_47 (by decide) rfl ?_
        exact wq_sub [1, 2, 0, 3] rfl (w_X10_hidden_48 X k9 hk9 _ _ _ _ _ hf)
def l_X10_hidden_9 (x0 : Nat) (x1 : Int32) (x2 : Int32) (x3 : Int32) (h : hp_H) : Option (Int32 × hp_H) := lp (fun k (s : Nat × Int32 × Int32 × Int32 × hp_H) => f_X10_hidden_9  (fun a0 a1 a2 a3 a4 => k (a0, a1, a2, a3, a4)) s.1 s.2.1 s.2.2.1 s.2.2.2.1 s.2.2.2.2) 100000 (x0, x1, x2, x3, h)
theorem wl_X10_hidden_9 (X : wx G p s m args meth c cX10_hidden 4 RX10 (some .int)) (x0 : Nat) (x1 : Int32) (x2 : Int32) (x3 : Int32) (h : hp_H) (hf : l_X10_hidden_9 x0 x1 x2 x3 h = some o) : wq p l e (mt_R (8) 0 0) s m args below meth c (MQ below (mt_Q G (some (.int o.1)) o.2) args s 0 0 (hp_A G)) G 4 0 0 9 [(0, .ref x0), (1, .int x1), (2, .int x2), (3, .int x3)] [] h :=
  lp_ind (P := fun (s_ : Nat × Int32 × Int32 × Int32 × hp_H) => wq p l e (mt_R (8) 0 0) s m args below meth c (MQ below (mt_Q G (some (.int o.1)) o.2) args s 0 0 (hp_A G)) G 4 0 0 9 [(0, .ref s_.1), (1, .int s_.2.1), (2, .int s_.2.2.1), (3, .int s_.2.2.2.1)] [] s_.2.2.2.2) (fun k s hk hf => w_X10_hidden_9 X  (fun a0 a1 a2 a3 a4 => k (a0, a1, a2, a3, a4)) (fun a0 a1 a2 a3 a4 hf => hk (a0, a1, a2, a3, a4) hf) s.1 s.2.1 s.2.2.1 s.2.2.2.1 s.2.2.2.2 hf) 100000 (x0, x1, x2, x3, h) hf
end Sf_X10_hidden
def f_X10_hidden (x0 : Nat) (x1 : Int32) (h : hp_H) : Option (Int32 × hp_H) := gd h x0 10 ((f_X10_needMan x0 x1 h).bind fun r1 => l_X10_hidden_9 x0 x1 0 0 r1)
set_option maxRecDepth 20000 in
theorem c_X10_hidden (l : Launch) (x0 : Nat) (x1 : Int32) (h : hp_H) (r : Int32 × hp_H) (hf : f_X10_hidden x0 x1 h = some r) : cv l (8) yX10_hidden cX10_hidden 4 (some .int) 10 x0 [.int x1] h (some (.int r.1)) r.2 := by
  unfold f_X10_hidden at hf
  refine cv_of (lv := [(0, .ref x0), (1, .int x1)]) hf (by decide +kernel) (Nat.le_of_ble_eq_true rfl) rfl (fun hf p e s m args below meth c G X => ?_)
  refine wk_aload_n X dX10_hidden_0 0 rfl ?_
  refine wk_iload_n X dX10_hidden_1 1 rfl ?_
  refine wk_callVv X [.int x1] [] dX10_hidden_2 rfl vo_X10_171 rfl (by decide) (Nat.le_of_ble_eq_true rfl) hf (c_X10_needMan l _ _ _) (fun r1 hf => ?_)
  refine wk_iconst X dX10_hidden_5 ic_0 ?_
  refine wk_istore_n (lv' := [(2, .int 0), (0, .ref x0), (1, .int x1)]) X dX10_hidden_6 (by decide) rfl ?_
  refine wk_iconst X dX10_hidden_7 ic_0 ?_
  refine wk_istore_n (lv' := [(3, .int 0), (2, .int 0), (0, .ref x0), (1, .int x1)]) X dX10_hidden_8 (by decide) rfl ?_
  exact wq_sub [2, 3, 1, 0] rfl (wl_X10_hidden_9 X _ _ _ _ _ hf)
section Sg_X10_hidden
variable {p : Program} {l : Launch} {e : Env} {s : State} {m : MethodId} {args : Array Value} {below : List Frame} {meth : Method} {c : Code} {G : hp_G} {o : Nat × hp_H}
end Sg_X10_hidden
def g_X10_hidden (x0 : Nat) (x1 : Int32) (h : hp_H) : Option (Nat × hp_H) := gd h x0 10 (xb (g_X10_needMan x0 x1 h) (f_X10_needMan x0 x1 h) fun r1 => none)
set_option maxRecDepth 20000 in
theorem x_X10_hidden (l : Launch) (hl : l.stackTraces = false) (x0 : Nat) (x1 : Int32) (h : hp_H) (r : Nat × hp_H) (hf : g_X10_hidden x0 x1 h = some r) : cvx l (8) yX10_hidden cX10_hidden 4 (some .int) 10 x0 [.int x1] h r.1 r.2 := by
  unfold g_X10_hidden at hf
  refine cvx_of (lv := [(0, .ref x0), (1, .int x1)]) hf (by decide +kernel) (Nat.le_of_ble_eq_true rfl) rfl (fun hf p e s m args below meth c G hT X => ?_)
  refine wk_aload_n X dX10_hidden_0 0 rfl ?_
  refine wk_iload_n X dX10_hidden_1 1 rfl ?_
  refine wk_callVxv X hT [.int x1] [] dX10_hidden_2 rfl vo_X10_171 rfl (by decide) (Nat.le_of_ble_eq_true rfl) hf (x_X10_needMan l hl _ _ _) (c_X10_needMan l _ _ _) (fun r1 hf => ?_)
  exact nomatch hf
section Sf_X10_honour
variable {p : Program} {l : Launch} {e : Env} {s : State} {m : MethodId} {args : Array Value} {below : List Frame} {meth : Method} {c : Code} {G : hp_G} {o : Int32 × hp_H}
end Sf_X10_honour
def f_X10_honour (x0 : Nat) (x1 : Int32) (x2 : Int32) (h : hp_H) : Option (Int32 × hp_H) := gd h x0 10 ((f_X10_needMan x0 x1 h).bind fun r1 => (f_X10_needWithin x2 0 40 r1).bind fun r2 => (rd_R r2 x0 10 8).bind fun v3 => (f_X3_honourAfter v3 x1 x2 r2).bind fun r4 => some (r4.1, r4.2))
set_option maxRecDepth 20000 in
theorem c_X10_honour (l : Launch) (x0 : Nat) (x1 : Int32) (x2 : Int32) (h : hp_H) (r : Int32 × hp_H) (hf : f_X10_honour x0 x1 x2 h = some r) : cv l (8) yX10_honour cX10_honour 3 (some .int) 10 x0 [.int x1, .int x2] h (some (.int r.1)) r.2 := by
  unfold f_X10_honour at hf
  refine cv_of (lv := [(0, .ref x0), (1, .int x1), (2, .int x2)]) hf (by decide +kernel) (Nat.le_of_ble_eq_true rfl) rfl (fun hf p e s m args below meth c G X => ?_)
  refine wk_aload_n X dX10_honour_0 0 rfl ?_
  refine wk_iload_n X dX10_honour_1 1 rfl ?_
  refine wk_callVv X [.int x1] [] dX10_honour_2 rfl vo_X10_171 rfl (by decide) (Nat.le_of_ble_eq_true rfl) hf (c_X10_needMan l _ _ _) (fun r1 hf => ?_)
  refine wk_iload_n X dX10_honour_5 2 rfl ?_
  refine wk_iconst X dX10_honour_6 ic_0 ?_
  refine wk_bipush X dX10_honour_7 ib_40 ?_
  refine wk_callSv X [.int x2, .int 0, .int 40] [] dX10_honour_9 rfl vo_X10_237 rfl (by decide) (Nat.le_of_ble_eq_true rfl) hf (c_X10_needWithin l _ _ _ _) (fun r2 hf => ?_)
  refine wk_aload_n X dX10_honour_12 0 rfl ?_
  refine wk_getR X dX10_honour_13 fo_X10_55 hf (fun v3 hf => ?_)
  refine wk_iload_n X dX10_honour_16 1 rfl ?_
  refine wk_iload_n X dX10_honour_17 2 rfl ?_
  refine wk_callVi X [.int x1, .int x2] [] dX10_honour_18 rfl vo_X10_241 rfl (by decide) (Nat.le_of_ble_eq_true rfl) hf (c_X3_honourAfter l _ _ _ _) (fun r4 hf => ?_)
  exact wk_ireturn X dX10_honour_21 hf
section Sg_X10_honour
variable {p : Program} {l : Launch} {e : Env} {s : State} {m : MethodId} {args : Array Value} {below : List Frame} {meth : Method} {c : Code} {G : hp_G} {o : Nat × hp_H}
end Sg_X10_honour
def g_X10_honour (x0 : Nat) (x1 : Int32) (x2 : Int32) (h : hp_H) : Option (Nat × hp_H) := gd h x0 10 (xb (g_X10_needMan x0 x1 h) (f_X10_needMan x0 x1 h) fun r1 => xb (g_X10_needWithin x2 0 40 r1) (f_X10_needWithin x2 0 40 r1) fun r2 => none)
set_option maxRecDepth 20000 in
theorem x_X10_honour (l : Launch) (hl : l.stackTraces = false) (x0 : Nat) (x1 : Int32) (x2 : Int32) (h : hp_H) (r : Nat × hp_H) (hf : g_X10_honour x0 x1 x2 h = some r) : cvx l (8) yX10_honour cX10_honour 3 (some .int) 10 x0 [.int x1, .int x2] h r.1 r.2 := by
  unfold g_X10_honour at hf
  refine cvx_of (lv := [(0, .ref x0), (1, .int x1), (2, .int x2)]) hf (by decide +kernel) (Nat.le_of_ble_eq_true rfl) rfl (fun hf p e s m args below meth c G hT X => ?_)
  refine wk_aload_n X dX10_honour_0 0 rfl ?_
  refine wk_iload_n X dX10_honour_1 1 rfl ?_
  refine wk_callVxv X hT [.int x1] [] dX10_honour_2 rfl vo_X10_171 rfl (by decide) (Nat.le_of_ble_eq_true rfl) hf (x_X10_needMan l hl _ _ _) (c_X10_needMan l _ _ _) (fun r1 hf => ?_)
  refine wk_iload_n X dX10_honour_5 2 rfl ?_
  refine wk_iconst X dX10_honour_6 ic_0 ?_
  refine wk_bipush X dX10_honour_7 ib_40 ?_
  refine wk_callSxv X hT [.int x2, .int 0, .int 40] [] dX10_honour_9 rfl vo_X10_237 rfl (by decide) (Nat.le_of_ble_eq_true rfl) hf (x_X10_needWithin l hl _ _ _ _) (c_X10_needWithin l _ _ _ _) (fun r2 hf => ?_)
  exact nomatch hf
section Sf_X10_limped
variable {p : Program} {l : Launch} {e : Env} {s : State} {m : MethodId} {args : Array Value} {below : List Frame} {meth : Method} {c : Code} {G : hp_G} {o : Int32 × hp_H}
def f_X10_limped_114 (t0 : Int32) (h : hp_H) : Option (Int32 × hp_H) := some (t0, h)
set_option maxRecDepth 20000 in
theorem w_X10_limped_114 (X : wx G p s m args meth c cX10_limped 2 RX10 (some .int)) (t0 : Int32) (h : hp_H) (hf : f_X10_limped_114 t0 h = some o) : wq p l e (mt_R (8) 0 0) s m args below meth c (MQ below (mt_Q G (some (.int o.1)) o.2) args s 0 0 (hp_A G)) G 2 0 0 114 [] [.int t0] h := by
  unfold f_X10_limped_114 at hf
  exact wk_ireturn X dX10_limped_114 hf
def f_X10_limped_32 (t0 : Int32) (h : hp_H) : Option (Int32 × hp_H) := some (t0, h)
set_option maxRecDepth 20000 in
theorem w_X10_limped_32 (X : wx G p s m args meth c cX10_limped 2 RX10 (some .int)) (t0 : Int32) (h : hp_H) (hf : f_X10_limped_32 t0 h = some o) : wq p l e (mt_R (8) 0 0) s m args below meth c (MQ below (mt_Q G (some (.int o.1)) o.2) args s 0 0 (hp_A G)) G 2 0 0 32 [] [.int t0] h := by
  unfold f_X10_limped_32 at hf
  exact wk_ireturn X dX10_limped_32 hf
end Sf_X10_limped
def f_X10_limped (x0 : Nat) (x1 : Int32) (h : hp_H) : Option (Int32 × hp_H) := gd h x0 10 ((f_X10_needWhat x1 2 h).bind fun r1 => if x1 = 2 then ((rd_R r1 x0 10 5).bind fun v20 => (rd_R r1 v20 8 2).bind fun v21 => (rd_R r1 x0 10 8).bind fun v22 => (f_X7_allHold v21 v22 r1).bind fun r23 => if r23.1 = 0 then (f_X10_limped_32 0 r23.2) else (f_X10_limped_32 1 r23.2)) else ((rd_R r1 x0 10 9).bind fun v2 => (rd_R r1 x0 10 8).bind fun v3 => (f_X3_copyFrom v2 v3 r1).bind fun r4 => (rd_R r4 x0 10 11).bind fun v5 => (rd_R r4 x0 10 9).bind fun v6 => (rd_R r4 x0 10 5).bind fun v7 => (rd_R r4 v7 8 2).bind fun v8 => (f_X9_gather v5 v6 v8 r4).bind fun r9 => if x1 = 0 then ((rd_R r9 x0 10 11).bind fun v18 => (rd_I r9 v18 9 3).bind fun v19 => some (v19, r9)) else ((rd_R r9 x0 10 11).bind fun v10 => (rd_I r9 v10 9 3).bind fun v11 => if v11 = 0 then (f_X10_limped_114 (-1) r9) else ((rd_R r9 x0 10 11).bind fun v12 => (rd_R r9 v12 9 0).bind fun v13 => (f_X2_at v13 0 r9).bind fun r14 => (rd_R r14.2 x0 10 11).bind fun v15 => (rd_R r14.2 v15 9 1).bind fun v16 => (f_X2_at v16 0 r14.2).bind fun r17 => f_X10_limped_114 ((100 * r14.1) + r17.1) r17.2))))
set_option maxRecDepth 20000 in
theorem c_X10_limped (l : Launch) (x0 : Nat) (x1 : Int32) (h : hp_H) (r : Int32 × hp_H) (hf : f_X10_limped x0 x1 h = some r) : cv l (8) yX10_limped cX10_limped 2 (some .int) 10 x0 [.int x1] h (some (.int r.1)) r.2 := by
  unfold f_X10_limped at hf
  refine cv_of (lv := [(0, .ref x0), (1, .int x1)]) hf (by decide +kernel) (Nat.le_of_ble_eq_true rfl) rfl (fun hf p e s m args below meth c G X => ?_)
  refine wk_iload_n X dX10_limped_0 1 rfl ?_
  refine wk_iconst X dX10_limped_1 ic_2 ?_
  refine wk_callSv X [.int x1, .int 2] [] dX10_limped_2 rfl vo_X10_234 rfl (by decide) (Nat.le_of_ble_eq_true rfl) hf (c_X10_needWhat l _ _ _) (fun r1 hf => ?_)
  refine wk_iload_n X dX10_limped_5 1 rfl ?_
  refine wk_iconst X dX10_limped_6 ic_2 ?_
  refine wk_icmp_ne X 33 dX10_limped_7 (by decide) hf (fun hf => ?_) (fun hf => ?_)
  · refine wk_aload_n X dX10_limped_33 0 rfl ?_
    refine wk_getR X dX10_limped_34 fo_X10_59 hf (fun v2 hf => ?_)
    refine wk_aload_n X dX10_limped_37 0 rfl ?_
    refine wk_getR X dX10_limped_38 fo_X10_55 hf (fun v3 hf => ?_)
    refine wk_callVv X [.ref v3] [] dX10_limped_41 rfl vo_X10_116 rfl (by decide) (Nat.le_of_ble_eq_true rfl) hf (c_X3_copyFrom l _ _ _) (fun r4 hf => ?_)
    refine wk_aload_n X dX10_limped_44 0 rfl ?_
    refine wk_getR X dX10_limped_45 fo_X10_74 hf (fun v5 hf => ?_)
    refine wk_aload_n X dX10_limped_48 0 rfl ?_
    refine wk_getR X dX10_limped_49 fo_X10_59 hf (fun v6 hf => ?_)
    refine wk_aload_n X dX10_limped_52 0 rfl ?_
    refine wk_getR X dX10_limped_53 fo_X10_40 hf (fun v7 hf => ?_)
    refine wk_getR X dX10_limped_56 fo_X10_128 hf (fun v8 hf => ?_)
    refine wk_callVv X [.ref v6, .ref v8] [] dX10_limped_59 rfl vo_X10_295 rfl (by decide) (Nat.le_of_ble_eq_true rfl) hf (c_X9_gather l _ _ _ _) (fun r9 hf => ?_)
    refine wk_iload_n X dX10_limped_62 1 rfl ?_
    refine wk_if_ne X 74 dX10_limped_63 (by decide) hf (fun hf => ?_) (fun hf => ?_)
    · refine wk_aload_n X dX10_limped_74 0 rfl ?_
      refine wk_getR X dX10_limped_75 fo_X10_74 hf (fun v10 hf => ?_)
      refine wk_getI X dX10_limped_78 fo_X10_299 hf (fun v11 hf => ?_)
      refine wk_if_ne X 88 dX10_limped_81 (by decide) hf (fun hf => ?_) (fun hf => ?_)
      · refine wk_bipush X dX10_limped_88 ib_100 ?_
        refine wk_aload_n X dX10_limped_90 0 rfl ?_
        refine wk_getR X dX10_limped_91 fo_X10_74 hf (fun v12 hf => ?_)
        refine wk_getR X dX10_limped_94 fo_X10_300 hf (fun v13 hf => ?_)
        refine wk_iconst X dX10_limped_97 ic_0 ?_
        refine wk_callVi X [.int 0] [.int 100] dX10_limped_98 rfl vo_X10_163 rfl (by decide) (Nat.le_of_ble_eq_true rfl) hf (c_X2_at l _ _ _) (fun r14 hf => ?_)
        refine wk_imul X dX10_limped_101 ?_
        refine wk_aload_n X dX10_limped_102 0 rfl ?_
        refine wk_getR X dX10_limped_103 fo_X10_74 hf (fun v15 hf => ?_)
        refine wk_getR X dX10_limped_106 fo_X10_302 hf (fun v16 hf => ?_)
        refine wk_iconst X dX10_limped_109 ic_0 ?_
        refine wk_callVi X [.int 0] [.int (100 * r14.1)] dX10_limped_110 rfl vo_X10_163 rfl (by decide) (Nat.le_of_ble_eq_true rfl) hf (c_X2_at l _ _ _) (fun r17 hf => ?_)
        refine wk_iadd X dX10_limped_113 ?_
        exact wq_sub [] rfl (w_X10_limped_114 X _ _ hf)
      · refine wk_iconst X dX10_limped_84 ic_m1 ?_
        refine wk_goto X 114 dX10_limped_85 (by decide) ?_
        exact wq_sub [] rfl (w_X10_limped_114 X _ _ hf)
    · refine wk_aload_n X dX10_limped_66 0 rfl ?_
      refine wk_getR X dX10_limped_67 fo_X10_74 hf (fun v18 hf => ?_)
      refine wk_getI X dX10_limped_70 fo_X10_299 hf (fun v19 hf => ?_)
      exact wk_ireturn X dX10_limped_73 hf
  · refine wk_aload_n X dX10_limped_10 0 rfl ?_
    refine wk_getR X dX10_limped_11 fo_X10_40 hf (fun v20 hf => ?_)
    refine wk_getR X dX10_limped_14 fo_X10_128 hf (fun v21 hf => ?_)
    refine wk_aload_n X dX10_limped_17 0 rfl ?_
    refine wk_getR X dX10_limped_18 fo_X10_55 hf (fun v22 hf => ?_)
    refine wk_callVi X [.ref v22] [] dX10_limped_21 rfl vo_X10_291 rfl (by decide) (Nat.le_of_ble_eq_true rfl) hf (c_X7_allHold l _ _ _) (fun r23 hf => ?_)
    refine wk_if_eq X 31 dX10_limped_24 (by decide) hf (fun hf => ?_) (fun hf => ?_)
    · refine wk_iconst X dX10_limped_31 ic_0 ?_
      exact wq_sub [] rfl (w_X10_limped_32 X _ _ hf)
    · refine wk_iconst X dX10_limped_27 ic_1 ?_
      refine wk_goto X 32 dX10_limped_28 (by decide) ?_
      exact wq_sub [] rfl (w_X10_limped_32 X _ _ hf)
section Sg_X10_limped
variable {p : Program} {l : Launch} {e : Env} {s : State} {m : MethodId} {args : Array Value} {below : List Frame} {meth : Method} {c : Code} {G : hp_G} {o : Nat × hp_H}
end Sg_X10_limped
def g_X10_limped (x0 : Nat) (x1 : Int32) (h : hp_H) : Option (Nat × hp_H) := gd h x0 10 (xb (g_X10_needWhat x1 2 h) (f_X10_needWhat x1 2 h) fun r1 => none)
set_option maxRecDepth 20000 in
theorem x_X10_limped (l : Launch) (hl : l.stackTraces = false) (x0 : Nat) (x1 : Int32) (h : hp_H) (r : Nat × hp_H) (hf : g_X10_limped x0 x1 h = some r) : cvx l (8) yX10_limped cX10_limped 2 (some .int) 10 x0 [.int x1] h r.1 r.2 := by
  unfold g_X10_limped at hf
  refine cvx_of (lv := [(0, .ref x0), (1, .int x1)]) hf (by decide +kernel) (Nat.le_of_ble_eq_true rfl) rfl (fun hf p e s m args below meth c G hT X => ?_)
  refine wk_iload_n X dX10_limped_0 1 rfl ?_
  refine wk_iconst X dX10_limped_1 ic_2 ?_
  refine wk_callSxv X hT [.int x1, .int 2] [] dX10_limped_2 rfl vo_X10_234 rfl (by decide) (Nat.le_of_ble_eq_true rfl) hf (x_X10_needWhat l hl _ _ _) (c_X10_needWhat l _ _ _) (fun r1 hf => ?_)
  exact nomatch hf
section Sf_X10_lost
variable {p : Program} {l : Launch} {e : Env} {s : State} {m : MethodId} {args : Array Value} {below : List Frame} {meth : Method} {c : Code} {G : hp_G} {o : Int32 × hp_H}
def f_X10_lost_32 (x0 : Nat) (x1 : Int32) (t0 : Int32) (h : hp_H) : Option (Int32 × hp_H) := (rd_R h x0 10 8).bind fun v1 => (rd_R h v1 3 2).bind fun v2 => (f_X2_at v2 x1 h).bind fun r3 => some (r3.1 &&& (t0 ^^^ (-1)), r3.2)
set_option maxRecDepth 20000 in
theorem w_X10_lost_32 (X : wx G p s m args meth c cX10_lost 4 RX10 (some .int)) (x0 : Nat) (x1 : Int32) (t0 : Int32) (h : hp_H) (hf : f_X10_lost_32 x0 x1 t0 h = some o) : wq p l e (mt_R (8) 0 0) s m args below meth c (MQ below (mt_Q G (some (.int o.1)) o.2) args s 0 0 (hp_A G)) G 4 0 0 32 [(0, .ref x0), (1, .int x1)] [.int t0] h := by
  unfold f_X10_lost_32 at hf
  refine wk_istore_n (lv' := [(3, .int t0), (0, .ref x0), (1, .int x1)]) X dX10_lost_32 (by decide) rfl ?_
  refine wk_aload_n X dX10_lost_33 1 rfl ?_
  refine wk_getR X dX10_lost_34 fo_X10_55 hf (fun v1 hf => ?_)
  refine wk_getR X dX10_lost_37 fo_X10_174 hf (fun v2 hf => ?_)
  refine wk_iload_n X dX10_lost_40 2 rfl ?_
  refine wk_callVi X [.int x1] [] dX10_lost_41 rfl vo_X10_163 rfl (by decide) (Nat.le_of_ble_eq_true rfl) hf (c_X2_at l _ _ _) (fun r3 hf => ?_)
  refine wk_iload_n X dX10_lost_44 0 rfl ?_
  refine wk_iconst X dX10_lost_45 ic_m1 ?_
  refine wk_ixor X dX10_lost_46 ?_
  refine wk_iand X dX10_lost_47 ?_
  exact wk_ireturn X dX10_lost_48 hf
end Sf_X10_lost
def f_X10_lost (x0 : Nat) (x1 : Int32) (h : hp_H) : Option (Int32 × hp_H) := gd h x0 10 ((f_X10_needMan x0 x1 h).bind fun r1 => (rd_R r1 x0 10 8).bind fun v2 => (f_X3_rowOf v2 x1 r1).bind fun r3 => if r3.1 = (-1) then (f_X10_lost_32 x0 x1 0 r3.2) else ((rd_R r3.2 x0 10 8).bind fun v4 => (f_X3_heardAt v4 r3.1 0 r3.2).bind fun r5 => f_X10_lost_32 x0 x1 r5.1 r5.2))
set_option maxRecDepth 20000 in
theorem c_X10_lost (l : Launch) (x0 : Nat) (x1 : Int32) (h : hp_H) (r : Int32 × hp_H) (hf : f_X10_lost x0 x1 h = some r) : cv l (8) yX10_lost cX10_lost 4 (some .int) 10 x0 [.int x1] h (some (.int r.1)) r.2 := by
  unfold f_X10_lost at hf
  refine cv_of (lv := [(0, .ref x0), (1, .int x1)]) hf (by decide +kernel) (Nat.le_of_ble_eq_true rfl) rfl (fun hf p e s m args below meth c G X => ?_)
  refine wk_aload_n X dX10_lost_0 0 rfl ?_
  refine wk_iload_n X dX10_lost_1 1 rfl ?_
  refine wk_callVv X [.int x1] [] dX10_lost_2 rfl vo_X10_171 rfl (by decide) (Nat.le_of_ble_eq_true rfl) hf (c_X10_needMan l _ _ _) (fun r1 hf => ?_)
  refine wk_aload_n X dX10_lost_5 0 rfl ?_
  refine wk_getR X dX10_lost_6 fo_X10_55 hf (fun v2 hf => ?_)
  refine wk_iload_n X dX10_lost_9 1 rfl ?_
  refine wk_callVi X [.int x1] [] dX10_lost_10 rfl vo_X10_183 rfl (by decide) (Nat.le_of_ble_eq_true rfl) hf (c_X3_rowOf l _ _ _) (fun r3 hf => ?_)
  refine wk_istore_n (lv' := [(2, .int r3.1), (0, .ref x0), (1, .int x1)]) X dX10_lost_13 (by decide) rfl ?_
  refine wk_iload_n X dX10_lost_14 0 rfl ?_
  refine wk_iconst X dX10_lost_15 ic_m1 ?_
  refine wk_icmp_ne X 23 dX10_lost_16 (by decide) hf (fun hf => ?_) (fun hf => ?_)
  · refine wk_aload_n X dX10_lost_23 1 rfl ?_
    refine wk_getR X dX10_lost_24 fo_X10_55 hf (fun v4 hf => ?_)
    refine wk_iload_n X dX10_lost_27 0 rfl ?_
    refine wk_iconst X dX10_lost_28 ic_0 ?_
    refine wk_callVi X [.int r3.1, .int 0] [] dX10_lost_29 rfl vo_X10_193 rfl (by decide) (Nat.le_of_ble_eq_true rfl) hf (c_X3_heardAt l _ _ _ _) (fun r5 hf => ?_)
    exact wq_sub [1, 2] rfl (w_X10_lost_32 X _ _ _ _ hf)
  · refine wk_iconst X dX10_lost_19 ic_0 ?_
    refine wk_goto X 32 dX10_lost_20 (by decide) ?_
    exact wq_sub [1, 2] rfl (w_X10_lost_32 X _ _ _ _ hf)
section Sg_X10_lost
variable {p : Program} {l : Launch} {e : Env} {s : State} {m : MethodId} {args : Array Value} {below : List Frame} {meth : Method} {c : Code} {G : hp_G} {o : Nat × hp_H}
end Sg_X10_lost
def g_X10_lost (x0 : Nat) (x1 : Int32) (h : hp_H) : Option (Nat × hp_H) := gd h x0 10 (xb (g_X10_needMan x0 x1 h) (f_X10_needMan x0 x1 h) fun r1 => none)
set_option maxRecDepth 20000 in
theorem x_X10_lost (l : Launch) (hl : l.stackTraces = false) (x0 : Nat) (x1 : Int32) (h : hp_H) (r : Nat × hp_H) (hf : g_X10_lost x0 x1 h = some r) : cvx l (8) yX10_lost cX10_lost 4 (some .int) 10 x0 [.int x1] h r.1 r.2 := by
  unfold g_X10_lost at hf
  refine cvx_of (lv := [(0, .ref x0), (1, .int x1)]) hf (by decide +kernel) (Nat.le_of_ble_eq_true rfl) rfl (fun hf p e s m args below meth c G hT X => ?_)
  refine wk_aload_n X dX10_lost_0 0 rfl ?_
  refine wk_iload_n X dX10_lost_1 1 rfl ?_
  refine wk_callVxv X hT [.int x1] [] dX10_lost_2 rfl vo_X10_171 rfl (by decide) (Nat.le_of_ble_eq_true rfl) hf (x_X10_needMan l hl _ _ _) (c_X10_needMan l _ _ _) (fun r1 hf => ?_)
  exact nomatch hf
section Sf_X10_loud
variable {p : Program} {l : Launch} {e : Env} {s : State} {m : MethodId} {args : Array Value} {below : List Frame} {meth : Method} {c : Code} {G : hp_G} {o : Int32 × hp_H}
def f_X10_loud_16 (x0 : Nat) (h : hp_H) : Option (Int32 × hp_H) := (f_X10_refuse x0 1 h).bind fun r1 => some ((-1), r1)
set_option maxRecDepth 20000 in
theorem w_X10_loud_16 (X : wx G p s m args meth c cX10_loud 4 RX10 (some .int)) (x0 : Nat) (h : hp_H) (hf : f_X10_loud_16 x0 h = some o) : wq p l e (mt_R (8) 0 0) s m args below meth c (MQ below (mt_Q G (some (.int o.1)) o.2) args s 0 0 (hp_A G)) G 4 0 0 16 [(0, .ref x0)] [] h := by
  unfold f_X10_loud_16 at hf
  refine wk_aload_n X dX10_loud_16 0 rfl ?_
  refine wk_iconst X dX10_loud_17 ic_1 ?_
  refine wk_callVv X [.int 1] [] dX10_loud_18 rfl vo_X10_106 rfl (by decide) (Nat.le_of_ble_eq_true rfl) hf (c_X10_refuse l _ _ _) (fun r1 hf => ?_)
  refine wk_iconst X dX10_loud_21 ic_m1 ?_
  exact wk_ireturn X dX10_loud_22 hf
end Sf_X10_loud
def f_X10_loud (x0 : Nat) (x1 : Int32) (x2 : Int32) (h : hp_H) : Option (Int32 × hp_H) := gd h x0 10 ((f_X10_needMan x0 x1 h).bind fun r1 => if x2 < 1 then (f_X10_loud_16 x0 r1) else (if x2 ≤ 9 then ((rd_R r1 x0 10 8).bind fun v2 => (rd_R r1 v2 3 3).bind fun v3 => (f_X2_at v3 x1 r1).bind fun r4 => (rd_R r4.2 x0 10 5).bind fun v5 => (rd_R r4.2 v5 8 1).bind fun v6 => (rd_R r4.2 x0 10 8).bind fun v7 => (f_X0_keep v6 3 x1 r4.1 v7 r4.2).bind fun r8 => (rd_R r8 x0 10 8).bind fun v9 => (rd_R r8 v9 3 3).bind fun v10 => (f_X2_set v10 x1 x2 r8).bind fun r11 => some (r4.1, r11)) else (f_X10_loud_16 x0 r1)))
set_option maxRecDepth 20000 in
theorem c_X10_loud (l : Launch) (x0 : Nat) (x1 : Int32) (x2 : Int32) (h : hp_H) (r : Int32 × hp_H) (hf : f_X10_loud x0 x1 x2 h = some r) : cv l (8) yX10_loud cX10_loud 4 (some .int) 10 x0 [.int x1, .int x2] h (some (.int r.1)) r.2 := by
  unfold f_X10_loud at hf
  refine cv_of (lv := [(0, .ref x0), (1, .int x1), (2, .int x2)]) hf (by decide +kernel) (Nat.le_of_ble_eq_true rfl) rfl (fun hf p e s m args below meth c G X => ?_)
  refine wk_aload_n X dX10_loud_0 0 rfl ?_
  refine wk_iload_n X dX10_loud_1 1 rfl ?_
  refine wk_callVv X [.int x1] [] dX10_loud_2 rfl vo_X10_171 rfl (by decide) (Nat.le_of_ble_eq_true rfl) hf (c_X10_needMan l _ _ _) (fun r1 hf => ?_)
  refine wk_iload_n X dX10_loud_5 2 rfl ?_
  refine wk_iconst X dX10_loud_6 ic_1 ?_
  refine wk_icmp_lt X 16 dX10_loud_7 (by decide) hf (fun hf => ?_) (fun hf => ?_)
  · exact wq_sub [0] rfl (w_X10_loud_16 X _ _ hf)
  · refine wk_iload_n X dX10_loud_10 2 rfl ?_
    refine wk_bipush X dX10_loud_11 ib_9 ?_
    refine wk_icmp_le X 23 dX10_loud_13 (by decide) hf (fun hf => ?_) (fun hf => ?_)
    · refine wk_aload_n X dX10_loud_23 0 rfl ?_
      refine wk_getR X dX10_loud_24 fo_X10_55 hf (fun v2 hf => ?_)
      refine wk_getR X dX10_loud_27 fo_X10_177 hf (fun v3 hf => ?_)
      refine wk_iload_n X dX10_loud_30 1 rfl ?_
      refine wk_callVi X [.int x1] [] dX10_loud_31 rfl vo_X10_163 rfl (by decide) (Nat.le_of_ble_eq_true rfl) hf (c_X2_at l _ _ _) (fun r4 hf => ?_)
      refine wk_istore_n (lv' := [(3, .int r4.1), (0, .ref x0), (1, .int x1), (2, .int x2)]) X dX10_loud_34 (by decide) rfl ?_
      refine wk_aload_n X dX10_loud_35 1 rfl ?_
      refine wk_getR X dX10_loud_36 fo_X10_40 hf (fun v5 hf => ?_)
      refine wk_getR X dX10_loud_39 fo_X10_119 hf (fun v6 hf => ?_)
      refine wk_iconst X dX10_loud_42 ic_3 ?_
      refine wk_iload_n X dX10_loud_43 2 rfl ?_
      refine wk_iload_n X dX10_loud_44 0 rfl ?_
      refine wk_aload_n X dX10_loud_45 1 rfl ?_
      refine wk_getR X dX10_loud_46 fo_X10_55 hf (fun v7 hf => ?_)
      refine wk_callVv X [.int 3, .int x1, .int r4.1, .ref v7] [] dX10_loud_49 rfl vo_X10_203 rfl (by decide) (Nat.le_of_ble_eq_true rfl) hf (c_X0_keep l _ _ _ _ _ _) (fun r8 hf => ?_)
      refine wk_aload_n X dX10_loud_52 1 rfl ?_
      refine wk_getR X dX10_loud_53 fo_X10_55 hf (fun v9 hf => ?_)
      refine wk_getR X dX10_loud_56 fo_X10_177 hf (fun v10 hf => ?_)
      refine wk_iload_n X dX10_loud_59 2 rfl ?_
      refine wk_iload_n X dX10_loud_60 3 rfl ?_
      refine wk_callVv X [.int x1, .int x2] [] dX10_loud_61 rfl vo_X10_224 rfl (by decide) (Nat.le_of_ble_eq_true rfl) hf (c_X2_set l _ _ _ _) (fun r11 hf => ?_)
      refine wk_iload_n X dX10_loud_64 0 rfl ?_
      exact wk_ireturn X dX10_loud_65 hf
    · exact wq_sub [0] rfl (w_X10_loud_16 X _ _ hf)
section Sg_X10_loud
variable {p : Program} {l : Launch} {e : Env} {s : State} {m : MethodId} {args : Array Value} {below : List Frame} {meth : Method} {c : Code} {G : hp_G} {o : Nat × hp_H}
end Sg_X10_loud
def g_X10_loud (x0 : Nat) (x1 : Int32) (x2 : Int32) (h : hp_H) : Option (Nat × hp_H) := gd h x0 10 (xb (g_X10_needMan x0 x1 h) (f_X10_needMan x0 x1 h) fun r1 => none)
set_option maxRecDepth 20000 in
theorem x_X10_loud (l : Launch) (hl : l.stackTraces = false) (x0 : Nat) (x1 : Int32) (x2 : Int32) (h : hp_H) (r : Nat × hp_H) (hf : g_X10_loud x0 x1 x2 h = some r) : cvx l (8) yX10_loud cX10_loud 4 (some .int) 10 x0 [.int x1, .int x2] h r.1 r.2 := by
  unfold g_X10_loud at hf
  refine cvx_of (lv := [(0, .ref x0), (1, .int x1), (2, .int x2)]) hf (by decide +kernel) (Nat.le_of_ble_eq_true rfl) rfl (fun hf p e s m args below meth c G hT X => ?_)
  refine wk_aload_n X dX10_loud_0 0 rfl ?_
  refine wk_iload_n X dX10_loud_1 1 rfl ?_
  refine wk_callVxv X hT [.int x1] [] dX10_loud_2 rfl vo_X10_171 rfl (by decide) (Nat.le_of_ble_eq_true rfl) hf (x_X10_needMan l hl _ _ _) (c_X10_needMan l _ _ _) (fun r1 hf => ?_)
  exact nomatch hf
section Sf_X10_man
variable {p : Program} {l : Launch} {e : Env} {s : State} {m : MethodId} {args : Array Value} {below : List Frame} {meth : Method} {c : Code} {G : hp_G} {o : Int32 × hp_H}
end Sf_X10_man
def f_X10_man (x0 : Nat) (x1 : Int32) (x2 : Int32) (h : hp_H) : Option (Int32 × hp_H) := gd h x0 10 ((f_X10_needMan x0 x1 h).bind fun r1 => if x2 = 0 then ((rd_R r1 x0 10 8).bind fun v2 => (rd_R r1 v2 3 2).bind fun v3 => (f_X2_at v3 x1 r1).bind fun r4 => some (r4.1, r4.2)) else (if x2 = 1 then ((rd_R r1 x0 10 8).bind fun v5 => (rd_R r1 v5 3 3).bind fun v6 => (f_X2_at v6 x1 r1).bind fun r7 => some (r7.1, r7.2)) else (if x2 = 2 then ((rd_R r1 x0 10 8).bind fun v8 => (rd_R r1 v8 3 4).bind fun v9 => (f_X2_at v9 x1 r1).bind fun r10 => some (r10.1, r10.2)) else (if x2 = 3 then ((rd_R r1 x0 10 8).bind fun v11 => (f_X3_rowOf v11 x1 r1).bind fun r12 => some (r12.1, r12.2)) else (none)))))
set_option maxRecDepth 20000 in
theorem c_X10_man (l : Launch) (x0 : Nat) (x1 : Int32) (x2 : Int32) (h : hp_H) (r : Int32 × hp_H) (hf : f_X10_man x0 x1 x2 h = some r) : cv l (8) yX10_man cX10_man 3 (some .int) 10 x0 [.int x1, .int x2] h (some (.int r.1)) r.2 := by
  unfold f_X10_man at hf
  refine cv_of (lv := [(0, .ref x0), (1, .int x1), (2, .int x2)]) hf (by decide +kernel) (Nat.le_of_ble_eq_true rfl) rfl (fun hf p e s m args below meth c G X => ?_)
  refine wk_aload_n X dX10_man_0 0 rfl ?_
  refine wk_iload_n X dX10_man_1 1 rfl ?_
  refine wk_callVv X [.int x1] [] dX10_man_2 rfl vo_X10_171 rfl (by decide) (Nat.le_of_ble_eq_true rfl) hf (c_X10_needMan l _ _ _) (fun r1 hf => ?_)
  refine wk_iload_n X dX10_man_5 2 rfl ?_
  refine wk_ts_in X 36 0 dX10_man_6 (by decide) (by decide) (by decide) rfl (by decide) hf (fun hf => ?_) (fun n0 hf => ?_)
  · refine wk_aload_n X dX10_man_36 0 rfl ?_
    refine wk_getR X dX10_man_37 fo_X10_55 hf (fun v2 hf => ?_)
    refine wk_getR X dX10_man_40 fo_X10_174 hf (fun v3 hf => ?_)
    refine wk_iload_n X dX10_man_43 1 rfl ?_
    refine wk_callVi X [.int x1] [] dX10_man_44 rfl vo_X10_163 rfl (by decide) (Nat.le_of_ble_eq_true rfl) hf (c_X2_at l _ _ _) (fun r4 hf => ?_)
    exact wk_ireturn X dX10_man_47 hf
  refine wk_ts_in X 48 1 dX10_man_6 (by decide) (by decide) (by decide) rfl (by decide) hf (fun hf => ?_) (fun n1 hf => ?_)
  · refine wk_aload_n X dX10_man_48 0 rfl ?_
    refine wk_getR X dX10_man_49 fo_X10_55 hf (fun v5 hf => ?_)
    refine wk_getR X dX10_man_52 fo_X10_177 hf (fun v6 hf => ?_)
    refine wk_iload_n X dX10_man_55 1 rfl ?_
    refine wk_callVi X [.int x1] [] dX10_man_56 rfl vo_X10_163 rfl (by decide) (Nat.le_of_ble_eq_true rfl) hf (c_X2_at l _ _ _) (fun r7 hf => ?_)
    exact wk_ireturn X dX10_man_59 hf
  refine wk_ts_in X 60 2 dX10_man_6 (by decide) (by decide) (by decide) rfl (by decide) hf (fun hf => ?_) (fun n2 hf => ?_)
  · refine wk_aload_n X dX10_man_60 0 rfl ?_
    refine wk_getR X dX10_man_61 fo_X10_55 hf (fun v8 hf => ?_)
    refine wk_getR X dX10_man_64 fo_X10_180 hf (fun v9 hf => ?_)
    refine wk_iload_n X dX10_man_67 1 rfl ?_
    refine wk_callVi X [.int x1] [] dX10_man_68 rfl vo_X10_163 rfl (by decide) (Nat.le_of_ble_eq_true rfl) hf (c_X2_at l _ _ _) (fun r10 hf => ?_)
    exact wk_ireturn X dX10_man_71 hf
  refine wk_ts_in X 72 3 dX10_man_6 (by decide) (by decide) (by decide) rfl (by decide) hf (fun hf => ?_) (fun n3 hf => ?_)
  · refine wk_aload_n X dX10_man_72 0 rfl ?_
    refine wk_getR X dX10_man_73 fo_X10_55 hf (fun v11 hf => ?_)
    refine wk_iload_n X dX10_man_76 1 rfl ?_
    refine wk_callVi X [.int x1] [] dX10_man_77 rfl vo_X10_183 rfl (by decide) (Nat.le_of_ble_eq_true rfl) hf (c_X3_rowOf l _ _ _) (fun r12 hf => ?_)
    exact wk_ireturn X dX10_man_80 hf
  refine wk_ts_out X 81 dX10_man_6 (fc_c n0 (fc_c n1 (fc_c n2 (fc_c n3 fc_n)))) (by decide) (by decide) (by decide) ?_
  exact nomatch hf
section Sg_X10_man
variable {p : Program} {l : Launch} {e : Env} {s : State} {m : MethodId} {args : Array Value} {below : List Frame} {meth : Method} {c : Code} {G : hp_G} {o : Nat × hp_H}
end Sg_X10_man
def g_X10_man (x0 : Nat) (x1 : Int32) (x2 : Int32) (h : hp_H) : Option (Nat × hp_H) := gd h x0 10 (xb (g_X10_needMan x0 x1 h) (f_X10_needMan x0 x1 h) fun r1 => if x2 = 0 then (none) else (if x2 = 1 then (none) else (if x2 = 2 then (none) else (if x2 = 3 then (none) else (some (0, r1))))))
set_option maxRecDepth 20000 in
theorem x_X10_man (l : Launch) (hl : l.stackTraces = false) (x0 : Nat) (x1 : Int32) (x2 : Int32) (h : hp_H) (r : Nat × hp_H) (hf : g_X10_man x0 x1 x2 h = some r) : cvx l (8) yX10_man cX10_man 3 (some .int) 10 x0 [.int x1, .int x2] h r.1 r.2 := by
  unfold g_X10_man at hf
  refine cvx_of (lv := [(0, .ref x0), (1, .int x1), (2, .int x2)]) hf (by decide +kernel) (Nat.le_of_ble_eq_true rfl) rfl (fun hf p e s m args below meth c G hT X => ?_)
  refine wk_aload_n X dX10_man_0 0 rfl ?_
  refine wk_iload_n X dX10_man_1 1 rfl ?_
  refine wk_callVxv X hT [.int x1] [] dX10_man_2 rfl vo_X10_171 rfl (by decide) (Nat.le_of_ble_eq_true rfl) hf (x_X10_needMan l hl _ _ _) (c_X10_needMan l _ _ _) (fun r1 hf => ?_)
  refine wk_iload_n X dX10_man_5 2 rfl ?_
  refine wk_ts_in X 36 0 dX10_man_6 (by decide) (by decide) (by decide) rfl (by decide) hf (fun hf => ?_) (fun n0 hf => ?_)
  · exact nomatch hf
  refine wk_ts_in X 48 1 dX10_man_6 (by decide) (by decide) (by decide) rfl (by decide) hf (fun hf => ?_) (fun n1 hf => ?_)
  · exact nomatch hf
  refine wk_ts_in X 60 2 dX10_man_6 (by decide) (by decide) (by decide) rfl (by decide) hf (fun hf => ?_) (fun n2 hf => ?_)
  · exact nomatch hf
  refine wk_ts_in X 72 3 dX10_man_6 (by decide) (by decide) (by decide) rfl (by decide) hf (fun hf => ?_) (fun n3 hf => ?_)
  · exact nomatch hf
  refine wk_ts_out X 81 dX10_man_6 (fc_c n0 (fc_c n1 (fc_c n2 (fc_c n3 fc_n)))) (by decide) (by decide) (by decide) ?_
  exact wk_throw X hl hT 0 18 2 (by decide) (by decide) rfl xo_X10_166_170 dX10_man_81 dX10_man_84 (Or.inl ⟨dX10_man_85, rfl⟩) dX10_man_87 dX10_man_90 (Nat.le_of_ble_eq_true rfl) hf
section Sf_X10_mates
variable {p : Program} {l : Launch} {e : Env} {s : State} {m : MethodId} {args : Array Value} {below : List Frame} {meth : Method} {c : Code} {G : hp_G} {o : Int32 × hp_H}
def f_X10_mates_40 (t0 : Int32) (h : hp_H) : Option (Int32 × hp_H) := some (t0, h)
set_option maxRecDepth 20000 in
theorem w_X10_mates_40 (X : wx G p s m args meth c cX10_mates 3 RX10 (some .int)) (t0 : Int32) (h : hp_H) (hf : f_X10_mates_40 t0 h = some o) : wq p l e (mt_R (8) 0 0) s m args below meth c (MQ below (mt_Q G (some (.int o.1)) o.2) args s 0 0 (hp_A G)) G 3 0 0 40 [] [.int t0] h := by
  unfold f_X10_mates_40 at hf
  exact wk_ireturn X dX10_mates_40 hf
end Sf_X10_mates
def f_X10_mates (x0 : Nat) (x1 : Int32) (h : hp_H) : Option (Int32 × hp_H) := gd h x0 10 ((f_X10_needMan x0 x1 h).bind fun r1 => (rd_R r1 x0 10 8).bind fun v2 => (f_X3_rowOf v2 x1 r1).bind fun r3 => if r3.1 = (-1) then (f_X10_mates_40 0 r3.2) else ((rd_R r3.2 x0 10 8).bind fun v4 => (rd_R r3.2 v4 3 5).bind fun v5 => (f_X2_at v5 r3.1 r3.2).bind fun r6 => f_X10_mates_40 (r6.1 &&& ((1 <<< (x1 &&& 31)) ^^^ ((-1) : Int32))) r6.2))
set_option maxRecDepth 20000 in
theorem c_X10_mates (l : Launch) (x0 : Nat) (x1 : Int32) (h : hp_H) (r : Int32 × hp_H) (hf : f_X10_mates x0 x1 h = some r) : cv l (8) yX10_mates cX10_mates 3 (some .int) 10 x0 [.int x1] h (some (.int r.1)) r.2 := by
  unfold f_X10_mates at hf
  refine cv_of (lv := [(0, .ref x0), (1, .int x1)]) hf (by decide +kernel) (Nat.le_of_ble_eq_true rfl) rfl (fun hf p e s m args below meth c G X => ?_)
  refine wk_aload_n X dX10_mates_0 0 rfl ?_
  refine wk_iload_n X dX10_mates_1 1 rfl ?_
  refine wk_callVv X [.int x1] [] dX10_mates_2 rfl vo_X10_171 rfl (by decide) (Nat.le_of_ble_eq_true rfl) hf (c_X10_needMan l _ _ _) (fun r1 hf => ?_)
  refine wk_aload_n X dX10_mates_5 0 rfl ?_
  refine wk_getR X dX10_mates_6 fo_X10_55 hf (fun v2 hf => ?_)
  refine wk_iload_n X dX10_mates_9 1 rfl ?_
  refine wk_callVi X [.int x1] [] dX10_mates_10 rfl vo_X10_183 rfl (by decide) (Nat.le_of_ble_eq_true rfl) hf (c_X3_rowOf l _ _ _) (fun r3 hf => ?_)
  refine wk_istore_n (lv' := [(2, .int r3.1), (0, .ref x0), (1, .int x1)]) X dX10_mates_13 (by decide) rfl ?_
  refine wk_iload_n X dX10_mates_14 0 rfl ?_
  refine wk_iconst X dX10_mates_15 ic_m1 ?_
  refine wk_icmp_ne X 23 dX10_mates_16 (by decide) hf (fun hf => ?_) (fun hf => ?_)
  · refine wk_aload_n X dX10_mates_23 1 rfl ?_
    refine wk_getR X dX10_mates_24 fo_X10_55 hf (fun v4 hf => ?_)
    refine wk_getR X dX10_mates_27 fo_X10_191 hf (fun v5 hf => ?_)
    refine wk_iload_n X dX10_mates_30 0 rfl ?_
    refine wk_callVi X [.int r3.1] [] dX10_mates_31 rfl vo_X10_163 rfl (by decide) (Nat.le_of_ble_eq_true rfl) hf (c_X2_at l _ _ _) (fun r6 hf => ?_)
    refine wk_iconst X dX10_mates_34 ic_1 ?_
    refine wk_iload_n X dX10_mates_35 2 rfl ?_
    refine wk_ishl X dX10_mates_36 ?_
    refine wk_iconst X dX10_mates_37 ic_m1 ?_
    refine wk_ixor X dX10_mates_38 ?_
    refine wk_iand X dX10_mates_39 ?_
    exact wq_sub [] rfl (w_X10_mates_40 X _ _ hf)
  · refine wk_iconst X dX10_mates_19 ic_0 ?_
    refine wk_goto X 40 dX10_mates_20 (by decide) ?_
    exact wq_sub [] rfl (w_X10_mates_40 X _ _ hf)
section Sg_X10_mates
variable {p : Program} {l : Launch} {e : Env} {s : State} {m : MethodId} {args : Array Value} {below : List Frame} {meth : Method} {c : Code} {G : hp_G} {o : Nat × hp_H}
end Sg_X10_mates
def g_X10_mates (x0 : Nat) (x1 : Int32) (h : hp_H) : Option (Nat × hp_H) := gd h x0 10 (xb (g_X10_needMan x0 x1 h) (f_X10_needMan x0 x1 h) fun r1 => none)
set_option maxRecDepth 20000 in
theorem x_X10_mates (l : Launch) (hl : l.stackTraces = false) (x0 : Nat) (x1 : Int32) (h : hp_H) (r : Nat × hp_H) (hf : g_X10_mates x0 x1 h = some r) : cvx l (8) yX10_mates cX10_mates 3 (some .int) 10 x0 [.int x1] h r.1 r.2 := by
  unfold g_X10_mates at hf
  refine cvx_of (lv := [(0, .ref x0), (1, .int x1)]) hf (by decide +kernel) (Nat.le_of_ble_eq_true rfl) rfl (fun hf p e s m args below meth c G hT X => ?_)
  refine wk_aload_n X dX10_mates_0 0 rfl ?_
  refine wk_iload_n X dX10_mates_1 1 rfl ?_
  refine wk_callVxv X hT [.int x1] [] dX10_mates_2 rfl vo_X10_171 rfl (by decide) (Nat.le_of_ble_eq_true rfl) hf (x_X10_needMan l hl _ _ _) (c_X10_needMan l _ _ _) (fun r1 hf => ?_)
  exact nomatch hf
section Sf_X10_mistaken
variable {p : Program} {l : Launch} {e : Env} {s : State} {m : MethodId} {args : Array Value} {below : List Frame} {meth : Method} {c : Code} {G : hp_G} {o : Int32 × hp_H}
def f_X10_mistaken_89 (x3 : Int32) (h : hp_H) : Option (Int32 × hp_H) := some (x3, h)
set_option maxRecDepth 20000 in
theorem w_X10_mistaken_89 (X : wx G p s m args meth c cX10_mistaken 6 RX10 (some .int)) (x3 : Int32) (h : hp_H) (hf : f_X10_mistaken_89 x3 h = some o) : wq p l e (mt_R (8) 0 0) s m args below meth c (MQ below (mt_Q G (some (.int o.1)) o.2) args s 0 0 (hp_A G)) G 6 0 0 89 [(3, .int x3)] [] h := by
  unfold f_X10_mistaken_89 at hf
  refine wk_iload_n X dX10_mistaken_89 0 rfl ?_
  exact wk_ireturn X dX10_mistaken_90 hf
def f_X10_mistaken_83 (k23 : Nat → Int32 → Int32 → Int32 → Int32 → hp_H → Option (Int32 × hp_H)) (x0 : Nat) (x1 : Int32) (x2 : Int32) (x3 : Int32) (x4 : Int32) (h : hp_H) : Option (Int32 × hp_H) := k23 x0 x1 x2 x3 (x4 + 1) h
set_option maxRecDepth 20000 in
theorem w_X10_mistaken_83 (X : wx G p s m args meth c cX10_mistaken 6 RX10 (some .int)) (k23 : Nat → Int32 → Int32 → Int32 → Int32 → hp_H → Option (Int32 × hp_H)) (hk23 : ∀ (x0 : Nat) (x1 : Int32) (x2 : Int32) (x3 : Int32) (x4 : Int32) (h : hp_H), k23 x0 x1 x2 x3 x4 h = some o → wq p l e (mt_R (8) 0 0) s m args below meth c (MQ below (mt_Q G (some (.int o.1)) o.2) args s 0 0 (hp_A G)) G 6 0 0 23 [(0, .ref x0), (1, .int x1), (2, .int x2), (3, .int x3), (4, .int x4)] [] h) (x0 : Nat) (x1 : Int32) (x2 : Int32) (x3 : Int32) (x4 : Int32) (h : hp_H) (hf : f_X10_mistaken_83 k23 x0 x1 x2 x3 x4 h = some o) : wq p l e (mt_R (8) 0 0) s m args below meth c (MQ below (mt_Q G (some (.int o.1)) o.2) args s 0 0 (hp_A G)) G 6 0 0 83 [(0, .ref x0), (1, .int x1), (2, .int x2), (3, .int x3), (4, .int x4)] [] h := by
  unfold f_X10_mistaken_83 at hf
  refine wk_iinc (lv' := [(4, .int (x4 + 1)), (0, .ref x0), (1, .int x1), (2, .int x2), (3, .int x3)]) X dX10_mistaken_83 4 rfl ic_1 (by decide) rfl ?_
  refine wk_goto X 23 dX10_mistaken_86 (by decide) ?_
  exact wq_sub [1, 2, 3, 4, 0] rfl (hk23 _ _ _ _ _ _ hf)
def f_X10_mistaken_23 (k23 : Nat → Int32 → Int32 → Int32 → Int32 → hp_H → Option (Int32 × hp_H)) (x0 : Nat) (x1 : Int32) (x2 : Int32) (x3 : Int32) (x4 : Int32) (h : hp_H) : Option (Int32 × hp_H) := (rd_R h x0 10 4).bind fun v1 => (rd_I h v1 1 2).bind fun v2 => if v2 ≤ x4 then (f_X10_mistaken_89 x3 h) else ((rd_R h x0 10 8).bind fun v3 => (f_X3_namedAt v3 x4 (x1 - 1) x2 h).bind fun r4 => if r4.1 = (-1) then (f_X10_mistaken_83 k23 x0 x1 x2 x3 x4 r4.2) else ((rd_R r4.2 x0 10 8).bind fun v5 => (f_X3_menAt v5 x4 (x1 - 1) r4.2).bind fun r6 => (f_X10_holds r6.1 r4.1 r6.2).bind fun r7 => if r7.1 = 0 then (f_X10_mistaken_83 k23 x0 x1 x2 (x3 ||| (1 <<< (x4 &&& 31))) x4 r7.2) else (f_X10_mistaken_83 k23 x0 x1 x2 x3 x4 r7.2)))
set_option maxRecDepth 20000 in
theorem w_X10_mistaken_23 (X : wx G p s m args meth c cX10_mistaken 6 RX10 (some .int)) (k23 : Nat → Int32 → Int32 → Int32 → Int32 → hp_H → Option (Int32 × hp_H)) (hk23 : ∀ (x0 : Nat) (x1 : Int32) (x2 : Int32) (x3 : Int32) (x4 : Int32) (h : hp_H), k23 x0 x1 x2 x3 x4 h = some o → wq p l e (mt_R (8) 0 0) s m args below meth c (MQ below (mt_Q G (some (.int o.1)) o.2) args s 0 0 (hp_A G)) G 6 0 0 23 [(0, .ref x0), (1, .int x1), (2, .int x2), (3, .int x3), (4, .int x4)] [] h) (x0 : Nat) (x1 : Int32) (x2 : Int32) (x3 : Int32) (x4 : Int32) (h : hp_H) (hf : f_X10_mistaken_23 k23 x0 x1 x2 x3 x4 h = some o) : wq p l e (mt_R (8) 0 0) s m args below meth c (MQ below (mt_Q G (some (.int o.1)) o.2) args s 0 0 (hp_A G)) G 6 0 0 23 [(0, .ref x0), (1, .int x1), (2, .int x2), (3, .int x3), (4, .int x4)] [] h := by
  unfold f_X10_mistaken_23 at hf
  refine wk_iload X dX10_mistaken_23 4 rfl ?_
  refine wk_aload_n X dX10_mistaken_25 0 rfl ?_
  refine wk_getR X dX10_mistaken_26 fo_X10_31 hf (fun v1 hf => ?_)
  refine wk_getI X dX10_mistaken_29 fo_X10_141 hf (fun v2 hf => ?_)
  refine wk_icmp_ge X 89 dX10_mistaken_32 (by decide) hf (fun hf => ?_) (fun hf => ?_)
  · exact wq_sub [3] rfl (w_X10_mistaken_89 X _ _ hf)
  · refine wk_aload_n X dX10_mistaken_35 0 rfl ?_
    refine wk_getR X dX10_mistaken_36 fo_X10_55 hf (fun v3 hf => ?_)
    refine wk_iload X dX10_mistaken_39 4 rfl ?_
    refine wk_iload_n X dX10_mistaken_41 1 rfl ?_
    refine wk_iconst X dX10_mistaken_42 ic_1 ?_
    refine wk_isub X dX10_mistaken_43 ?_
    refine wk_iload_n X dX10_mistaken_44 2 rfl ?_
    refine wk_callVi X [.int x4, .int (x1 - 1), .int x2] [] dX10_mistaken_45 rfl vo_X10_197 rfl (by decide) (Nat.le_of_ble_eq_true rfl) hf (c_X3_namedAt l _ _ _ _ _) (fun r4 hf => ?_)
    refine wk_istore (lv' := [(5, .int r4.1), (0, .ref x0), (1, .int x1), (2, .int x2), (3, .int x3), (4, .int x4)]) X dX10_mistaken_48 (by decide) rfl ?_
    refine wk_iload X dX10_mistaken_50 0 rfl ?_
    refine wk_iconst X dX10_mistaken_52 ic_m1 ?_
    refine wk_icmp_eq X 83 dX10_mistaken_53 (by decide) hf (fun hf => ?_) (fun hf => ?_)
    · exact wq_sub [1, 2, 3, 4, 5] rfl (w_X10_mistaken_83 X k23 hk23 _ _ _ _ _ _ hf)
    · refine wk_aload_n X dX10_mistaken_56 1 rfl ?_
      refine wk_getR X dX10_mistaken_57 fo_X10_55 hf (fun v5 hf => ?_)
      refine wk_iload X dX10_mistaken_60 5 rfl ?_
      refine wk_iload_n X dX10_mistaken_62 2 rfl ?_
      refine wk_iconst X dX10_mistaken_63 ic_1 ?_
      refine wk_isub X dX10_mistaken_64 ?_
      refine wk_callVi X [.int x4, .int (x1 - 1)] [] dX10_mistaken_65 rfl vo_X10_247 rfl (by decide) (Nat.le_of_ble_eq_true rfl) hf (c_X3_menAt l _ _ _ _) (fun r6 hf => ?_)
      refine wk_iload X dX10_mistaken_68 0 rfl ?_
      refine wk_callSi X [.int r6.1, .int r4.1] [] dX10_mistaken_70 rfl vo_X10_250 rfl (by decide) (Nat.le_of_ble_eq_true rfl) hf (c_X10_holds l _ _ _) (fun r7 hf => ?_)
      refine wk_if_ne X 83 dX10_mistaken_73 (by decide) hf (fun hf => ?_) (fun hf => ?_)
      · exact wq_sub [1, 2, 3, 4, 5] rfl (w_X10_mistaken_83 X k23 hk23 _ _ _ _ _ _ hf)
      · refine wk_iload_n X dX10_mistaken_76 4 rfl ?_
        refine wk_iconst X dX10_mistaken_77 ic_1 ?_
        refine wk_iload X dX10_mistaken_78 5 rfl ?_
        refine wk_ishl X dX10_mistaken_80 ?_
        refine wk_ior X dX10_mistaken_81 ?_
        refine wk_istore_n (lv' := [(3, .int (x3 ||| (1 <<< (x4 &&& 31)))), (5, .int r4.1), (0, .ref x0), (1, .int x1), (2, .int x2), (4, .int x4)]) X dX10_mistaken_82 (by decide) rfl ?_
        exact wq_sub [2, 3, 4, 0, 5] rfl (w_X10_mistaken_83 X k23 hk23 _ _ _ _ _ _ hf)
def l_X10_mistaken_23 (x0 : Nat) (x1 : Int32) (x2 : Int32) (x3 : Int32) (x4 : Int32) (h : hp_H) : Option (Int32 × hp_H) := lp (fun k (s : Nat × Int32 × Int32 × Int32 × Int32 × hp_H) => f_X10_mistaken_23  (fun a0 a1 a2 a3 a4 a5 => k (a0, a1, a2, a3, a4, a5)) s.1 s.2.1 s.2.2.1 s.2.2.2.1 s.2.2.2.2.1 s.2.2.2.2.2) 100000 (x0, x1, x2, x3, x4, h)
theorem wl_X10_mistaken_23 (X : wx G p s m args meth c cX10_mistaken 6 RX10 (some .int)) (x0 : Nat) (x1 : Int32) (x2 : Int32) (x3 : Int32) (x4 : Int32) (h : hp_H) (hf : l_X10_mistaken_23 x0 x1 x2 x3 x4 h = some o) : wq p l e (mt_R (8) 0 0) s m args below meth c (MQ below (mt_Q G (some (.int o.1)) o.2) args s 0 0 (hp_A G)) G 6 0 0 23 [(0, .ref x0), (1, .int x1), (2, .int x2), (3, .int x3), (4, .int x4)] [] h :=
  lp_ind (P := fun (s_ : Nat × Int32 × Int32 × Int32 × Int32 × hp_H) => wq p l e (mt_R (8) 0 0) s m args below meth c (MQ below (mt_Q G (some (.int o.1)) o.2) args s 0 0 (hp_A G)) G 6 0 0 23 [(0, .ref s_.1), (1, .int s_.2.1), (2, .int s_.2.2.1), (3, .int s_.2.2.2.1), (4, .int s_.2.2.2.2.1)] [] s_.2.2.2.2.2) (fun k s hk hf => w_X10_mistaken_23 X  (fun a0 a1 a2 a3 a4 a5 => k (a0, a1, a2, a3, a4, a5)) (fun a0 a1 a2 a3 a4 a5 hf => hk (a0, a1, a2, a3, a4, a5) hf) s.1 s.2.1 s.2.2.1 s.2.2.2.1 s.2.2.2.2.1 s.2.2.2.2.2 hf) 100000 (x0, x1, x2, x3, x4, h) hf
end Sf_X10_mistaken
def f_X10_mistaken (x0 : Nat) (x1 : Int32) (h : hp_H) : Option (Int32 × hp_H) := gd h x0 10 ((f_X10_needWithin x1 1 40 h).bind fun r1 => (rd_R r1 x0 10 8).bind fun v2 => (f_X3_mudIn v2 (x1 - 1) r1).bind fun r3 => l_X10_mistaken_23 x0 x1 r3.1 0 0 r3.2)
set_option maxRecDepth 20000 in
theorem c_X10_mistaken (l : Launch) (x0 : Nat) (x1 : Int32) (h : hp_H) (r : Int32 × hp_H) (hf : f_X10_mistaken x0 x1 h = some r) : cv l (8) yX10_mistaken cX10_mistaken 6 (some .int) 10 x0 [.int x1] h (some (.int r.1)) r.2 := by
  unfold f_X10_mistaken at hf
  refine cv_of (lv := [(0, .ref x0), (1, .int x1)]) hf (by decide +kernel) (Nat.le_of_ble_eq_true rfl) rfl (fun hf p e s m args below meth c G X => ?_)
  refine wk_iload_n X dX10_mistaken_0 1 rfl ?_
  refine wk_iconst X dX10_mistaken_1 ic_1 ?_
  refine wk_bipush X dX10_mistaken_2 ib_40 ?_
  refine wk_callSv X [.int x1, .int 1, .int 40] [] dX10_mistaken_4 rfl vo_X10_237 rfl (by decide) (Nat.le_of_ble_eq_true rfl) hf (c_X10_needWithin l _ _ _ _) (fun r1 hf => ?_)
  refine wk_aload_n X dX10_mistaken_7 0 rfl ?_
  refine wk_getR X dX10_mistaken_8 fo_X10_55 hf (fun v2 hf => ?_)
  refine wk_iload_n X dX10_mistaken_11 1 rfl ?_
  refine wk_iconst X dX10_mistaken_12 ic_1 ?_
  refine wk_isub X dX10_mistaken_13 ?_
  refine wk_callVi X [.int (x1 - 1)] [] dX10_mistaken_14 rfl vo_X10_150 rfl (by decide) (Nat.le_of_ble_eq_true rfl) hf (c_X3_mudIn l _ _ _) (fun r3 hf => ?_)
  refine wk_istore_n (lv' := [(2, .int r3.1), (0, .ref x0), (1, .int x1)]) X dX10_mistaken_17 (by decide) rfl ?_
  refine wk_iconst X dX10_mistaken_18 ic_0 ?_
  refine wk_istore_n (lv' := [(3, .int 0), (2, .int r3.1), (0, .ref x0), (1, .int x1)]) X dX10_mistaken_19 (by decide) rfl ?_
  refine wk_iconst X dX10_mistaken_20 ic_0 ?_
  refine wk_istore (lv' := [(4, .int 0), (3, .int 0), (2, .int r3.1), (0, .ref x0), (1, .int x1)]) X dX10_mistaken_21 (by decide) rfl ?_
  exact wq_sub [3, 4, 2, 1, 0] rfl (wl_X10_mistaken_23 X _ _ _ _ _ _ hf)
section Sg_X10_mistaken
variable {p : Program} {l : Launch} {e : Env} {s : State} {m : MethodId} {args : Array Value} {below : List Frame} {meth : Method} {c : Code} {G : hp_G} {o : Nat × hp_H}
end Sg_X10_mistaken
def g_X10_mistaken (x0 : Nat) (x1 : Int32) (h : hp_H) : Option (Nat × hp_H) := gd h x0 10 (xb (g_X10_needWithin x1 1 40 h) (f_X10_needWithin x1 1 40 h) fun r1 => none)
set_option maxRecDepth 20000 in
theorem x_X10_mistaken (l : Launch) (hl : l.stackTraces = false) (x0 : Nat) (x1 : Int32) (h : hp_H) (r : Nat × hp_H) (hf : g_X10_mistaken x0 x1 h = some r) : cvx l (8) yX10_mistaken cX10_mistaken 6 (some .int) 10 x0 [.int x1] h r.1 r.2 := by
  unfold g_X10_mistaken at hf
  refine cvx_of (lv := [(0, .ref x0), (1, .int x1)]) hf (by decide +kernel) (Nat.le_of_ble_eq_true rfl) rfl (fun hf p e s m args below meth c G hT X => ?_)
  refine wk_iload_n X dX10_mistaken_0 1 rfl ?_
  refine wk_iconst X dX10_mistaken_1 ic_1 ?_
  refine wk_bipush X dX10_mistaken_2 ib_40 ?_
  refine wk_callSxv X hT [.int x1, .int 1, .int 40] [] dX10_mistaken_4 rfl vo_X10_237 rfl (by decide) (Nat.le_of_ble_eq_true rfl) hf (x_X10_needWithin l hl _ _ _ _) (c_X10_needWithin l _ _ _ _) (fun r1 hf => ?_)
  exact nomatch hf
section Sf_X10_most
variable {p : Program} {l : Launch} {e : Env} {s : State} {m : MethodId} {args : Array Value} {below : List Frame} {meth : Method} {c : Code} {G : hp_G} {o : Int32 × hp_H}
def f_X10_most_48 (x0 : Nat) (h : hp_H) : Option (Int32 × hp_H) := (rd_R h x0 10 9).bind fun v1 => (f_X3_mostHonoured v1 h).bind fun r2 => some (r2.1, r2.2)
set_option maxRecDepth 20000 in
theorem w_X10_most_48 (X : wx G p s m args meth c cX10_most 3 RX10 (some .int)) (x0 : Nat) (h : hp_H) (hf : f_X10_most_48 x0 h = some o) : wq p l e (mt_R (8) 0 0) s m args below meth c (MQ below (mt_Q G (some (.int o.1)) o.2) args s 0 0 (hp_A G)) G 3 0 0 48 [(0, .ref x0)] [] h := by
  unfold f_X10_most_48 at hf
  refine wk_aload_n X dX10_most_48 0 rfl ?_
  refine wk_getR X dX10_most_49 fo_X10_59 hf (fun v1 hf => ?_)
  refine wk_callVi X [] [] dX10_most_52 rfl vo_X10_329 rfl (by decide) (Nat.le_of_ble_eq_true rfl) hf (c_X3_mostHonoured l _ _) (fun r2 hf => ?_)
  exact wk_ireturn X dX10_most_55 hf
def f_X10_most_20 (k20 : Nat → Int32 → Int32 → hp_H → Option (Int32 × hp_H)) (x0 : Nat) (x1 : Int32) (x2 : Int32) (h : hp_H) : Option (Int32 × hp_H) := if x1 ≤ x2 then (f_X10_most_48 x0 h) else ((rd_R h x0 10 9).bind fun v1 => (rd_R h x0 10 9).bind fun v2 => (f_X3_mudIn v2 x2 h).bind fun r3 => (f_X3_parade v1 x2 r3.1 r3.2).bind fun r4 => k20 x0 x1 (x2 + 1) r4.2)
set_option maxRecDepth 20000 in
theorem w_X10_most_20 (X : wx G p s m args meth c cX10_most 3 RX10 (some .int)) (k20 : Nat → Int32 → Int32 → hp_H → Option (Int32 × hp_H)) (hk20 : ∀ (x0 : Nat) (x1 : Int32) (x2 : Int32) (h : hp_H), k20 x0 x1 x2 h = some o → wq p l e (mt_R (8) 0 0) s m args below meth c (MQ below (mt_Q G (some (.int o.1)) o.2) args s 0 0 (hp_A G)) G 3 0 0 20 [(0, .ref x0), (1, .int x1), (2, .int x2)] [] h) (x0 : Nat) (x1 : Int32) (x2 : Int32) (h : hp_H) (hf : f_X10_most_20 k20 x0 x1 x2 h = some o) : wq p l e (mt_R (8) 0 0) s m args below meth c (MQ below (mt_Q G (some (.int o.1)) o.2) args s 0 0 (hp_A G)) G 3 0 0 20 [(0, .ref x0), (1, .int x1), (2, .int x2)] [] h := by
  unfold f_X10_most_20 at hf
  refine wk_iload_n X dX10_most_20 2 rfl ?_
  refine wk_iload_n X dX10_most_21 1 rfl ?_
  refine wk_icmp_ge X 48 dX10_most_22 (by decide) hf (fun hf => ?_) (fun hf => ?_)
  · exact wq_sub [0] rfl (w_X10_most_48 X _ _ hf)
  · refine wk_aload_n X dX10_most_25 0 rfl ?_
    refine wk_getR X dX10_most_26 fo_X10_59 hf (fun v1 hf => ?_)
    refine wk_iload_n X dX10_most_29 2 rfl ?_
    refine wk_aload_n X dX10_most_30 0 rfl ?_
    refine wk_getR X dX10_most_31 fo_X10_59 hf (fun v2 hf => ?_)
    refine wk_iload_n X dX10_most_34 2 rfl ?_
    refine wk_callVi X [.int x2] [.int x2, .ref v1] dX10_most_35 rfl vo_X10_150 rfl (by decide) (Nat.le_of_ble_eq_true rfl) hf (c_X3_mudIn l _ _ _) (fun r3 hf => ?_)
    refine wk_callVi X [.int x2, .int r3.1] [] dX10_most_38 rfl vo_X10_326 rfl (by decide) (Nat.le_of_ble_eq_true rfl) hf (c_X3_parade l _ _ _ _) (fun r4 hf => ?_)
    refine wk_pop X dX10_most_41 rfl ?_
    refine wk_iinc (lv' := [(2, .int (x2 + 1)), (0, .ref x0), (1, .int x1)]) X dX10_most_42 2 rfl ic_1 (by decide) rfl ?_
    refine wk_goto X 20 dX10_most_45 (by decide) ?_
    exact wq_sub [1, 2, 0] rfl (hk20 _ _ _ _ hf)
def l_X10_most_20 (x0 : Nat) (x1 : Int32) (x2 : Int32) (h : hp_H) : Option (Int32 × hp_H) := lp (fun k (s : Nat × Int32 × Int32 × hp_H) => f_X10_most_20  (fun a0 a1 a2 a3 => k (a0, a1, a2, a3)) s.1 s.2.1 s.2.2.1 s.2.2.2) 100000 (x0, x1, x2, h)
theorem wl_X10_most_20 (X : wx G p s m args meth c cX10_most 3 RX10 (some .int)) (x0 : Nat) (x1 : Int32) (x2 : Int32) (h : hp_H) (hf : l_X10_most_20 x0 x1 x2 h = some o) : wq p l e (mt_R (8) 0 0) s m args below meth c (MQ below (mt_Q G (some (.int o.1)) o.2) args s 0 0 (hp_A G)) G 3 0 0 20 [(0, .ref x0), (1, .int x1), (2, .int x2)] [] h :=
  lp_ind (P := fun (s_ : Nat × Int32 × Int32 × hp_H) => wq p l e (mt_R (8) 0 0) s m args below meth c (MQ below (mt_Q G (some (.int o.1)) o.2) args s 0 0 (hp_A G)) G 3 0 0 20 [(0, .ref s_.1), (1, .int s_.2.1), (2, .int s_.2.2.1)] [] s_.2.2.2) (fun k s hk hf => w_X10_most_20 X  (fun a0 a1 a2 a3 => k (a0, a1, a2, a3)) (fun a0 a1 a2 a3 hf => hk (a0, a1, a2, a3) hf) s.1 s.2.1 s.2.2.1 s.2.2.2 hf) 100000 (x0, x1, x2, h) hf
end Sf_X10_most
def f_X10_most (x0 : Nat) (x1 : Int32) (h : hp_H) : Option (Int32 × hp_H) := gd h x0 10 ((f_X10_needWithin x1 1 40 h).bind fun r1 => (rd_R r1 x0 10 9).bind fun v2 => (rd_R r1 x0 10 8).bind fun v3 => (f_X3_copyFrom v2 v3 r1).bind fun r4 => l_X10_most_20 x0 x1 0 r4)
set_option maxRecDepth 20000 in
theorem c_X10_most (l : Launch) (x0 : Nat) (x1 : Int32) (h : hp_H) (r : Int32 × hp_H) (hf : f_X10_most x0 x1 h = some r) : cv l (8) yX10_most cX10_most 3 (some .int) 10 x0 [.int x1] h (some (.int r.1)) r.2 := by
  unfold f_X10_most at hf
  refine cv_of (lv := [(0, .ref x0), (1, .int x1)]) hf (by decide +kernel) (Nat.le_of_ble_eq_true rfl) rfl (fun hf p e s m args below meth c G X => ?_)
  refine wk_iload_n X dX10_most_0 1 rfl ?_
  refine wk_iconst X dX10_most_1 ic_1 ?_
  refine wk_bipush X dX10_most_2 ib_40 ?_
  refine wk_callSv X [.int x1, .int 1, .int 40] [] dX10_most_4 rfl vo_X10_237 rfl (by decide) (Nat.le_of_ble_eq_true rfl) hf (c_X10_needWithin l _ _ _ _) (fun r1 hf => ?_)
  refine wk_aload_n X dX10_most_7 0 rfl ?_
  refine wk_getR X dX10_most_8 fo_X10_59 hf (fun v2 hf => ?_)
  refine wk_aload_n X dX10_most_11 0 rfl ?_
  refine wk_getR X dX10_most_12 fo_X10_55 hf (fun v3 hf => ?_)
  refine wk_callVv X [.ref v3] [] dX10_most_15 rfl vo_X10_116 rfl (by decide) (Nat.le_of_ble_eq_true rfl) hf (c_X3_copyFrom l _ _ _) (fun r4 hf => ?_)
  refine wk_iconst X dX10_most_18 ic_0 ?_
  refine wk_istore_n (lv' := [(2, .int 0), (0, .ref x0), (1, .int x1)]) X dX10_most_19 (by decide) rfl ?_
  exact wq_sub [1, 2, 0] rfl (wl_X10_most_20 X _ _ _ _ hf)
section Sg_X10_most
variable {p : Program} {l : Launch} {e : Env} {s : State} {m : MethodId} {args : Array Value} {below : List Frame} {meth : Method} {c : Code} {G : hp_G} {o : Nat × hp_H}
end Sg_X10_most
def g_X10_most (x0 : Nat) (x1 : Int32) (h : hp_H) : Option (Nat × hp_H) := gd h x0 10 (xb (g_X10_needWithin x1 1 40 h) (f_X10_needWithin x1 1 40 h) fun r1 => none)
set_option maxRecDepth 20000 in
theorem x_X10_most (l : Launch) (hl : l.stackTraces = false) (x0 : Nat) (x1 : Int32) (h : hp_H) (r : Nat × hp_H) (hf : g_X10_most x0 x1 h = some r) : cvx l (8) yX10_most cX10_most 3 (some .int) 10 x0 [.int x1] h r.1 r.2 := by
  unfold g_X10_most at hf
  refine cvx_of (lv := [(0, .ref x0), (1, .int x1)]) hf (by decide +kernel) (Nat.le_of_ble_eq_true rfl) rfl (fun hf p e s m args below meth c G hT X => ?_)
  refine wk_iload_n X dX10_most_0 1 rfl ?_
  refine wk_iconst X dX10_most_1 ic_1 ?_
  refine wk_bipush X dX10_most_2 ib_40 ?_
  refine wk_callSxv X hT [.int x1, .int 1, .int 40] [] dX10_most_4 rfl vo_X10_237 rfl (by decide) (Nat.le_of_ble_eq_true rfl) hf (x_X10_needWithin l hl _ _ _ _) (c_X10_needWithin l _ _ _ _) (fun r1 hf => ?_)
  exact nomatch hf
section Sf_X10_next
variable {p : Program} {l : Launch} {e : Env} {s : State} {m : MethodId} {args : Array Value} {below : List Frame} {meth : Method} {c : Code} {G : hp_G} {o : Int32 × hp_H}
def f_X10_next_95 (t0 : Int32) (h : hp_H) : Option (Int32 × hp_H) := some (t0, h)
set_option maxRecDepth 20000 in
theorem w_X10_next_95 (X : wx G p s m args meth c cX10_next 6 RX10 (some .int)) (t0 : Int32) (h : hp_H) (hf : f_X10_next_95 t0 h = some o) : wq p l e (mt_R (8) 0 0) s m args below meth c (MQ below (mt_Q G (some (.int o.1)) o.2) args s 0 0 (hp_A G)) G 6 0 0 95 [] [.int t0] h := by
  unfold f_X10_next_95 at hf
  exact wk_ireturn X dX10_next_95 hf
def f_X10_next_86 (x1 : Int32) (x2 : Int32) (x3 : Int32) (h : hp_H) : Option (Int32 × hp_H) := if x1 = 0 then (f_X10_next_95 x2 h) else (f_X10_next_95 x3 h)
set_option maxRecDepth 20000 in
theorem w_X10_next_86 (X : wx G p s m args meth c cX10_next 6 RX10 (some .int)) (x1 : Int32) (x2 : Int32) (x3 : Int32) (h : hp_H) (hf : f_X10_next_86 x1 x2 x3 h = some o) : wq p l e (mt_R (8) 0 0) s m args below meth c (MQ below (mt_Q G (some (.int o.1)) o.2) args s 0 0 (hp_A G)) G 6 0 0 86 [(1, .int x1), (2, .int x2), (3, .int x3)] [] h := by
  unfold f_X10_next_86 at hf
  refine wk_iload_n X dX10_next_86 0 rfl ?_
  refine wk_if_ne X 94 dX10_next_87 (by decide) hf (fun hf => ?_) (fun hf => ?_)
  · refine wk_iload_n X dX10_next_94 2 rfl ?_
    exact wq_sub [] rfl (w_X10_next_95 X _ _ hf)
  · refine wk_iload_n X dX10_next_90 1 rfl ?_
    refine wk_goto X 95 dX10_next_91 (by decide) ?_
    exact wq_sub [] rfl (w_X10_next_95 X _ _ hf)
def f_X10_next_80 (k41 : Nat → Int32 → Int32 → Int32 → Int32 → hp_H → Option (Int32 × hp_H)) (x0 : Nat) (x1 : Int32) (x2 : Int32) (x3 : Int32) (x4 : Int32) (h : hp_H) : Option (Int32 × hp_H) := k41 x0 x1 x2 x3 (x4 + 1) h
set_option maxRecDepth 20000 in
theorem w_X10_next_80 (X : wx G p s m args meth c cX10_next 6 RX10 (some .int)) (k41 : Nat → Int32 → Int32 → Int32 → Int32 → hp_H → Option (Int32 × hp_H)) (hk41 : ∀ (x0 : Nat) (x1 : Int32) (x2 : Int32) (x3 : Int32) (x4 : Int32) (h : hp_H), k41 x0 x1 x2 x3 x4 h = some o → wq p l e (mt_R (8) 0 0) s m args below meth c (MQ below (mt_Q G (some (.int o.1)) o.2) args s 0 0 (hp_A G)) G 6 0 0 41 [(0, .ref x0), (1, .int x1), (2, .int x2), (3, .int x3), (4, .int x4)] [] h) (x0 : Nat) (x1 : Int32) (x2 : Int32) (x3 : Int32) (x4 : Int32) (h : hp_H) (hf : f_X10_next_80 k41 x0 x1 x2 x3 x4 h = some o) : wq p l e (mt_R (8) 0 0) s m args below meth c (MQ below (mt_Q G (some (.int o.1)) o.2) args s 0 0 (hp_A G)) G 6 0 0 80 [(0, .ref x0), (1, .int x1), (2, .int x2), (3, .int x3), (4, .int x4)] [] h := by
  unfold f_X10_next_80 at hf
  refine wk_iinc (lv' := [(4, .int (x4 + 1)), (0, .ref x0), (1, .int x1), (2, .int x2), (3, .int x3)]) X dX10_next_80 4 rfl ic_1 (by decide) rfl ?_
  refine wk_goto X 41 dX10_next_83 (by decide) ?_
  exact wq_sub [1, 2, 3, 4, 0] rfl (hk41 _ _ _ _ _ _ hf)
def f_X10_next_41 (k41 : Nat → Int32 → Int32 → Int32 → Int32 → hp_H → Option (Int32 × hp_H)) (x0 : Nat) (x1 : Int32) (x2 : Int32) (x3 : Int32) (x4 : Int32) (h : hp_H) : Option (Int32 × hp_H) := (rd_R h x0 10 4).bind fun v1 => (rd_I h v1 1 2).bind fun v2 => if v2 ≤ x4 then (f_X10_next_86 x1 x2 x3 h) else ((rd_R h x0 10 11).bind fun v3 => (rd_R h x0 10 9).bind fun v4 => (f_X9_unlikeSounds v3 v4 x4 h).bind fun r5 => if r5.1 ≤ x3 then (f_X10_next_80 k41 x0 x1 x2 x3 x4 r5.2) else (f_X10_next_80 k41 x0 x1 x4 r5.1 x4 r5.2))
set_option maxRecDepth 20000 in
theorem w_X10_next_41 (X : wx G p s m args meth c cX10_next 6 RX10 (some .int)) (k41 : Nat → Int32 → Int32 → Int32 → Int32 → hp_H → Option (Int32 × hp_H)) (hk41 : ∀ (x0 : Nat) (x1 : Int32) (x2 : Int32) (x3 : Int32) (x4 : Int32) (h : hp_H), k41 x0 x1 x2 x3 x4 h = some o → wq p l e (mt_R (8) 0 0) s m args below meth c (MQ below (mt_Q G (some (.int o.1)) o.2) args s 0 0 (hp_A G)) G 6 0 0 41 [(0, .ref x0), (1, .int x1), (2, .int x2), (3, .int x3), (4, .int x4)] [] h) (x0 : Nat) (x1 : Int32) (x2 : Int32) (x3 : Int32) (x4 : Int32) (h : hp_H) (hf : f_X10_next_41 k41 x0 x1 x2 x3 x4 h = some o) : wq p l e (mt_R (8) 0 0) s m args below meth c (MQ below (mt_Q G (some (.int o.1)) o.2) args s 0 0 (hp_A G)) G 6 0 0 41 [(0, .ref x0), (1, .int x1), (2, .int x2), (3, .int x3), (4, .int x4)] [] h := by
  unfold f_X10_next_41 at hf
  refine wk_iload X dX10_next_41 4 rfl ?_
  refine wk_aload_n X dX10_next_43 0 rfl ?_
  refine wk_getR X dX10_next_44 fo_X10_31 hf (fun v1 hf => ?_)
  refine wk_getI X dX10_next_47 fo_X10_141 hf (fun v2 hf => ?_)
  refine wk_icmp_ge X 86 dX10_next_50 (by decide) hf (fun hf => ?_) (fun hf => ?_)
  · exact wq_sub [1, 2, 3] rfl (w_X10_next_86 X _ _ _ _ hf)
  · refine wk_aload_n X dX10_next_53 0 rfl ?_
    refine wk_getR X dX10_next_54 fo_X10_74 hf (fun v3 hf => ?_)
    refine wk_aload_n X dX10_next_57 0 rfl ?_
    refine wk_getR X dX10_next_58 fo_X10_59 hf (fun v4 hf => ?_)
    refine wk_iload X dX10_next_61 4 rfl ?_
    refine wk_callVi X [.ref v4, .int x4] [] dX10_next_63 rfl vo_X10_304 rfl (by decide) (Nat.le_of_ble_eq_true rfl) hf (c_X9_unlikeSounds l _ _ _ _) (fun r5 hf => ?_)
    refine wk_istore (lv' := [(5, .int r5.1), (0, .ref x0), (1, .int x1), (2, .int x2), (3, .int x3), (4, .int x4)]) X dX10_next_66 (by decide) rfl ?_
    refine wk_iload X dX10_next_68 0 rfl ?_
    refine wk_iload_n X dX10_next_70 4 rfl ?_
    refine wk_icmp_le X 80 dX10_next_71 (by decide) hf (fun hf => ?_) (fun hf => ?_)
    · exact wq_sub [1, 2, 3, 4, 5] rfl (w_X10_next_80 X k41 hk41 _ _ _ _ _ _ hf)
    · refine wk_iload X dX10_next_74 0 rfl ?_
      refine wk_istore_n (lv' := [(3, .int r5.1), (5, .int r5.1), (0, .ref x0), (1, .int x1), (2, .int x2), (4, .int x4)]) X dX10_next_76 (by decide) rfl ?_
      refine wk_iload X dX10_next_77 5 rfl ?_
      refine wk_istore_n (lv' := [(2, .int x4), (3, .int r5.1), (5, .int r5.1), (0, .ref x0), (1, .int x1), (4, .int x4)]) X dX10_next_79 (by decide) rfl ?_
      exact wq_sub [3, 4, 0, 1, 5] rfl (w_X10_next_80 X k41 hk41 _ _ _ _ _ _ hf)
def l_X10_next_41 (x0 : Nat) (x1 : Int32) (x2 : Int32) (x3 : Int32) (x4 : Int32) (h : hp_H) : Option (Int32 × hp_H) := lp (fun k (s : Nat × Int32 × Int32 × Int32 × Int32 × hp_H) => f_X10_next_41  (fun a0 a1 a2 a3 a4 a5 => k (a0, a1, a2, a3, a4, a5)) s.1 s.2.1 s.2.2.1 s.2.2.2.1 s.2.2.2.2.1 s.2.2.2.2.2) 100000 (x0, x1, x2, x3, x4, h)
theorem wl_X10_next_41 (X : wx G p s m args meth c cX10_next 6 RX10 (some .int)) (x0 : Nat) (x1 : Int32) (x2 : Int32) (x3 : Int32) (x4 : Int32) (h : hp_H) (hf : l_X10_next_41 x0 x1 x2 x3 x4 h = some o) : wq p l e (mt_R (8) 0 0) s m args below meth c (MQ below (mt_Q G (some (.int o.1)) o.2) args s 0 0 (hp_A G)) G 6 0 0 41 [(0, .ref x0), (1, .int x1), (2, .int x2), (3, .int x3), (4, .int x4)] [] h :=
  lp_ind (P := fun (s_ : Nat × Int32 × Int32 × Int32 × Int32 × hp_H) => wq p l e (mt_R (8) 0 0) s m args below meth c (MQ below (mt_Q G (some (.int o.1)) o.2) args s 0 0 (hp_A G)) G 6 0 0 41 [(0, .ref s_.1), (1, .int s_.2.1), (2, .int s_.2.2.1), (3, .int s_.2.2.2.1), (4, .int s_.2.2.2.2.1)] [] s_.2.2.2.2.2) (fun k s hk hf => w_X10_next_41 X  (fun a0 a1 a2 a3 a4 a5 => k (a0, a1, a2, a3, a4, a5)) (fun a0 a1 a2 a3 a4 a5 hf => hk (a0, a1, a2, a3, a4, a5) hf) s.1 s.2.1 s.2.2.1 s.2.2.2.1 s.2.2.2.2.1 s.2.2.2.2.2 hf) 100000 (x0, x1, x2, x3, x4, h) hf
end Sf_X10_next
def f_X10_next (x0 : Nat) (x1 : Int32) (h : hp_H) : Option (Int32 × hp_H) := gd h x0 10 ((f_X10_needWhat x1 1 h).bind fun r1 => (rd_R r1 x0 10 9).bind fun v2 => (rd_R r1 x0 10 8).bind fun v3 => (f_X3_copyFrom v2 v3 r1).bind fun r4 => (rd_R r4 x0 10 11).bind fun v5 => (rd_R r4 x0 10 9).bind fun v6 => (rd_R r4 x0 10 5).bind fun v7 => (rd_R r4 v7 8 2).bind fun v8 => (f_X9_gather v5 v6 v8 r4).bind fun r9 => l_X10_next_41 x0 x1 (-1) 0 0 r9)
set_option maxRecDepth 20000 in
theorem c_X10_next (l : Launch) (x0 : Nat) (x1 : Int32) (h : hp_H) (r : Int32 × hp_H) (hf : f_X10_next x0 x1 h = some r) : cv l (8) yX10_next cX10_next 6 (some .int) 10 x0 [.int x1] h (some (.int r.1)) r.2 := by
  unfold f_X10_next at hf
  refine cv_of (lv := [(0, .ref x0), (1, .int x1)]) hf (by decide +kernel) (Nat.le_of_ble_eq_true rfl) rfl (fun hf p e s m args below meth c G X => ?_)
  refine wk_iload_n X dX10_next_0 1 rfl ?_
  refine wk_iconst X dX10_next_1 ic_1 ?_
  refine wk_callSv X [.int x1, .int 1] [] dX10_next_2 rfl vo_X10_234 rfl (by decide) (Nat.le_of_ble_eq_true rfl) hf (c_X10_needWhat l _ _ _) (fun r1 hf => ?_)
  refine wk_aload_n X dX10_next_5 0 rfl ?_
  refine wk_getR X dX10_next_6 fo_X10_59 hf (fun v2 hf => ?_)
  refine wk_aload_n X dX10_next_9 0 rfl ?_
  refine wk_getR X dX10_next_10 fo_X10_55 hf (fun v3 hf => ?_)
  refine wk_callVv X [.ref v3] [] dX10_next_13 rfl vo_X10_116 rfl (by decide) (Nat.le_of_ble_eq_true rfl) hf (c_X3_copyFrom l _ _ _) (fun r4 hf => ?_)
  refine wk_aload_n X dX10_next_16 0 rfl ?_
  refine wk_getR X dX10_next_17 fo_X10_74 hf (fun v5 hf => ?_)
  refine wk_aload_n X dX10_next_20 0 rfl ?_
  refine wk_getR X dX10_next_21 fo_X10_59 hf (fun v6 hf => ?_)
  refine wk_aload_n X dX10_next_24 0 rfl ?_
  refine wk_getR X dX10_next_25 fo_X10_40 hf (fun v7 hf => ?_)
  refine wk_getR X dX10_next_28 fo_X10_128 hf (fun v8 hf => ?_)
  refine wk_callVv X [.ref v6, .ref v8] [] dX10_next_31 rfl vo_X10_295 rfl (by decide) (Nat.le_of_ble_eq_true rfl) hf (c_X9_gather l _ _ _ _) (fun r9 hf => ?_)
  refine wk_iconst X dX10_next_34 ic_m1 ?_
  refine wk_istore_n (lv' := [(2, .int (-1)), (0, .ref x0), (1, .int x1)]) X dX10_next_35 (by decide) rfl ?_
  refine wk_iconst X dX10_next_36 ic_0 ?_
  refine wk_istore_n (lv' := [(3, .int 0), (2, .int (-1)), (0, .ref x0), (1, .int x1)]) X dX10_next_37 (by decide) rfl ?_
  refine wk_iconst X dX10_next_38 ic_0 ?_
  refine wk_istore (lv' := [(4, .int 0), (3, .int 0), (2, .int (-1)), (0, .ref x0), (1, .int x1)]) X dX10_next_39 (by decide) rfl ?_
  exact wq_sub [3, 4, 2, 1, 0] rfl (wl_X10_next_41 X _ _ _ _ _ _ hf)
section Sg_X10_next
variable {p : Program} {l : Launch} {e : Env} {s : State} {m : MethodId} {args : Array Value} {below : List Frame} {meth : Method} {c : Code} {G : hp_G} {o : Nat × hp_H}
end Sg_X10_next
def g_X10_next (x0 : Nat) (x1 : Int32) (h : hp_H) : Option (Nat × hp_H) := gd h x0 10 (xb (g_X10_needWhat x1 1 h) (f_X10_needWhat x1 1 h) fun r1 => none)
set_option maxRecDepth 20000 in
theorem x_X10_next (l : Launch) (hl : l.stackTraces = false) (x0 : Nat) (x1 : Int32) (h : hp_H) (r : Nat × hp_H) (hf : g_X10_next x0 x1 h = some r) : cvx l (8) yX10_next cX10_next 6 (some .int) 10 x0 [.int x1] h r.1 r.2 := by
  unfold g_X10_next at hf
  refine cvx_of (lv := [(0, .ref x0), (1, .int x1)]) hf (by decide +kernel) (Nat.le_of_ble_eq_true rfl) rfl (fun hf p e s m args below meth c G hT X => ?_)
  refine wk_iload_n X dX10_next_0 1 rfl ?_
  refine wk_iconst X dX10_next_1 ic_1 ?_
  refine wk_callSxv X hT [.int x1, .int 1] [] dX10_next_2 rfl vo_X10_234 rfl (by decide) (Nat.le_of_ble_eq_true rfl) hf (x_X10_needWhat l hl _ _ _) (c_X10_needWhat l _ _ _) (fun r1 hf => ?_)
  exact nomatch hf
section Sf_X10_nextTo
variable {p : Program} {l : Launch} {e : Env} {s : State} {m : MethodId} {args : Array Value} {below : List Frame} {meth : Method} {c : Code} {G : hp_G} {o : Int32 × hp_H}
end Sf_X10_nextTo
def f_X10_nextTo (x0 : Nat) (x1 : Int32) (h : hp_H) : Option (Int32 × hp_H) := gd h x0 10 ((rd_R h x0 10 4).bind fun v1 => (f_X1_allBeats v1 h).bind fun r2 => (f_X10_needWithin x1 0 r2.1 r2.2).bind fun r3 => (rd_R r3 x0 10 8).bind fun v4 => (f_X3_namedBy v4 x1 r3).bind fun r5 => some (r5.1, r5.2))
set_option maxRecDepth 20000 in
theorem c_X10_nextTo (l : Launch) (x0 : Nat) (x1 : Int32) (h : hp_H) (r : Int32 × hp_H) (hf : f_X10_nextTo x0 x1 h = some r) : cv l (8) yX10_nextTo cX10_nextTo 2 (some .int) 10 x0 [.int x1] h (some (.int r.1)) r.2 := by
  unfold f_X10_nextTo at hf
  refine cv_of (lv := [(0, .ref x0), (1, .int x1)]) hf (by decide +kernel) (Nat.le_of_ble_eq_true rfl) rfl (fun hf p e s m args below meth c G X => ?_)
  refine wk_iload_n X dX10_nextTo_0 1 rfl ?_
  refine wk_iconst X dX10_nextTo_1 ic_0 ?_
  refine wk_aload_n X dX10_nextTo_2 0 rfl ?_
  refine wk_getR X dX10_nextTo_3 fo_X10_31 hf (fun v1 hf => ?_)
  refine wk_callVi X [] [.int 0, .int x1] dX10_nextTo_6 rfl vo_X10_273 rfl (by decide) (Nat.le_of_ble_eq_true rfl) hf (c_X1_allBeats l _ _) (fun r2 hf => ?_)
  refine wk_callSv X [.int x1, .int 0, .int r2.1] [] dX10_nextTo_9 rfl vo_X10_237 rfl (by decide) (Nat.le_of_ble_eq_true rfl) hf (c_X10_needWithin l _ _ _ _) (fun r3 hf => ?_)
  refine wk_aload_n X dX10_nextTo_12 0 rfl ?_
  refine wk_getR X dX10_nextTo_13 fo_X10_55 hf (fun v4 hf => ?_)
  refine wk_iload_n X dX10_nextTo_16 1 rfl ?_
  refine wk_callVi X [.int x1] [] dX10_nextTo_17 rfl vo_X10_332 rfl (by decide) (Nat.le_of_ble_eq_true rfl) hf (c_X3_namedBy l _ _ _) (fun r5 hf => ?_)
  exact wk_ireturn X dX10_nextTo_20 hf
section Sg_X10_nextTo
variable {p : Program} {l : Launch} {e : Env} {s : State} {m : MethodId} {args : Array Value} {below : List Frame} {meth : Method} {c : Code} {G : hp_G} {o : Nat × hp_H}
end Sg_X10_nextTo
def g_X10_nextTo (x0 : Nat) (x1 : Int32) (h : hp_H) : Option (Nat × hp_H) := gd h x0 10 ((rd_R h x0 10 4).bind fun v1 => (f_X1_allBeats v1 h).bind fun r2 => xb (g_X10_needWithin x1 0 r2.1 r2.2) (f_X10_needWithin x1 0 r2.1 r2.2) fun r3 => none)
set_option maxRecDepth 20000 in
theorem x_X10_nextTo (l : Launch) (hl : l.stackTraces = false) (x0 : Nat) (x1 : Int32) (h : hp_H) (r : Nat × hp_H) (hf : g_X10_nextTo x0 x1 h = some r) : cvx l (8) yX10_nextTo cX10_nextTo 2 (some .int) 10 x0 [.int x1] h r.1 r.2 := by
  unfold g_X10_nextTo at hf
  refine cvx_of (lv := [(0, .ref x0), (1, .int x1)]) hf (by decide +kernel) (Nat.le_of_ble_eq_true rfl) rfl (fun hf p e s m args below meth c G hT X => ?_)
  refine wk_iload_n X dX10_nextTo_0 1 rfl ?_
  refine wk_iconst X dX10_nextTo_1 ic_0 ?_
  refine wk_aload_n X dX10_nextTo_2 0 rfl ?_
  refine wk_getR X dX10_nextTo_3 fo_X10_31 hf (fun v1 hf => ?_)
  refine wk_callVi X [] [.int 0, .int x1] dX10_nextTo_6 rfl vo_X10_273 rfl (by decide) (Nat.le_of_ble_eq_true rfl) hf (c_X1_allBeats l _ _) (fun r2 hf => ?_)
  refine wk_callSxv X hT [.int x1, .int 0, .int r2.1] [] dX10_nextTo_9 rfl vo_X10_237 rfl (by decide) (Nat.le_of_ble_eq_true rfl) hf (x_X10_needWithin l hl _ _ _ _) (c_X10_needWithin l _ _ _ _) (fun r3 hf => ?_)
  exact nomatch hf
section Sf_X10_often
variable {p : Program} {l : Launch} {e : Env} {s : State} {m : MethodId} {args : Array Value} {below : List Frame} {meth : Method} {c : Code} {G : hp_G} {o : Int32 × hp_H}
def f_X10_often_67 (x3 : Int32) (h : hp_H) : Option (Int32 × hp_H) := some (x3, h)
set_option maxRecDepth 20000 in
theorem w_X10_often_67 (X : wx G p s m args meth c cX10_often 5 RX10 (some .int)) (x3 : Int32) (h : hp_H) (hf : f_X10_often_67 x3 h = some o) : wq p l e (mt_R (8) 0 0) s m args below meth c (MQ below (mt_Q G (some (.int o.1)) o.2) args s 0 0 (hp_A G)) G 5 0 0 67 [(3, .int x3)] [] h := by
  unfold f_X10_often_67 at hf
  refine wk_iload_n X dX10_often_67 0 rfl ?_
  exact wk_ireturn X dX10_often_68 hf
def f_X10_often_59 (k17 : Nat → Int32 → Int32 → Int32 → Int32 → hp_H → Option (Int32 × hp_H)) (x0 : Nat) (x1 : Int32) (x2 : Int32) (x4 : Int32) (t0 : Int32) (t1 : Int32) (h : hp_H) : Option (Int32 × hp_H) := k17 x0 x1 x2 (t0 + t1) (x4 + 1) h
set_option maxRecDepth 20000 in
theorem w_X10_often_59 (X : wx G p s m args meth c cX10_often 5 RX10 (some .int)) (k17 : Nat → Int32 → Int32 → Int32 → Int32 → hp_H → Option (Int32 × hp_H)) (hk17 : ∀ (x0 : Nat) (x1 : Int32) (x2 : Int32) (x3 : Int32) (x4 : Int32) (h : hp_H), k17 x0 x1 x2 x3 x4 h = some o → wq p l e (mt_R (8) 0 0) s m args below meth c (MQ below (mt_Q G (some (.int o.1)) o.2) args s 0 0 (hp_A G)) G 5 0 0 17 [(0, .ref x0), (1, .int x1), (2, .int x2), (3, .int x3), (4, .int x4)] [] h) (x0 : Nat) (x1 : Int32) (x2 : Int32) (x4 : Int32) (t0 : Int32) (t1 : Int32) (h : hp_H) (hf : f_X10_often_59 k17 x0 x1 x2 x4 t0 t1 h = some o) : wq p l e (mt_R (8) 0 0) s m args below meth c (MQ below (mt_Q G (some (.int o.1)) o.2) args s 0 0 (hp_A G)) G 5 0 0 59 [(0, .ref x0), (1, .int x1), (2, .int x2), (4, .int x4)] [.int t1, .int t0] h := by
  unfold f_X10_often_59 at hf
  refine wk_iadd X dX10_often_59 ?_
  refine wk_istore_n (lv' := [(3, .int (t0 + t1)), (0, .ref x0), (1, .int x1), (2, .int x2), (4, .int x4)]) X dX10_often_60 (by decide) rfl ?_
  refine wk_iinc (lv' := [(4, .int (x4 + 1)), (3, .int (t0 + t1)), (0, .ref x0), (1, .int x1), (2, .int x2)]) X dX10_often_61 4 rfl ic_1 (by decide) rfl ?_
  refine wk_goto X 17 dX10_often_64 (by decide) ?_
  exact wq_sub [2, 3, 4, 1, 0] rfl (hk17 _ _ _ _ _ _ hf)
def f_X10_often_17 (k17 : Nat → Int32 → Int32 → Int32 → Int32 → hp_H → Option (Int32 × hp_H)) (x0 : Nat) (x1 : Int32) (x2 : Int32) (x3 : Int32) (x4 : Int32) (h : hp_H) : Option (Int32 × hp_H) := if x1 ≤ x4 then (f_X10_often_67 x3 h) else (if x2 = 0 then ((rd_R h x0 10 8).bind fun v3 => (rd_R h x0 10 8).bind fun v4 => (f_X3_mudIn v4 x4 h).bind fun r5 => (f_X3_timesNamed v3 (-1) x4 r5.1 r5.2).bind fun r6 => f_X10_often_59 k17 x0 x1 x2 x4 x3 r6.1 r6.2) else ((rd_R h x0 10 8).bind fun v1 => (f_X3_rightRows v1 x4 h).bind fun r2 => f_X10_often_59 k17 x0 x1 x2 x4 x3 r2.1 r2.2))
set_option maxRecDepth 20000 in
theorem w_X10_often_17 (X : wx G p s m args meth c cX10_often 5 RX10 (some .int)) (k17 : Nat → Int32 → Int32 → Int32 → Int32 → hp_H → Option (Int32 × hp_H)) (hk17 : ∀ (x0 : Nat) (x1 : Int32) (x2 : Int32) (x3 : Int32) (x4 : Int32) (h : hp_H), k17 x0 x1 x2 x3 x4 h = some o → wq p l e (mt_R (8) 0 0) s m args below meth c (MQ below (mt_Q G (some (.int o.1)) o.2) args s 0 0 (hp_A G)) G 5 0 0 17 [(0, .ref x0), (1, .int x1), (2, .int x2), (3, .int x3), (4, .int x4)] [] h) (x0 : Nat) (x1 : Int32) (x2 : Int32) (x3 : Int32) (x4 : Int32) (h : hp_H) (hf : f_X10_often_17 k17 x0 x1 x2 x3 x4 h = some o) : wq p l e (mt_R (8) 0 0) s m args below meth c (MQ below (mt_Q G (some (.int o.1)) o.2) args s 0 0 (hp_A G)) G 5 0 0 17 [(0, .ref x0), (1, .int x1), (2, .int x2), (3, .int x3), (4, .int x4)] [] h := by
  unfold f_X10_often_17 at hf
  refine wk_iload X dX10_often_17 4 rfl ?_
  refine wk_iload_n X dX10_often_19 1 rfl ?_
  refine wk_icmp_ge X 67 dX10_often_20 (by decide) hf (fun hf => ?_) (fun hf => ?_)
  · exact wq_sub [3] rfl (w_X10_often_67 X _ _ hf)
  · refine wk_iload_n X dX10_often_23 3 rfl ?_
    refine wk_iload_n X dX10_often_24 2 rfl ?_
    refine wk_if_ne X 50 dX10_often_25 (by decide) hf (fun hf => ?_) (fun hf => ?_)
    · refine wk_aload_n X dX10_often_50 0 rfl ?_
      refine wk_getR X dX10_often_51 fo_X10_55 hf (fun v1 hf => ?_)
      refine wk_iload X dX10_often_54 4 rfl ?_
      refine wk_callVi X [.int x4] [.int x3] dX10_often_56 rfl vo_X10_341 rfl (by decide) (Nat.le_of_ble_eq_true rfl) hf (c_X3_rightRows l _ _ _) (fun r2 hf => ?_)
      exact wq_sub [0, 1, 2, 4] rfl (w_X10_often_59 X k17 hk17 _ _ _ _ _ _ _ hf)
    · refine wk_aload_n X dX10_often_28 0 rfl ?_
      refine wk_getR X dX10_often_29 fo_X10_55 hf (fun v3 hf => ?_)
      refine wk_iconst X dX10_often_32 ic_m1 ?_
      refine wk_iload X dX10_often_33 4 rfl ?_
      refine wk_aload_n X dX10_often_35 0 rfl ?_
      refine wk_getR X dX10_often_36 fo_X10_55 hf (fun v4 hf => ?_)
      refine wk_iload X dX10_often_39 4 rfl ?_
      refine wk_callVi X [.int x4] [.int x4, .int (-1), .ref v3, .int x3] dX10_often_41 rfl vo_X10_150 rfl (by decide) (Nat.le_of_ble_eq_true rfl) hf (c_X3_mudIn l _ _ _) (fun r5 hf => ?_)
      refine wk_callVi X [.int (-1), .int x4, .int r5.1] [.int x3] dX10_often_44 rfl vo_X10_244 rfl (by decide) (Nat.le_of_ble_eq_true rfl) hf (c_X3_timesNamed l _ _ _ _ _) (fun r6 hf => ?_)
      refine wk_goto X 59 dX10_often_47 (by decide) ?_
      exact wq_sub [0, 1, 2, 4] rfl (w_X10_often_59 X k17 hk17 _ _ _ _ _ _ _ hf)
def l_X10_often_17 (x0 : Nat) (x1 : Int32) (x2 : Int32) (x3 : Int32) (x4 : Int32) (h : hp_H) : Option (Int32 × hp_H) := lp (fun k (s : Nat × Int32 × Int32 × Int32 × Int32 × hp_H) => f_X10_often_17  (fun a0 a1 a2 a3 a4 a5 => k (a0, a1, a2, a3, a4, a5)) s.1 s.2.1 s.2.2.1 s.2.2.2.1 s.2.2.2.2.1 s.2.2.2.2.2) 100000 (x0, x1, x2, x3, x4, h)
theorem wl_X10_often_17 (X : wx G p s m args meth c cX10_often 5 RX10 (some .int)) (x0 : Nat) (x1 : Int32) (x2 : Int32) (x3 : Int32) (x4 : Int32) (h : hp_H) (hf : l_X10_often_17 x0 x1 x2 x3 x4 h = some o) : wq p l e (mt_R (8) 0 0) s m args below meth c (MQ below (mt_Q G (some (.int o.1)) o.2) args s 0 0 (hp_A G)) G 5 0 0 17 [(0, .ref x0), (1, .int x1), (2, .int x2), (3, .int x3), (4, .int x4)] [] h :=
  lp_ind (P := fun (s_ : Nat × Int32 × Int32 × Int32 × Int32 × hp_H) => wq p l e (mt_R (8) 0 0) s m args below meth c (MQ below (mt_Q G (some (.int o.1)) o.2) args s 0 0 (hp_A G)) G 5 0 0 17 [(0, .ref s_.1), (1, .int s_.2.1), (2, .int s_.2.2.1), (3, .int s_.2.2.2.1), (4, .int s_.2.2.2.2.1)] [] s_.2.2.2.2.2) (fun k s hk hf => w_X10_often_17 X  (fun a0 a1 a2 a3 a4 a5 => k (a0, a1, a2, a3, a4, a5)) (fun a0 a1 a2 a3 a4 a5 hf => hk (a0, a1, a2, a3, a4, a5) hf) s.1 s.2.1 s.2.2.1 s.2.2.2.1 s.2.2.2.2.1 s.2.2.2.2.2 hf) 100000 (x0, x1, x2, x3, x4, h) hf
end Sf_X10_often
def f_X10_often (x0 : Nat) (x1 : Int32) (x2 : Int32) (h : hp_H) : Option (Int32 × hp_H) := gd h x0 10 ((f_X10_needWhat x2 1 h).bind fun r1 => (f_X10_needWithin x1 1 40 r1).bind fun r2 => l_X10_often_17 x0 x1 x2 0 0 r2)
set_option maxRecDepth 20000 in
theorem c_X10_often (l : Launch) (x0 : Nat) (x1 : Int32) (x2 : Int32) (h : hp_H) (r : Int32 × hp_H) (hf : f_X10_often x0 x1 x2 h = some r) : cv l (8) yX10_often cX10_often 5 (some .int) 10 x0 [.int x1, .int x2] h (some (.int r.1)) r.2 := by
  unfold f_X10_often at hf
  refine cv_of (lv := [(0, .ref x0), (1, .int x1), (2, .int x2)]) hf (by decide +kernel) (Nat.le_of_ble_eq_true rfl) rfl (fun hf p e s m args below meth c G X => ?_)
  refine wk_iload_n X dX10_often_0 2 rfl ?_
  refine wk_iconst X dX10_often_1 ic_1 ?_
  refine wk_callSv X [.int x2, .int 1] [] dX10_often_2 rfl vo_X10_234 rfl (by decide) (Nat.le_of_ble_eq_true rfl) hf (c_X10_needWhat l _ _ _) (fun r1 hf => ?_)
  refine wk_iload_n X dX10_often_5 1 rfl ?_
  refine wk_iconst X dX10_often_6 ic_1 ?_
  refine wk_bipush X dX10_often_7 ib_40 ?_
  refine wk_callSv X [.int x1, .int 1, .int 40] [] dX10_often_9 rfl vo_X10_237 rfl (by decide) (Nat.le_of_ble_eq_true rfl) hf (c_X10_needWithin l _ _ _ _) (fun r2 hf => ?_)
  refine wk_iconst X dX10_often_12 ic_0 ?_
  refine wk_istore_n (lv' := [(3, .int 0), (0, .ref x0), (1, .int x1), (2, .int x2)]) X dX10_often_13 (by decide) rfl ?_
  refine wk_iconst X dX10_often_14 ic_0 ?_
  refine wk_istore (lv' := [(4, .int 0), (3, .int 0), (0, .ref x0), (1, .int x1), (2, .int x2)]) X dX10_often_15 (by decide) rfl ?_
  exact wq_sub [2, 3, 4, 1, 0] rfl (wl_X10_often_17 X _ _ _ _ _ _ hf)
section Sg_X10_often
variable {p : Program} {l : Launch} {e : Env} {s : State} {m : MethodId} {args : Array Value} {below : List Frame} {meth : Method} {c : Code} {G : hp_G} {o : Nat × hp_H}
end Sg_X10_often
def g_X10_often (x0 : Nat) (x1 : Int32) (x2 : Int32) (h : hp_H) : Option (Nat × hp_H) := gd h x0 10 (xb (g_X10_needWhat x2 1 h) (f_X10_needWhat x2 1 h) fun r1 => xb (g_X10_needWithin x1 1 40 r1) (f_X10_needWithin x1 1 40 r1) fun r2 => none)
set_option maxRecDepth 20000 in
theorem x_X10_often (l : Launch) (hl : l.stackTraces = false) (x0 : Nat) (x1 : Int32) (x2 : Int32) (h : hp_H) (r : Nat × hp_H) (hf : g_X10_often x0 x1 x2 h = some r) : cvx l (8) yX10_often cX10_often 5 (some .int) 10 x0 [.int x1, .int x2] h r.1 r.2 := by
  unfold g_X10_often at hf
  refine cvx_of (lv := [(0, .ref x0), (1, .int x1), (2, .int x2)]) hf (by decide +kernel) (Nat.le_of_ble_eq_true rfl) rfl (fun hf p e s m args below meth c G hT X => ?_)
  refine wk_iload_n X dX10_often_0 2 rfl ?_
  refine wk_iconst X dX10_often_1 ic_1 ?_
  refine wk_callSxv X hT [.int x2, .int 1] [] dX10_often_2 rfl vo_X10_234 rfl (by decide) (Nat.le_of_ble_eq_true rfl) hf (x_X10_needWhat l hl _ _ _) (c_X10_needWhat l _ _ _) (fun r1 hf => ?_)
  refine wk_iload_n X dX10_often_5 1 rfl ?_
  refine wk_iconst X dX10_often_6 ic_1 ?_
  refine wk_bipush X dX10_often_7 ib_40 ?_
  refine wk_callSxv X hT [.int x1, .int 1, .int 40] [] dX10_often_9 rfl vo_X10_237 rfl (by decide) (Nat.le_of_ble_eq_true rfl) hf (x_X10_needWithin l hl _ _ _ _) (c_X10_needWithin l _ _ _ _) (fun r2 hf => ?_)
  exact nomatch hf
section Sf_X10_passes
variable {p : Program} {l : Launch} {e : Env} {s : State} {m : MethodId} {args : Array Value} {below : List Frame} {meth : Method} {c : Code} {G : hp_G} {o : Int32 × hp_H}
def f_X10_passes_60  (h : hp_H) : Option (Int32 × hp_H) := some ((-1), h)
set_option maxRecDepth 20000 in
theorem w_X10_passes_60 (X : wx G p s m args meth c cX10_passes 4 RX10 (some .int))  (h : hp_H) (hf : f_X10_passes_60 h = some o) : wq p l e (mt_R (8) 0 0) s m args below meth c (MQ below (mt_Q G (some (.int o.1)) o.2) args s 0 0 (hp_A G)) G 4 0 0 60 [] [] h := by
  unfold f_X10_passes_60 at hf
  refine wk_iconst X dX10_passes_60 ic_m1 ?_
  exact wk_ireturn X dX10_passes_61 hf
def f_X10_passes_54 (k19 : Nat → Int32 → Int32 → Int32 → hp_H → Option (Int32 × hp_H)) (x0 : Nat) (x1 : Int32) (x2 : Int32) (x3 : Int32) (h : hp_H) : Option (Int32 × hp_H) := k19 x0 x1 x2 (x3 + 1) h
set_option maxRecDepth 20000 in
theorem w_X10_passes_54 (X : wx G p s m args meth c cX10_passes 4 RX10 (some .int)) (k19 : Nat → Int32 → Int32 → Int32 → hp_H → Option (Int32 × hp_H)) (hk19 : ∀ (x0 : Nat) (x1 : Int32) (x2 : Int32) (x3 : Int32) (h : hp_H), k19 x0 x1 x2 x3 h = some o → wq p l e (mt_R (8) 0 0) s m args below meth c (MQ below (mt_Q G (some (.int o.1)) o.2) args s 0 0 (hp_A G)) G 4 0 0 19 [(0, .ref x0), (1, .int x1), (2, .int x2), (3, .int x3)] [] h) (x0 : Nat) (x1 : Int32) (x2 : Int32) (x3 : Int32) (h : hp_H) (hf : f_X10_passes_54 k19 x0 x1 x2 x3 h = some o) : wq p l e (mt_R (8) 0 0) s m args below meth c (MQ below (mt_Q G (some (.int o.1)) o.2) args s 0 0 (hp_A G)) G 4 0 0 54 [(0, .ref x0), (1, .int x1), (2, .int x2), (3, .int x3)] [] h := by
  unfold f_X10_passes_54 at hf
  refine wk_iinc (lv' := [(3, .int (x3 + 1)), (0, .ref x0), (1, .int x1), (2, .int x2)]) X dX10_passes_54 3 rfl ic_1 (by decide) rfl ?_
  refine wk_goto X 19 dX10_passes_57 (by decide) ?_
  exact wq_sub [1, 2, 3, 0] rfl (hk19 _ _ _ _ _ hf)
def f_X10_passes_52 (x3 : Int32) (h : hp_H) : Option (Int32 × hp_H) := some (x3, h)
set_option maxRecDepth 20000 in
theorem w_X10_passes_52 (X : wx G p s m args meth c cX10_passes 4 RX10 (some .int)) (x3 : Int32) (h : hp_H) (hf : f_X10_passes_52 x3 h = some o) : wq p l e (mt_R (8) 0 0) s m args below meth c (MQ below (mt_Q G (some (.int o.1)) o.2) args s 0 0 (hp_A G)) G 4 0 0 52 [(3, .int x3)] [] h := by
  unfold f_X10_passes_52 at hf
  refine wk_iload_n X dX10_passes_52 0 rfl ?_
  exact wk_ireturn X dX10_passes_53 hf
def f_X10_passes_19 (k19 : Nat → Int32 → Int32 → Int32 → hp_H → Option (Int32 × hp_H)) (x0 : Nat) (x1 : Int32) (x2 : Int32) (x3 : Int32) (h : hp_H) : Option (Int32 × hp_H) := (rd_R h x0 10 4).bind fun v1 => (rd_I h v1 1 2).bind fun v2 => if v2 ≤ x3 then (f_X10_passes_60 h) else ((rd_R h x0 10 8).bind fun v3 => (f_X3_isFullFor v3 x1 x3 h).bind fun r4 => if r4.1 = 0 then ((f_X10_namedWith x0 x1 x3 r4.2).bind fun r5 => if r5.1 = x2 then (f_X10_passes_52 x3 r5.2) else (f_X10_passes_54 k19 x0 x1 x2 x3 r5.2)) else (f_X10_passes_54 k19 x0 x1 x2 x3 r4.2))
set_option maxRecDepth 20000 in
theorem w_X10_passes_19 (X : wx G p s m args meth c cX10_passes 4 RX10 (some .int)) (k19 : Nat → Int32 → Int32 → Int32 → hp_H → Option (Int32 × hp_H)) (hk19 : ∀ (x0 : Nat) (x1 : Int32) (x2 : Int32) (x3 : Int32) (h : hp_H), k19 x0 x1 x2 x3 h = some o → wq p l e (mt_R (8) 0 0) s m args below meth c (MQ below (mt_Q G (some (.int o.1)) o.2) args s 0 0 (hp_A G)) G 4 0 0 19 [(0, .ref x0), (1, .int x1), (2, .int x2), (3, .int x3)] [] h) (x0 : Nat) (x1 : Int32) (x2 : Int32) (x3 : Int32) (h : hp_H) (hf : f_X10_passes_19 k19 x0 x1 x2 x3 h = some o) : wq p l e (mt_R (8) 0 0) s m args below meth c (MQ below (mt_Q G (some (.int o.1)) o.2) args s 0 0 (hp_A G)) G 4 0 0 19 [(0, .ref x0), (1, .int x1), (2, .int x2), (3, .int x3)] [] h := by
  unfold f_X10_passes_19 at hf
  refine wk_iload_n X dX10_passes_19 3 rfl ?_
  refine wk_aload_n X dX10_passes_20 0 rfl ?_
  refine wk_getR X dX10_passes_21 fo_X10_31 hf (fun v1 hf => ?_)
  refine wk_getI X dX10_passes_24 fo_X10_141 hf (fun v2 hf => ?_)
  refine wk_icmp_ge X 60 dX10_passes_27 (by decide) hf (fun hf => ?_) (fun hf => ?_)
  · exact wq_sub [] rfl (w_X10_passes_60 X _ hf)
  · refine wk_aload_n X dX10_passes_30 0 rfl ?_
    refine wk_getR X dX10_passes_31 fo_X10_55 hf (fun v3 hf => ?_)
    refine wk_iload_n X dX10_passes_34 1 rfl ?_
    refine wk_iload_n X dX10_passes_35 3 rfl ?_
    refine wk_callVi X [.int x1, .int x3] [] dX10_passes_36 rfl vo_X10_210 rfl (by decide) (Nat.le_of_ble_eq_true rfl) hf (c_X3_isFullFor l _ _ _ _) (fun r4 hf => ?_)
    refine wk_if_ne X 54 dX10_passes_39 (by decide) hf (fun hf => ?_) (fun hf => ?_)
    · exact wq_sub [0, 1, 2, 3] rfl (w_X10_passes_54 X k19 hk19 _ _ _ _ _ hf)
    · refine wk_aload_n X dX10_passes_42 0 rfl ?_
      refine wk_iload_n X dX10_passes_43 1 rfl ?_
      refine wk_iload_n X dX10_passes_44 3 rfl ?_
      refine wk_callVi X [.int x1, .int x3] [] dX10_passes_45 rfl vo_X10_276 rfl (by decide) (Nat.le_of_ble_eq_true rfl) hf (c_X10_namedWith l _ _ _ _) (fun r5 hf => ?_)
      refine wk_iload_n X dX10_passes_48 2 rfl ?_
      refine wk_icmp_ne X 54 dX10_passes_49 (by decide) hf (fun hf => ?_) (fun hf => ?_)
      · exact wq_sub [0, 1, 2, 3] rfl (w_X10_passes_54 X k19 hk19 _ _ _ _ _ hf)
      · exact wq_sub [3] rfl (w_X10_passes_52 X _ _ hf)
def l_X10_passes_19 (x0 : Nat) (x1 : Int32) (x2 : Int32) (x3 : Int32) (h : hp_H) : Option (Int32 × hp_H) := lp (fun k (s : Nat × Int32 × Int32 × Int32 × hp_H) => f_X10_passes_19  (fun a0 a1 a2 a3 a4 => k (a0, a1, a2, a3, a4)) s.1 s.2.1 s.2.2.1 s.2.2.2.1 s.2.2.2.2) 100000 (x0, x1, x2, x3, h)
theorem wl_X10_passes_19 (X : wx G p s m args meth c cX10_passes 4 RX10 (some .int)) (x0 : Nat) (x1 : Int32) (x2 : Int32) (x3 : Int32) (h : hp_H) (hf : l_X10_passes_19 x0 x1 x2 x3 h = some o) : wq p l e (mt_R (8) 0 0) s m args below meth c (MQ below (mt_Q G (some (.int o.1)) o.2) args s 0 0 (hp_A G)) G 4 0 0 19 [(0, .ref x0), (1, .int x1), (2, .int x2), (3, .int x3)] [] h :=
  lp_ind (P := fun (s_ : Nat × Int32 × Int32 × Int32 × hp_H) => wq p l e (mt_R (8) 0 0) s m args below meth c (MQ below (mt_Q G (some (.int o.1)) o.2) args s 0 0 (hp_A G)) G 4 0 0 19 [(0, .ref s_.1), (1, .int s_.2.1), (2, .int s_.2.2.1), (3, .int s_.2.2.2.1)] [] s_.2.2.2.2) (fun k s hk hf => w_X10_passes_19 X  (fun a0 a1 a2 a3 a4 => k (a0, a1, a2, a3, a4)) (fun a0 a1 a2 a3 a4 hf => hk (a0, a1, a2, a3, a4) hf) s.1 s.2.1 s.2.2.1 s.2.2.2.1 s.2.2.2.2 hf) 100000 (x0, x1, x2, x3, h) hf
end Sf_X10_passes
def f_X10_passes (x0 : Nat) (x1 : Int32) (x2 : Int32) (h : hp_H) : Option (Int32 × hp_H) := gd h x0 10 ((f_X10_needMan x0 x1 h).bind fun r1 => (f_X10_needMan x0 x2 r1).bind fun r2 => if x1 = x2 then (some ((-1), r2)) else (l_X10_passes_19 x0 x1 x2 0 r2))
set_option maxRecDepth 20000 in
theorem c_X10_passes (l : Launch) (x0 : Nat) (x1 : Int32) (x2 : Int32) (h : hp_H) (r : Int32 × hp_H) (hf : f_X10_passes x0 x1 x2 h = some r) : cv l (8) yX10_passes cX10_passes 4 (some .int) 10 x0 [.int x1, .int x2] h (some (.int r.1)) r.2 := by
  unfold f_X10_passes at hf
  refine cv_of (lv := [(0, .ref x0), (1, .int x1), (2, .int x2)]) hf (by decide +kernel) (Nat.le_of_ble_eq_true rfl) rfl (fun hf p e s m args below meth c G X => ?_)
  refine wk_aload_n X dX10_passes_0 0 rfl ?_
  refine wk_iload_n X dX10_passes_1 1 rfl ?_
  refine wk_callVv X [.int x1] [] dX10_passes_2 rfl vo_X10_171 rfl (by decide) (Nat.le_of_ble_eq_true rfl) hf (c_X10_needMan l _ _ _) (fun r1 hf => ?_)
  refine wk_aload_n X dX10_passes_5 0 rfl ?_
  refine wk_iload_n X dX10_passes_6 2 rfl ?_
  refine wk_callVv X [.int x2] [] dX10_passes_7 rfl vo_X10_171 rfl (by decide) (Nat.le_of_ble_eq_true rfl) hf (c_X10_needMan l _ _ _) (fun r2 hf => ?_)
  refine wk_iload_n X dX10_passes_10 1 rfl ?_
  refine wk_iload_n X dX10_passes_11 2 rfl ?_
  refine wk_icmp_ne X 17 dX10_passes_12 (by decide) hf (fun hf => ?_) (fun hf => ?_)
  · refine wk_iconst X dX10_passes_17 ic_0 ?_
    refine wk_istore_n (lv' := [(3, .int 0), (0, .ref x0), (1, .int x1), (2, .int x2)]) X dX10_passes_18 (by decide) rfl ?_
    exact wq_sub [1, 2, 3, 0] rfl (wl_X10_passes_19 X _ _ _ _ _ hf)
  · refine wk_iconst X dX10_passes_15 ic_m1 ?_
    exact wk_ireturn X dX10_passes_16 hf
section Sg_X10_passes
variable {p : Program} {l : Launch} {e : Env} {s : State} {m : MethodId} {args : Array Value} {below : List Frame} {meth : Method} {c : Code} {G : hp_G} {o : Nat × hp_H}
end Sg_X10_passes
def g_X10_passes (x0 : Nat) (x1 : Int32) (x2 : Int32) (h : hp_H) : Option (Nat × hp_H) := gd h x0 10 (xb (g_X10_needMan x0 x1 h) (f_X10_needMan x0 x1 h) fun r1 => xb (g_X10_needMan x0 x2 r1) (f_X10_needMan x0 x2 r1) fun r2 => none)
set_option maxRecDepth 20000 in
theorem x_X10_passes (l : Launch) (hl : l.stackTraces = false) (x0 : Nat) (x1 : Int32) (x2 : Int32) (h : hp_H) (r : Nat × hp_H) (hf : g_X10_passes x0 x1 x2 h = some r) : cvx l (8) yX10_passes cX10_passes 4 (some .int) 10 x0 [.int x1, .int x2] h r.1 r.2 := by
  unfold g_X10_passes at hf
  refine cvx_of (lv := [(0, .ref x0), (1, .int x1), (2, .int x2)]) hf (by decide +kernel) (Nat.le_of_ble_eq_true rfl) rfl (fun hf p e s m args below meth c G hT X => ?_)
  refine wk_aload_n X dX10_passes_0 0 rfl ?_
  refine wk_iload_n X dX10_passes_1 1 rfl ?_
  refine wk_callVxv X hT [.int x1] [] dX10_passes_2 rfl vo_X10_171 rfl (by decide) (Nat.le_of_ble_eq_true rfl) hf (x_X10_needMan l hl _ _ _) (c_X10_needMan l _ _ _) (fun r1 hf => ?_)
  refine wk_aload_n X dX10_passes_5 0 rfl ?_
  refine wk_iload_n X dX10_passes_6 2 rfl ?_
  refine wk_callVxv X hT [.int x2] [] dX10_passes_7 rfl vo_X10_171 rfl (by decide) (Nat.le_of_ble_eq_true rfl) hf (x_X10_needMan l hl _ _ _) (c_X10_needMan l _ _ _) (fun r2 hf => ?_)
  exact nomatch hf
