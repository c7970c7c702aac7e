section Sf_X10_put
variable {p : Program} {l : Launch} {e : Env} {s : State} {m : MethodId} {args : Array Value} {below : List Frame} {meth : Method} {c : Code} {G : hp_G} {o : Int32 × hp_H}
def f_X10_put_41 (x0 : Nat) (h : hp_H) : Option (Int32 × hp_H) := (f_X10_refuse x0 1 h).bind fun r1 => some ((-2), r1)
set_option maxRecDepth 20000 in
theorem w_X10_put_41 (X : wx G p s m args meth c cX10_put 4 RX10 (some .int)) (x0 : Nat) (h : hp_H) (hf : f_X10_put_41 x0 h = some o) : wq p l e (mt_R (8) 0 0) s m args below meth c (MQ below (mt_Q G (some (.int o.1)) o.2) args s 0 0 (hp_A G)) G 4 0 0 41 [(0, .ref x0)] [] h := by
  unfold f_X10_put_41 at hf
  refine wk_aload_n X dX10_put_41 0 rfl ?_
  refine wk_iconst X dX10_put_42 ic_1 ?_
  refine wk_callVv X [.int 1] [] dX10_put_43 rfl vo_X10_106 rfl (by decide) (Nat.le_of_ble_eq_true rfl) hf (c_X10_refuse l _ _ _) (fun r1 hf => ?_)
  refine wk_bipush X dX10_put_46 ib_m2 ?_
  exact wk_ireturn X dX10_put_48 hf
def f_X10_put_15 (x0 : Nat) (x1 : Int32) (x2 : Int32) (h : hp_H) : Option (Int32 × hp_H) := (rd_R h x0 10 8).bind fun v1 => (f_X3_rowOf v1 x1 h).bind fun r2 => if r2.1 = x2 then (f_X10_put_41 x0 r2.2) else ((rd_R r2.2 x0 10 8).bind fun v3 => (f_X3_isFullFor v3 x1 x2 r2.2).bind fun r4 => if r4.1 = 0 then ((rd_R r4.2 x0 10 5).bind fun v5 => (rd_R r4.2 v5 8 1).bind fun v6 => (rd_R r4.2 x0 10 8).bind fun v7 => (f_X0_keep v6 1 x1 r2.1 v7 r4.2).bind fun r8 => (rd_R r8 x0 10 8).bind fun v9 => (f_X3_place v9 x1 x2 r8).bind fun r10 => some (r2.1, r10)) else (f_X10_put_41 x0 r4.2))
set_option maxRecDepth 20000 in
theorem w_X10_put_15 (X : wx G p s m args meth c cX10_put 4 RX10 (some .int)) (x0 : Nat) (x1 : Int32) (x2 : Int32) (h : hp_H) (hf : f_X10_put_15 x0 x1 x2 h = some o) : wq p l e (mt_R (8) 0 0) s m args below meth c (MQ below (mt_Q G (some (.int o.1)) o.2) args s 0 0 (hp_A G)) G 4 0 0 15 [(0, .ref x0), (1, .int x1), (2, .int x2)] [] h := by
  unfold f_X10_put_15 at hf
  refine wk_aload_n X dX10_put_15 0 rfl ?_
  refine wk_getR X dX10_put_16 fo_X10_55 hf (fun v1 hf => ?_)
  refine wk_iload_n X dX10_put_19 1 rfl ?_
  refine wk_callVi X [.int x1] [] dX10_put_20 rfl vo_X10_183 rfl (by decide) (Nat.le_of_ble_eq_true rfl) hf (c_X3_rowOf l _ _ _) (fun r2 hf => ?_)
  refine wk_istore_n (lv' := [(3, .int r2.1), (0, .ref x0), (1, .int x1), (2, .int x2)]) X dX10_put_23 (by decide) rfl ?_
  refine wk_iload_n X dX10_put_24 0 rfl ?_
  refine wk_iload_n X dX10_put_25 3 rfl ?_
  refine wk_icmp_eq X 41 dX10_put_26 (by decide) hf (fun hf => ?_) (fun hf => ?_)
  · exact wq_sub [1] rfl (w_X10_put_41 X _ _ hf)
  · refine wk_aload_n X dX10_put_29 1 rfl ?_
    refine wk_getR X dX10_put_30 fo_X10_55 hf (fun v3 hf => ?_)
    refine wk_iload_n X dX10_put_33 2 rfl ?_
    refine wk_iload_n X dX10_put_34 3 rfl ?_
    refine wk_callVi X [.int x1, .int x2] [] dX10_put_35 rfl vo_X10_210 rfl (by decide) (Nat.le_of_ble_eq_true rfl) hf (c_X3_isFullFor l _ _ _ _) (fun r4 hf => ?_)
    refine wk_if_eq X 49 dX10_put_38 (by decide) hf (fun hf => ?_) (fun hf => ?_)
    · refine wk_aload_n X dX10_put_49 1 rfl ?_
      refine wk_getR X dX10_put_50 fo_X10_40 hf (fun v5 hf => ?_)
      refine wk_getR X dX10_put_53 fo_X10_119 hf (fun v6 hf => ?_)
      refine wk_iconst X dX10_put_56 ic_1 ?_
      refine wk_iload_n X dX10_put_57 2 rfl ?_
      refine wk_iload_n X dX10_put_58 0 rfl ?_
      refine wk_aload_n X dX10_put_59 1 rfl ?_
      refine wk_getR X dX10_put_60 fo_X10_55 hf (fun v7 hf => ?_)
      refine wk_callVv X [.int 1, .int x1, .int r2.1, .ref v7] [] dX10_put_63 rfl vo_X10_203 rfl (by decide) (Nat.le_of_ble_eq_true rfl) hf (c_X0_keep l _ _ _ _ _ _) (fun r8 hf => ?_)
      refine wk_aload_n X dX10_put_66 1 rfl ?_
      refine wk_getR X dX10_put_67 fo_X10_55 hf (fun v9 hf => ?_)
      refine wk_iload_n X dX10_put_70 2 rfl ?_
      refine wk_iload_n X dX10_put_71 3 rfl ?_
      refine wk_callVv X [.int x1, .int x2] [] dX10_put_72 rfl vo_X10_214 rfl (by decide) (Nat.le_of_ble_eq_true rfl) hf (c_X3_place l _ _ _ _) (fun r10 hf => ?_)
      refine wk_iload_n X dX10_put_75 0 rfl ?_
      exact wk_ireturn X dX10_put_76 hf
    · exact wq_sub [1] rfl (w_X10_put_41 X _ _ hf)
end Sf_X10_put
def f_X10_put (x0 : Nat) (x1 : Int32) (x2 : Int32) (h : hp_H) : Option (Int32 × hp_H) := gd h x0 10 ((f_X10_needMan x0 x1 h).bind fun r1 => if x2 = (-1) then (f_X10_put_15 x0 x1 x2 r1) else ((f_X10_needRow x0 x2 r1).bind fun r2 => f_X10_put_15 x0 x1 x2 r2))
set_option maxRecDepth 20000 in
theorem c_X10_put (l : Launch) (x0 : Nat) (x1 : Int32) (x2 : Int32) (h : hp_H) (r : Int32 × hp_H) (hf : f_X10_put x0 x1 x2 h = some r) : cv l (8) yX10_put cX10_put 4 (some .int) 10 x0 [.int x1, .int x2] h (some (.int r.1)) r.2 := by
  unfold f_X10_put at hf
  refine cv_of (lv := [(0, .ref x0), (1, .int x1), (2, .int x2)]) hf (by decide +kernel) (Nat.le_of_ble_eq_true rfl) rfl (fun hf p e s m args below meth c G X => ?_)
  refine wk_aload_n X dX10_put_0 0 rfl ?_
  refine wk_iload_n X dX10_put_1 1 rfl ?_
  refine wk_callVv X [.int x1] [] dX10_put_2 rfl vo_X10_171 rfl (by decide) (Nat.le_of_ble_eq_true rfl) hf (c_X10_needMan l _ _ _) (fun r1 hf => ?_)
  refine wk_iload_n X dX10_put_5 2 rfl ?_
  refine wk_iconst X dX10_put_6 ic_m1 ?_
  refine wk_icmp_eq X 15 dX10_put_7 (by decide) hf (fun hf => ?_) (fun hf => ?_)
  · exact wq_sub [0, 1, 2] rfl (w_X10_put_15 X _ _ _ _ hf)
  · refine wk_aload_n X dX10_put_10 0 rfl ?_
    refine wk_iload_n X dX10_put_11 2 rfl ?_
    refine wk_callVv X [.int x2] [] dX10_put_12 rfl vo_X10_188 rfl (by decide) (Nat.le_of_ble_eq_true rfl) hf (c_X10_needRow l _ _ _) (fun r2 hf => ?_)
    exact wq_sub [0, 1, 2] rfl (w_X10_put_15 X _ _ _ _ hf)
section Sg_X10_put
variable {p : Program} {l : Launch} {e : Env} {s : State} {m : MethodId} {args : Array Value} {below : List Frame} {meth : Method} {c : Code} {G : hp_G} {o : Nat × hp_H}
end Sg_X10_put
def g_X10_put (x0 : Nat) (x1 : Int32) (x2 : Int32) (h : hp_H) : Option (Nat × hp_H) := gd h x0 10 (xb (g_X10_needMan x0 x1 h) (f_X10_needMan x0 x1 h) fun r1 => if x2 = (-1) then (none) else (xb (g_X10_needRow x0 x2 r1) (f_X10_needRow x0 x2 r1) fun r2 => none))
set_option maxRecDepth 20000 in
theorem x_X10_put (l : Launch) (hl : l.stackTraces = false) (x0 : Nat) (x1 : Int32) (x2 : Int32) (h : hp_H) (r : Nat × hp_H) (hf : g_X10_put x0 x1 x2 h = some r) : cvx l (8) yX10_put cX10_put 4 (some .int) 10 x0 [.int x1, .int x2] h r.1 r.2 := by
  unfold g_X10_put at hf
  refine cvx_of (lv := [(0, .ref x0), (1, .int x1), (2, .int x2)]) hf (by decide +kernel) (Nat.le_of_ble_eq_true rfl) rfl (fun hf p e s m args below meth c G hT X => ?_)
  refine wk_aload_n X dX10_put_0 0 rfl ?_
  refine wk_iload_n X dX10_put_1 1 rfl ?_
  refine wk_callVxv X hT [.int x1] [] dX10_put_2 rfl vo_X10_171 rfl (by decide) (Nat.le_of_ble_eq_true rfl) hf (x_X10_needMan l hl _ _ _) (c_X10_needMan l _ _ _) (fun r1 hf => ?_)
  refine wk_iload_n X dX10_put_5 2 rfl ?_
  refine wk_iconst X dX10_put_6 ic_m1 ?_
  refine wk_icmp_eq X 15 dX10_put_7 (by decide) hf (fun hf => ?_) (fun hf => ?_)
  · exact nomatch hf
  · refine wk_aload_n X dX10_put_10 0 rfl ?_
    refine wk_iload_n X dX10_put_11 2 rfl ?_
    refine wk_callVxv X hT [.int x2] [] dX10_put_12 rfl vo_X10_188 rfl (by decide) (Nat.le_of_ble_eq_true rfl) hf (x_X10_needRow l hl _ _ _) (c_X10_needRow l _ _ _) (fun r2 hf => ?_)
    exact nomatch hf
section Sf_X10_reform
variable {p : Program} {l : Launch} {e : Env} {s : State} {m : MethodId} {args : Array Value} {below : List Frame} {meth : Method} {c : Code} {G : hp_G} {o : Int32 × hp_H}
def f_X10_reform_136 (t0 : Int32) (h : hp_H) : Option (Int32 × hp_H) := some (t0, h)
set_option maxRecDepth 20000 in
theorem w_X10_reform_136 (X : wx G p s m args meth c cX10_reform 9 RX10 (some .int)) (t0 : Int32) (h : hp_H) (hf : f_X10_reform_136 t0 h = some o) : wq p l e (mt_R (8) 0 0) s m args below meth c (MQ below (mt_Q G (some (.int o.1)) o.2) args s 0 0 (hp_A G)) G 9 0 0 136 [] [.int t0] h := by
  unfold f_X10_reform_136 at hf
  exact wk_ireturn X dX10_reform_136 hf
def f_X10_reform_134 (x5 : Int32) (h : hp_H) : Option (Int32 × hp_H) := f_X10_reform_136 x5 h
set_option maxRecDepth 20000 in
theorem w_X10_reform_134 (X : wx G p s m args meth c cX10_reform 9 RX10 (some .int)) (x5 : Int32) (h : hp_H) (hf : f_X10_reform_134 x5 h = some o) : wq p l e (mt_R (8) 0 0) s m args below meth c (MQ below (mt_Q G (some (.int o.1)) o.2) args s 0 0 (hp_A G)) G 9 0 0 134 [(5, .int x5)] [] h := by
  unfold f_X10_reform_134 at hf
  refine wk_iload X dX10_reform_134 0 rfl ?_
  exact wq_sub [] rfl (w_X10_reform_136 X _ _ hf)
def f_X10_reform_119 (x2 : Int32) (x5 : Int32) (x6 : Int32) (h : hp_H) : Option (Int32 × hp_H) := if x2 = 0 then (if x5 = (-1) then (f_X10_reform_134 x5 h) else (f_X10_reform_136 x6 h)) else (f_X10_reform_134 x5 h)
set_option maxRecDepth 20000 in
theorem w_X10_reform_119 (X : wx G p s m args meth c cX10_reform 9 RX10 (some .int)) (x2 : Int32) (x5 : Int32) (x6 : Int32) (h : hp_H) (hf : f_X10_reform_119 x2 x5 x6 h = some o) : wq p l e (mt_R (8) 0 0) s m args below meth c (MQ below (mt_Q G (some (.int o.1)) o.2) args s 0 0 (hp_A G)) G 9 0 0 119 [(2, .int x2), (5, .int x5), (6, .int x6)] [] h := by
  unfold f_X10_reform_119 at hf
  refine wk_iload_n X dX10_reform_119 0 rfl ?_
  refine wk_if_ne X 134 dX10_reform_120 (by decide) hf (fun hf => ?_) (fun hf => ?_)
  · exact wq_sub [1] rfl (w_X10_reform_134 X _ _ hf)
  · refine wk_iload X dX10_reform_123 1 rfl ?_
    refine wk_iconst X dX10_reform_125 ic_m1 ?_
    refine wk_icmp_eq X 134 dX10_reform_126 (by decide) hf (fun hf => ?_) (fun hf => ?_)
    · exact wq_sub [1] rfl (w_X10_reform_134 X _ _ hf)
    · refine wk_iload X dX10_reform_129 2 rfl ?_
      refine wk_goto X 136 dX10_reform_131 (by decide) ?_
      exact wq_sub [] rfl (w_X10_reform_136 X _ _ hf)
def f_X10_reform_113 (k66 : Nat → Int32 → Int32 → Int32 → Int32 → Int32 → Int32 → hp_H → Option (Int32 × hp_H)) (x0 : Nat) (x1 : Int32) (x2 : Int32) (x4 : Int32) (x5 : Int32) (x6 : Int32) (x7 : Int32) (h : hp_H) : Option (Int32 × hp_H) := k66 x0 x1 x2 x4 x5 x6 (x7 + 1) h
set_option maxRecDepth 20000 in
theorem w_X10_reform_113 (X : wx G p s m args meth c cX10_reform 9 RX10 (some .int)) (k66 : Nat → Int32 → Int32 → Int32 → Int32 → Int32 → Int32 → hp_H → Option (Int32 × hp_H)) (hk66 : ∀ (x0 : Nat) (x1 : Int32) (x2 : Int32) (x4 : Int32) (x5 : Int32) (x6 : Int32) (x7 : Int32) (h : hp_H), k66 x0 x1 x2 x4 x5 x6 x7 h = some o → wq p l e (mt_R (8) 0 0) s m args below meth c (MQ below (mt_Q G (some (.int o.1)) o.2) args s 0 0 (hp_A G)) G 9 0 0 66 [(0, .ref x0), (1, .int x1), (2, .int x2), (4, .int x4), (5, .int x5), (6, .int x6), (7, .int x7)] [] h) (x0 : Nat) (x1 : Int32) (x2 : Int32) (x4 : Int32) (x5 : Int32) (x6 : Int32) (x7 : Int32) (h : hp_H) (hf : f_X10_reform_113 k66 x0 x1 x2 x4 x5 x6 x7 h = some o) : wq p l e (mt_R (8) 0 0) s m args below meth c (MQ below (mt_Q G (some (.int o.1)) o.2) args s 0 0 (hp_A G)) G 9 0 0 113 [(0, .ref x0), (1, .int x1), (2, .int x2), (4, .int x4), (5, .int x5), (6, .int x6), (7, .int x7)] [] h := by
  unfold f_X10_reform_113 at hf
  refine wk_iinc (lv' := [(7, .int (x7 + 1)), (0, .ref x0), (1, .int x1), (2, .int x2), (4, .int x4), (5, .int x5), (6, .int x6)]) X dX10_reform_113 6 rfl ic_1 (by decide) rfl ?_
  refine wk_goto X 66 dX10_reform_116 (by decide) ?_
  exact wq_sub [1, 2, 3, 4, 5, 6, 0] rfl (hk66 _ _ _ _ _ _ _ _ hf)
def f_X10_reform_66 (k66 : Nat → Int32 → Int32 → Int32 → Int32 → Int32 → Int32 → hp_H → Option (Int32 × hp_H)) (x0 : Nat) (x1 : Int32) (x2 : Int32) (x4 : Int32) (x5 : Int32) (x6 : Int32) (x7 : Int32) (h : hp_H) : Option (Int32 × hp_H) := (rd_R h x0 10 4).bind fun v1 => (f_X1_allBeats v1 h).bind fun r2 => if r2.1 < x7 then (f_X10_reform_119 x2 x5 x6 r2.2) else ((f_J6_bitCount_0f7a4 (x7 ^^^ x4) r2.2).bind fun r3 => if x6 ≤ r3.1 then (f_X10_reform_113 k66 x0 x1 x2 x4 x5 x6 x7 r3.2) else ((f_X10_isNamedWith x0 x1 x7 r3.2).bind fun r4 => if r4.1 = 0 then (f_X10_reform_113 k66 x0 x1 x2 x4 x5 x6 x7 r4.2) else (f_X10_reform_113 k66 x0 x1 x2 x4 x7 r3.1 x7 r4.2)))
set_option maxRecDepth 20000 in
theorem w_X10_reform_66 (X : wx G p s m args meth c cX10_reform 9 RX10 (some .int)) (k66 : Nat → Int32 → Int32 → Int32 → Int32 → Int32 → Int32 → hp_H → Option (Int32 × hp_H)) (hk66 : ∀ (x0 : Nat) (x1 : Int32) (x2 : Int32) (x4 : Int32) (x5 : Int32) (x6 : Int32) (x7 : Int32) (h : hp_H), k66 x0 x1 x2 x4 x5 x6 x7 h = some o → wq p l e (mt_R (8) 0 0) s m args below meth c (MQ below (mt_Q G (some (.int o.1)) o.2) args s 0 0 (hp_A G)) G 9 0 0 66 [(0, .ref x0), (1, .int x1), (2, .int x2), (4, .int x4), (5, .int x5), (6, .int x6), (7, .int x7)] [] h) (x0 : Nat) (x1 : Int32) (x2 : Int32) (x4 : Int32) (x5 : Int32) (x6 : Int32) (x7 : Int32) (h : hp_H) (hf : f_X10_reform_66 k66 x0 x1 x2 x4 x5 x6 x7 h = some o) : wq p l e (mt_R (8) 0 0) s m args below meth c (MQ below (mt_Q G (some (.int o.1)) o.2) args s 0 0 (hp_A G)) G 9 0 0 66 [(0, .ref x0), (1, .int x1), (2, .int x2), (4, .int x4), (5, .int x5), (6, .int x6), (7, .int x7)] [] h := by
  unfold f_X10_reform_66 at hf
  refine wk_iload X dX10_reform_66 6 rfl ?_
  refine wk_aload_n X dX10_reform_68 0 rfl ?_
  refine wk_getR X dX10_reform_69 fo_X10_31 hf (fun v1 hf => ?_)
  refine wk_callVi X [] [.int x7] dX10_reform_72 rfl vo_X10_273 rfl (by decide) (Nat.le_of_ble_eq_true rfl) hf (c_X1_allBeats l _ _) (fun r2 hf => ?_)
  refine wk_icmp_gt X 119 dX10_reform_75 (by decide) hf (fun hf => ?_) (fun hf => ?_)
  · exact wq_sub [2, 4, 5] rfl (w_X10_reform_119 X _ _ _ _ hf)
  · refine wk_iload X dX10_reform_78 6 rfl ?_
    refine wk_iload X dX10_reform_80 3 rfl ?_
    refine wk_ixor X dX10_reform_82 ?_
    refine wk_callSi X [.int (x7 ^^^ x4)] [] dX10_reform_83 rfl vo_X10_262 rfl (by decide) (Nat.le_of_ble_eq_true rfl) hf (c_J6_bitCount_0f7a4 l _ _) (fun r3 hf => ?_)
    refine wk_istore (lv' := [(8, .int r3.1), (0, .ref x0), (1, .int x1), (2, .int x2), (4, .int x4), (5, .int x5), (6, .int x6), (7, .int x7)]) X dX10_reform_86 (by decide) rfl ?_
    refine wk_iload X dX10_reform_88 0 rfl ?_
    refine wk_iload X dX10_reform_90 6 rfl ?_
    refine wk_icmp_ge X 113 dX10_reform_92 (by decide) hf (fun hf => ?_) (fun hf => ?_)
    · exact wq_sub [1, 2, 3, 4, 5, 6, 7] rfl (w_X10_reform_113 X k66 hk66 _ _ _ _ _ _ _ _ hf)
    · refine wk_aload_n X dX10_reform_95 1 rfl ?_
      refine wk_iload_n X dX10_reform_96 2 rfl ?_
      refine wk_iload X dX10_reform_97 7 rfl ?_
      refine wk_callVi X [.int x1, .int x7] [] dX10_reform_99 rfl vo_X10_347 rfl (by decide) (Nat.le_of_ble_eq_true rfl) hf (c_X10_isNamedWith l _ _ _ _) (fun r4 hf => ?_)
      refine wk_if_eq X 113 dX10_reform_102 (by decide) hf (fun hf => ?_) (fun hf => ?_)
      · exact wq_sub [1, 2, 3, 4, 5, 6, 7] rfl (w_X10_reform_113 X k66 hk66 _ _ _ _ _ _ _ _ hf)
      · refine wk_iload X dX10_reform_105 0 rfl ?_
        refine wk_istore (lv' := [(6, .int r3.1), (8, .int r3.1), (0, .ref x0), (1, .int x1), (2, .int x2), (4, .int x4), (5, .int x5), (7, .int x7)]) X dX10_reform_107 (by decide) rfl ?_
        refine wk_iload X dX10_reform_109 7 rfl ?_
        refine wk_istore (lv' := [(5, .int x7), (6, .int r3.1), (8, .int r3.1), (0, .ref x0), (1, .int x1), (2, .int x2), (4, .int x4), (7, .int x7)]) X dX10_reform_111 (by decide) rfl ?_
        exact wq_sub [3, 4, 5, 6, 0, 1, 7] rfl (w_X10_reform_113 X k66 hk66 _ _ _ _ _ _ _ _ hf)
def l_X10_reform_66 (x0 : Nat) (x1 : Int32) (x2 : Int32) (x4 : Int32) (x5 : Int32) (x6 : Int32) (x7 : Int32) (h : hp_H) : Option (Int32 × hp_H) := lp (fun k (s : Nat × Int32 × Int32 × Int32 × Int32 × Int32 × Int32 × hp_H) => f_X10_reform_66  (fun a0 a1 a2 a3 a4 a5 a6 a7 => k (a0, a1, a2, a3, a4, a5, a6, a7)) s.1 s.2.1 s.2.2.1 s.2.2.2.1 s.2.2.2.2.1 s.2.2.2.2.2.1 s.2.2.2.2.2.2.1 s.2.2.2.2.2.2.2) 100000 (x0, x1, x2, x4, x5, x6, x7, h)
theorem wl_X10_reform_66 (X : wx G p s m args meth c cX10_reform 9 RX10 (some .int)) (x0 : Nat) (x1 : Int32) (x2 : Int32) (x4 : Int32) (x5 : Int32) (x6 : Int32) (x7 : Int32) (h : hp_H) (hf : l_X10_reform_66 x0 x1 x2 x4 x5 x6 x7 h = some o) : wq p l e (mt_R (8) 0 0) s m args below meth c (MQ below (mt_Q G (some (.int o.1)) o.2) args s 0 0 (hp_A G)) G 9 0 0 66 [(0, .ref x0), (1, .int x1), (2, .int x2), (4, .int x4), (5, .int x5), (6, .int x6), (7, .int x7)] [] h :=
  lp_ind (P := fun (s_ : Nat × Int32 × Int32 × Int32 × Int32 × Int32 × Int32 × hp_H) => wq p l e (mt_R (8) 0 0) s m args below meth c (MQ below (mt_Q G (some (.int o.1)) o.2) args s 0 0 (hp_A G)) G 9 0 0 66 [(0, .ref s_.1), (1, .int s_.2.1), (2, .int s_.2.2.1), (4, .int s_.2.2.2.1), (5, .int s_.2.2.2.2.1), (6, .int s_.2.2.2.2.2.1), (7, .int s_.2.2.2.2.2.2.1)] [] s_.2.2.2.2.2.2.2) (fun k s hk hf => w_X10_reform_66 X  (fun a0 a1 a2 a3 a4 a5 a6 a7 => k (a0, a1, a2, a3, a4, a5, a6, a7)) (fun a0 a1 a2 a3 a4 a5 a6 a7 hf => hk (a0, a1, a2, a3, a4, a5, a6, a7) hf) s.1 s.2.1 s.2.2.1 s.2.2.2.1 s.2.2.2.2.1 s.2.2.2.2.2.1 s.2.2.2.2.2.2.1 s.2.2.2.2.2.2.2 hf) 100000 (x0, x1, x2, x4, x5, x6, x7, h) hf
end Sf_X10_reform
def f_X10_reform (x0 : Nat) (x1 : Int32) (x2 : Int32) (h : hp_H) : Option (Int32 × hp_H) := gd h x0 10 ((f_X10_needMan x0 x1 h).bind fun r1 => (f_X10_needWhat x2 1 r1).bind fun r2 => (rd_R r2 x0 10 8).bind fun v3 => (f_X3_rowOf v3 x1 r2).bind fun r4 => if r4.1 = (-1) then (some ((-1), r4.2)) else ((rd_R r4.2 x0 10 9).bind fun v5 => (rd_R r4.2 x0 10 8).bind fun v6 => (f_X3_copyFrom v5 v6 r4.2).bind fun r7 => (f_X10_listenTo x0 x1 r4.1 r7).bind fun r8 => (rd_R r8 x0 10 8).bind fun v9 => (rd_R r8 v9 3 2).bind fun v10 => (f_X2_at v10 x1 r8).bind fun r11 => l_X10_reform_66 x0 x1 x2 r11.1 (-1) 13 0 r11.2))
set_option maxRecDepth 20000 in
theorem c_X10_reform (l : Launch) (x0 : Nat) (x1 : Int32) (x2 : Int32) (h : hp_H) (r : Int32 × hp_H) (hf : f_X10_reform x0 x1 x2 h = some r) : cv l (8) yX10_reform cX10_reform 9 (some .int) 10 x0 [.int x1, .int x2] h (some (.int r.1)) r.2 := by
  unfold f_X10_reform at hf
  refine cv_of (lv := [(0, .ref x0), (1, .int x1), (2, .int x2)]) hf (by decide +kernel) (Nat.le_of_ble_eq_true rfl) rfl (fun hf p e s m args below meth c G X => ?_)
  refine wk_aload_n X dX10_reform_0 0 rfl ?_
  refine wk_iload_n X dX10_reform_1 1 rfl ?_
  refine wk_callVv X [.int x1] [] dX10_reform_2 rfl vo_X10_171 rfl (by decide) (Nat.le_of_ble_eq_true rfl) hf (c_X10_needMan l _ _ _) (fun r1 hf => ?_)
  refine wk_iload_n X dX10_reform_5 2 rfl ?_
  refine wk_iconst X dX10_reform_6 ic_1 ?_
  refine wk_callSv X [.int x2, .int 1] [] dX10_reform_7 rfl vo_X10_234 rfl (by decide) (Nat.le_of_ble_eq_true rfl) hf (c_X10_needWhat l _ _ _) (fun r2 hf => ?_)
  refine wk_aload_n X dX10_reform_10 0 rfl ?_
  refine wk_getR X dX10_reform_11 fo_X10_55 hf (fun v3 hf => ?_)
  refine wk_iload_n X dX10_reform_14 1 rfl ?_
  refine wk_callVi X [.int x1] [] dX10_reform_15 rfl vo_X10_183 rfl (by decide) (Nat.le_of_ble_eq_true rfl) hf (c_X3_rowOf l _ _ _) (fun r4 hf => ?_)
  refine wk_istore_n (lv' := [(3, .int r4.1), (0, .ref x0), (1, .int x1), (2, .int x2)]) X dX10_reform_18 (by decide) rfl ?_
  refine wk_iload_n X dX10_reform_19 0 rfl ?_
  refine wk_iconst X dX10_reform_20 ic_m1 ?_
  refine wk_icmp_ne X 26 dX10_reform_21 (by decide) hf (fun hf => ?_) (fun hf => ?_)
  · refine wk_aload_n X dX10_reform_26 1 rfl ?_
    refine wk_getR X dX10_reform_27 fo_X10_59 hf (fun v5 hf => ?_)
    refine wk_aload_n X dX10_reform_30 1 rfl ?_
    refine wk_getR X dX10_reform_31 fo_X10_55 hf (fun v6 hf => ?_)
    refine wk_callVv X [.ref v6] [] dX10_reform_34 rfl vo_X10_116 rfl (by decide) (Nat.le_of_ble_eq_true rfl) hf (c_X3_copyFrom l _ _ _) (fun r7 hf => ?_)
    refine wk_aload_n X dX10_reform_37 1 rfl ?_
    refine wk_iload_n X dX10_reform_38 2 rfl ?_
    refine wk_iload_n X dX10_reform_39 0 rfl ?_
    refine wk_callVv X [.int x1, .int r4.1] [] dX10_reform_40 rfl vo_X10_344 rfl (by decide) (Nat.le_of_ble_eq_true rfl) hf (c_X10_listenTo l _ _ _ _) (fun r8 hf => ?_)
    refine wk_aload_n X dX10_reform_43 1 rfl ?_
    refine wk_getR X dX10_reform_44 fo_X10_55 hf (fun v9 hf => ?_)
    refine wk_getR X dX10_reform_47 fo_X10_174 hf (fun v10 hf => ?_)
    refine wk_iload_n X dX10_reform_50 2 rfl ?_
    refine wk_callVi X [.int x1] [] dX10_reform_51 rfl vo_X10_163 rfl (by decide) (Nat.le_of_ble_eq_true rfl) hf (c_X2_at l _ _ _) (fun r11 hf => ?_)
    refine wk_istore (lv' := [(4, .int r11.1), (3, .int r4.1), (0, .ref x0), (1, .int x1), (2, .int x2)]) X dX10_reform_54 (by decide) rfl ?_
    refine wk_iconst X dX10_reform_56 ic_m1 ?_
    refine wk_istore (lv' := [(5, .int (-1)), (4, .int r11.1), (3, .int r4.1), (0, .ref x0), (1, .int x1), (2, .int x2)]) X dX10_reform_57 (by decide) rfl ?_
    refine wk_bipush X dX10_reform_59 ib_13 ?_
    refine wk_istore (lv' := [(6, .int 13), (5, .int (-1)), (4, .int r11.1), (3, .int r4.1), (0, .ref x0), (1, .int x1), (2, .int x2)]) X dX10_reform_61 (by decide) rfl ?_
    refine wk_iconst X dX10_reform_63 ic_0 ?_
    refine wk_istore (lv' := [(7, .int 0), (6, .int 13), (5, .int (-1)), (4, .int r11.1), (3, .int r4.1), (0, .ref x0), (1, .int x1), (2, .int x2)]) X dX10_reform_64 (by decide) rfl ?_
    exact wq_sub [5, 6, 7, 3, 2, 1, 0] rfl (wl_X10_reform_66 X _ _ _ _ _ _ _ _ hf)
  · refine wk_iconst X dX10_reform_24 ic_m1 ?_
    exact wk_ireturn X dX10_reform_25 hf
section Sg_X10_reform
variable {p : Program} {l : Launch} {e : Env} {s : State} {m : MethodId} {args : Array Value} {below : List Frame} {meth : Method} {c : Code} {G : hp_G} {o : Nat × hp_H}
end Sg_X10_reform
def g_X10_reform (x0 : Nat) (x1 : Int32) (x2 : Int32) (h : hp_H) : Option (Nat × hp_H) := gd h x0 10 (xb (g_X10_needMan x0 x1 h) (f_X10_needMan x0 x1 h) fun r1 => xb (g_X10_needWhat x2 1 r1) (f_X10_needWhat x2 1 r1) fun r2 => none)
set_option maxRecDepth 20000 in
theorem x_X10_reform (l : Launch) (hl : l.stackTraces = false) (x0 : Nat) (x1 : Int32) (x2 : Int32) (h : hp_H) (r : Nat × hp_H) (hf : g_X10_reform x0 x1 x2 h = some r) : cvx l (8) yX10_reform cX10_reform 9 (some .int) 10 x0 [.int x1, .int x2] h r.1 r.2 := by
  unfold g_X10_reform at hf
  refine cvx_of (lv := [(0, .ref x0), (1, .int x1), (2, .int x2)]) hf (by decide +kernel) (Nat.le_of_ble_eq_true rfl) rfl (fun hf p e s m args below meth c G hT X => ?_)
  refine wk_aload_n X dX10_reform_0 0 rfl ?_
  refine wk_iload_n X dX10_reform_1 1 rfl ?_
  refine wk_callVxv X hT [.int x1] [] dX10_reform_2 rfl vo_X10_171 rfl (by decide) (Nat.le_of_ble_eq_true rfl) hf (x_X10_needMan l hl _ _ _) (c_X10_needMan l _ _ _) (fun r1 hf => ?_)
  refine wk_iload_n X dX10_reform_5 2 rfl ?_
  refine wk_iconst X dX10_reform_6 ic_1 ?_
  refine wk_callSxv X hT [.int x2, .int 1] [] dX10_reform_7 rfl vo_X10_234 rfl (by decide) (Nat.le_of_ble_eq_true rfl) hf (x_X10_needWhat l hl _ _ _) (c_X10_needWhat l _ _ _) (fun r2 hf => ?_)
  exact nomatch hf
section Sf_X10_review
variable {p : Program} {l : Launch} {e : Env} {s : State} {m : MethodId} {args : Array Value} {below : List Frame} {meth : Method} {c : Code} {G : hp_G} {o : Int32 × hp_H}
def f_X10_review_62 (t0 : Int32) (h : hp_H) : Option (Int32 × hp_H) := some (t0, h)
set_option maxRecDepth 20000 in
theorem w_X10_review_62 (X : wx G p s m args meth c cX10_review 2 RX10 (some .int)) (t0 : Int32) (h : hp_H) (hf : f_X10_review_62 t0 h = some o) : wq p l e (mt_R (31) 0 0) s m args below meth c (MQ below (mt_Q G (some (.int o.1)) o.2) args s 0 0 (hp_A G)) G 2 0 0 62 [] [.int t0] h := by
  unfold f_X10_review_62 at hf
  exact wk_ireturn X dX10_review_62 hf
def f_X10_review_10 (x0 : Nat) (x1 : Int32) (h : hp_H) : Option (Int32 × hp_H) := (rd_R h x0 10 4).bind fun v1 => (rd_I h v1 1 2).bind fun v2 => if v2 ≤ 6 then ((rd_R h x0 10 12).bind fun v3 => (rd_R h x0 10 8).bind fun v4 => (f_X4_seek v3 v4 h).bind fun r5 => if x1 = (-1) then ((rd_R r5 x0 10 12).bind fun v9 => (rd_I r5 v9 4 3).bind fun v10 => f_X10_review_62 v10 r5) else ((rd_R r5 x0 10 12).bind fun v6 => (rd_R r5 v6 4 2).bind fun v7 => (f_X2_at v7 x1 r5).bind fun r8 => f_X10_review_62 r8.1 r8.2)) else (some ((-2), h))
set_option maxRecDepth 20000 in
theorem w_X10_review_10 (X : wx G p s m args meth c cX10_review 2 RX10 (some .int)) (x0 : Nat) (x1 : Int32) (h : hp_H) (hf : f_X10_review_10 x0 x1 h = some o) : wq p l e (mt_R (31) 0 0) s m args below meth c (MQ below (mt_Q G (some (.int o.1)) o.2) args s 0 0 (hp_A G)) G 2 0 0 10 [(0, .ref x0), (1, .int x1)] [] h := by
  unfold f_X10_review_10 at hf
  refine wk_aload_n X dX10_review_10 0 rfl ?_
  refine wk_getR X dX10_review_11 fo_X10_31 hf (fun v1 hf => ?_)
  refine wk_getI X dX10_review_14 fo_X10_141 hf (fun v2 hf => ?_)
  refine wk_bipush X dX10_review_17 ib_6 ?_
  refine wk_icmp_le X 25 dX10_review_19 (by decide) hf (fun hf => ?_) (fun hf => ?_)
  · refine wk_aload_n X dX10_review_25 0 rfl ?_
    refine wk_getR X dX10_review_26 fo_X10_81 hf (fun v3 hf => ?_)
    refine wk_aload_n X dX10_review_29 0 rfl ?_
    refine wk_getR X dX10_review_30 fo_X10_55 hf (fun v4 hf => ?_)
    refine wk_callVv X [.ref v4] [] dX10_review_33 rfl vo_X10_279 rfl (by decide) (Nat.le_of_ble_eq_true rfl) hf (c_X4_seek l _ _ _) (fun r5 hf => ?_)
    refine wk_iload_n X dX10_review_36 1 rfl ?_
    refine wk_iconst X dX10_review_37 ic_m1 ?_
    refine wk_icmp_ne X 51 dX10_review_38 (by decide) hf (fun hf => ?_) (fun hf => ?_)
    · refine wk_aload_n X dX10_review_51 0 rfl ?_
      refine wk_getR X dX10_review_52 fo_X10_81 hf (fun v6 hf => ?_)
      refine wk_getR X dX10_review_55 fo_X10_285 hf (fun v7 hf => ?_)
      refine wk_iload_n X dX10_review_58 1 rfl ?_
      refine wk_callVi X [.int x1] [] dX10_review_59 rfl vo_X10_163 rfl (by decide) (Nat.le_of_ble_eq_true rfl) hf (c_X2_at l _ _ _) (fun r8 hf => ?_)
      exact wq_sub [] rfl (w_X10_review_62 X _ _ hf)
    · refine wk_aload_n X dX10_review_41 0 rfl ?_
      refine wk_getR X dX10_review_42 fo_X10_81 hf (fun v9 hf => ?_)
      refine wk_getI X dX10_review_45 fo_X10_282 hf (fun v10 hf => ?_)
      refine wk_goto X 62 dX10_review_48 (by decide) ?_
      exact wq_sub [] rfl (w_X10_review_62 X _ _ hf)
  · refine wk_bipush X dX10_review_22 ib_m2 ?_
    exact wk_ireturn X dX10_review_24 hf
end Sf_X10_review
def f_X10_review (x0 : Nat) (x1 : Int32) (h : hp_H) : Option (Int32 × hp_H) := gd h x0 10 (if x1 = (-1) then (f_X10_review_10 x0 x1 h) else ((f_X10_needRow x0 x1 h).bind fun r1 => f_X10_review_10 x0 x1 r1))
set_option maxRecDepth 20000 in
theorem c_X10_review (l : Launch) (x0 : Nat) (x1 : Int32) (h : hp_H) (r : Int32 × hp_H) (hf : f_X10_review x0 x1 h = some r) : cv l (31) yX10_review cX10_review 2 (some .int) 10 x0 [.int x1] h (some (.int r.1)) r.2 := by
  unfold f_X10_review at hf
  refine cv_of (lv := [(0, .ref x0), (1, .int x1)]) hf (by decide +kernel) (Nat.le_of_ble_eq_true rfl) rfl (fun hf p e s m args below meth c G X => ?_)
  refine wk_iload_n X dX10_review_0 1 rfl ?_
  refine wk_iconst X dX10_review_1 ic_m1 ?_
  refine wk_icmp_eq X 10 dX10_review_2 (by decide) hf (fun hf => ?_) (fun hf => ?_)
  · exact wq_sub [0, 1] rfl (w_X10_review_10 X _ _ _ hf)
  · refine wk_aload_n X dX10_review_5 0 rfl ?_
    refine wk_iload_n X dX10_review_6 1 rfl ?_
    refine wk_callVv X [.int x1] [] dX10_review_7 rfl vo_X10_188 rfl (by decide) (Nat.le_of_ble_eq_true rfl) hf (c_X10_needRow l _ _ _) (fun r1 hf => ?_)
    exact wq_sub [0, 1] rfl (w_X10_review_10 X _ _ _ hf)
section Sg_X10_review
variable {p : Program} {l : Launch} {e : Env} {s : State} {m : MethodId} {args : Array Value} {below : List Frame} {meth : Method} {c : Code} {G : hp_G} {o : Nat × hp_H}
end Sg_X10_review
def g_X10_review (x0 : Nat) (x1 : Int32) (h : hp_H) : Option (Nat × hp_H) := gd h x0 10 (if x1 = (-1) then (none) else (xb (g_X10_needRow x0 x1 h) (f_X10_needRow x0 x1 h) fun r1 => none))
set_option maxRecDepth 20000 in
theorem x_X10_review (l : Launch) (hl : l.stackTraces = false) (x0 : Nat) (x1 : Int32) (h : hp_H) (r : Nat × hp_H) (hf : g_X10_review x0 x1 h = some r) : cvx l (31) yX10_review cX10_review 2 (some .int) 10 x0 [.int x1] h r.1 r.2 := by
  unfold g_X10_review at hf
  refine cvx_of (lv := [(0, .ref x0), (1, .int x1)]) hf (by decide +kernel) (Nat.le_of_ble_eq_true rfl) rfl (fun hf p e s m args below meth c G hT X => ?_)
  refine wk_iload_n X dX10_review_0 1 rfl ?_
  refine wk_iconst X dX10_review_1 ic_m1 ?_
  refine wk_icmp_eq X 10 dX10_review_2 (by decide) hf (fun hf => ?_) (fun hf => ?_)
  · exact nomatch hf
  · refine wk_aload_n X dX10_review_5 0 rfl ?_
    refine wk_iload_n X dX10_review_6 1 rfl ?_
    refine wk_callVxv X hT [.int x1] [] dX10_review_7 rfl vo_X10_188 rfl (by decide) (Nat.le_of_ble_eq_true rfl) hf (x_X10_needRow l hl _ _ _) (c_X10_needRow l _ _ _) (fun r1 hf => ?_)
    exact nomatch hf
section Sf_X10_reviews
variable {p : Program} {l : Launch} {e : Env} {s : State} {m : MethodId} {args : Array Value} {below : List Frame} {meth : Method} {c : Code} {G : hp_G} {o : Int32 × hp_H}
def f_X10_reviews_105 (t0 : Int32) (h : hp_H) : Option (Int32 × hp_H) := some (t0, h)
set_option maxRecDepth 20000 in
theorem w_X10_reviews_105 (X : wx G p s m args meth c cX10_reviews 7 RX10 (some .int)) (t0 : Int32) (h : hp_H) (hf : f_X10_reviews_105 t0 h = some o) : wq p l e (mt_R (8) 0 0) s m args below meth c (MQ below (mt_Q G (some (.int o.1)) o.2) args s 0 0 (hp_A G)) G 7 0 0 105 [] [.int t0] h := by
  unfold f_X10_reviews_105 at hf
  exact wk_ireturn X dX10_reviews_105 hf
def f_X10_reviews_76 (x0 : Nat) (x3 : Int32) (x5 : Int32) (h : hp_H) : Option (Int32 × hp_H) := if x3 = 0 then ((rd_R h x0 10 9).bind fun v3 => (f_X3_honourOfAll v3 h).bind fun r4 => some (r4.1, r4.2)) else (if x3 = 1 then (f_X10_reviews_105 x5 h) else ((rd_R h x0 10 9).bind fun v1 => (f_X3_mostHonoured v1 h).bind fun r2 => f_X10_reviews_105 r2.1 r2.2))
set_option maxRecDepth 20000 in
theorem w_X10_reviews_76 (X : wx G p s m args meth c cX10_reviews 7 RX10 (some .int)) (x0 : Nat) (x3 : Int32) (x5 : Int32) (h : hp_H) (hf : f_X10_reviews_76 x0 x3 x5 h = some o) : wq p l e (mt_R (8) 0 0) s m args below meth c (MQ below (mt_Q G (some (.int o.1)) o.2) args s 0 0 (hp_A G)) G 7 0 0 76 [(0, .ref x0), (3, .int x3), (5, .int x5)] [] h := by
  unfold f_X10_reviews_76 at hf
  refine wk_iload_n X dX10_reviews_76 1 rfl ?_
  refine wk_if_ne X 88 dX10_reviews_77 (by decide) hf (fun hf => ?_) (fun hf => ?_)
  · refine wk_iload_n X dX10_reviews_88 1 rfl ?_
    refine wk_iconst X dX10_reviews_89 ic_1 ?_
    refine wk_icmp_ne X 98 dX10_reviews_90 (by decide) hf (fun hf => ?_) (fun hf => ?_)
    · refine wk_aload_n X dX10_reviews_98 0 rfl ?_
      refine wk_getR X dX10_reviews_99 fo_X10_59 hf (fun v1 hf => ?_)
      refine wk_callVi X [] [] dX10_reviews_102 rfl vo_X10_329 rfl (by decide) (Nat.le_of_ble_eq_true rfl) hf (c_X3_mostHonoured l _ _) (fun r2 hf => ?_)
      exact wq_sub [] rfl (w_X10_reviews_105 X _ _ hf)
    · refine wk_iload X dX10_reviews_93 2 rfl ?_
      refine wk_goto X 105 dX10_reviews_95 (by decide) ?_
      exact wq_sub [] rfl (w_X10_reviews_105 X _ _ hf)
  · refine wk_aload_n X dX10_reviews_80 0 rfl ?_
    refine wk_getR X dX10_reviews_81 fo_X10_59 hf (fun v3 hf => ?_)
    refine wk_callVi X [] [] dX10_reviews_84 rfl vo_X10_153 rfl (by decide) (Nat.le_of_ble_eq_true rfl) hf (c_X3_honourOfAll l _ _) (fun r4 hf => ?_)
    exact wk_ireturn X dX10_reviews_87 hf
def f_X10_reviews_32 (k32 : Nat → Int32 → Int32 → Int32 → Int32 → Int32 → hp_H → Option (Int32 × hp_H)) (x0 : Nat) (x2 : Int32) (x3 : Int32) (x4 : Int32) (x5 : Int32) (x6 : Int32) (h : hp_H) : Option (Int32 × hp_H) := if x2 ≤ x6 then (f_X10_reviews_76 x0 x3 x5 h) else ((f_X10_drawOfMan x0 x4 h).bind fun r1 => (f_X10_stirred r1.1 r1.2).bind fun r2 => (rd_R r2.2 x0 10 9).bind fun v3 => (f_X10_draw r2.1 10 r2.2).bind fun r4 => (f_X3_parade v3 x6 r4.1 r4.2).bind fun r5 => k32 x0 x2 x3 r2.1 (x5 + r5.1) (x6 + 1) r5.2)
set_option maxRecDepth 20000 in
theorem w_X10_reviews_32 (X : wx G p s m args meth c cX10_reviews 7 RX10 (some .int)) (k32 : Nat → Int32 → Int32 → Int32 → Int32 → Int32 → hp_H → Option (Int32 × hp_H)) (hk32 : ∀ (x0 : Nat) (x2 : Int32) (x3 : Int32) (x4 : Int32) (x5 : Int32) (x6 : Int32) (h : hp_H), k32 x0 x2 x3 x4 x5 x6 h = some o → wq p l e (mt_R (8) 0 0) s m args below meth c (MQ below (mt_Q G (some (.int o.1)) o.2) args s 0 0 (hp_A G)) G 7 0 0 32 [(0, .ref x0), (2, .int x2), (3, .int x3), (4, .int x4), (5, .int x5), (6, .int x6)] [] h) (x0 : Nat) (x2 : Int32) (x3 : Int32) (x4 : Int32) (x5 : Int32) (x6 : Int32) (h : hp_H) (hf : f_X10_reviews_32 k32 x0 x2 x3 x4 x5 x6 h = some o) : wq p l e (mt_R (8) 0 0) s m args below meth c (MQ below (mt_Q G (some (.int o.1)) o.2) args s 0 0 (hp_A G)) G 7 0 0 32 [(0, .ref x0), (2, .int x2), (3, .int x3), (4, .int x4), (5, .int x5), (6, .int x6)] [] h := by
  unfold f_X10_reviews_32 at hf
  refine wk_iload X dX10_reviews_32 5 rfl ?_
  refine wk_iload_n X dX10_reviews_34 1 rfl ?_
  refine wk_icmp_ge X 76 dX10_reviews_35 (by decide) hf (fun hf => ?_) (fun hf => ?_)
  · exact wq_sub [0, 2, 4] rfl (w_X10_reviews_76 X _ _ _ _ hf)
  · refine wk_aload_n X dX10_reviews_38 0 rfl ?_
    refine wk_iload X dX10_reviews_39 3 rfl ?_
    refine wk_callVi X [.int x4] [] dX10_reviews_41 rfl vo_X10_317 rfl (by decide) (Nat.le_of_ble_eq_true rfl) hf (c_X10_drawOfMan l _ _ _) (fun r1 hf => ?_)
    refine wk_callSi X [.int r1.1] [] dX10_reviews_44 rfl vo_X10_320 rfl (by decide) (Nat.le_of_ble_eq_true rfl) hf (c_X10_stirred l _ _) (fun r2 hf => ?_)
    refine wk_istore (lv' := [(4, .int r2.1), (0, .ref x0), (2, .int x2), (3, .int x3), (5, .int x5), (6, .int x6)]) X dX10_reviews_47 (by decide) rfl ?_
    refine wk_iload X dX10_reviews_49 4 rfl ?_
    refine wk_aload_n X dX10_reviews_51 1 rfl ?_
    refine wk_getR X dX10_reviews_52 fo_X10_59 hf (fun v3 hf => ?_)
    refine wk_iload X dX10_reviews_55 5 rfl ?_
    refine wk_iload X dX10_reviews_57 0 rfl ?_
    refine wk_bipush X dX10_reviews_59 ib_10 ?_
    refine wk_callSi X [.int r2.1, .int 10] [.int x6, .ref v3, .int x5] dX10_reviews_61 rfl vo_X10_323 rfl (by decide) (Nat.le_of_ble_eq_true rfl) hf (c_X10_draw l _ _ _) (fun r4 hf => ?_)
    refine wk_callVi X [.int x6, .int r4.1] [.int x5] dX10_reviews_64 rfl vo_X10_326 rfl (by decide) (Nat.le_of_ble_eq_true rfl) hf (c_X3_parade l _ _ _ _) (fun r5 hf => ?_)
    refine wk_iadd X dX10_reviews_67 ?_
    refine wk_istore (lv' := [(5, .int (x5 + r5.1)), (4, .int r2.1), (0, .ref x0), (2, .int x2), (3, .int x3), (6, .int x6)]) X dX10_reviews_68 (by decide) rfl ?_
    refine wk_iinc (lv' := [(6, .int (x6 + 1)), (5, .int (x5 + r5.1)), (4, .int r2.1), (0, .ref x0), (2, .int x2), (3, .int x3)]) X dX10_reviews_70 5 rfl ic_1 (by decide) rfl ?_
    refine wk_goto X 32 dX10_reviews_73 (by decide) ?_
    exact wq_sub [3, 4, 5, 2, 1, 0] rfl (hk32 _ _ _ _ _ _ _ hf)
def l_X10_reviews_32 (x0 : Nat) (x2 : Int32) (x3 : Int32) (x4 : Int32) (x5 : Int32) (x6 : Int32) (h : hp_H) : Option (Int32 × hp_H) := lp (fun k (s : Nat × Int32 × Int32 × Int32 × Int32 × Int32 × hp_H) => f_X10_reviews_32  (fun a0 a1 a2 a3 a4 a5 a6 => k (a0, a1, a2, a3, a4, a5, a6)) s.1 s.2.1 s.2.2.1 s.2.2.2.1 s.2.2.2.2.1 s.2.2.2.2.2.1 s.2.2.2.2.2.2) 100000 (x0, x2, x3, x4, x5, x6, h)
theorem wl_X10_reviews_32 (X : wx G p s m args meth c cX10_reviews 7 RX10 (some .int)) (x0 : Nat) (x2 : Int32) (x3 : Int32) (x4 : Int32) (x5 : Int32) (x6 : Int32) (h : hp_H) (hf : l_X10_reviews_32 x0 x2 x3 x4 x5 x6 h = some o) : wq p l e (mt_R (8) 0 0) s m args below meth c (MQ below (mt_Q G (some (.int o.1)) o.2) args s 0 0 (hp_A G)) G 7 0 0 32 [(0, .ref x0), (2, .int x2), (3, .int x3), (4, .int x4), (5, .int x5), (6, .int x6)] [] h :=
  lp_ind (P := fun (s_ : Nat × Int32 × Int32 × Int32 × Int32 × Int32 × hp_H) => wq p l e (mt_R (8) 0 0) s m args below meth c (MQ below (mt_Q G (some (.int o.1)) o.2) args s 0 0 (hp_A G)) G 7 0 0 32 [(0, .ref s_.1), (2, .int s_.2.1), (3, .int s_.2.2.1), (4, .int s_.2.2.2.1), (5, .int s_.2.2.2.2.1), (6, .int s_.2.2.2.2.2.1)] [] s_.2.2.2.2.2.2) (fun k s hk hf => w_X10_reviews_32 X  (fun a0 a1 a2 a3 a4 a5 a6 => k (a0, a1, a2, a3, a4, a5, a6)) (fun a0 a1 a2 a3 a4 a5 a6 hf => hk (a0, a1, a2, a3, a4, a5, a6) hf) s.1 s.2.1 s.2.2.1 s.2.2.2.1 s.2.2.2.2.1 s.2.2.2.2.2.1 s.2.2.2.2.2.2 hf) 100000 (x0, x2, x3, x4, x5, x6, h) hf
end Sf_X10_reviews
def f_X10_reviews (x0 : Nat) (x1 : Int32) (x2 : Int32) (x3 : Int32) (h : hp_H) : Option (Int32 × hp_H) := gd h x0 10 ((f_X10_needWhat x3 2 h).bind fun r1 => (f_X10_needWithin x2 0 40 r1).bind fun r2 => (rd_R r2 x0 10 9).bind fun v3 => (rd_R r2 x0 10 8).bind fun v4 => (f_X3_copyFrom v3 v4 r2).bind fun r5 => l_X10_reviews_32 x0 x2 x3 x1 0 0 r5)
set_option maxRecDepth 20000 in
theorem c_X10_reviews (l : Launch) (x0 : Nat) (x1 : Int32) (x2 : Int32) (x3 : Int32) (h : hp_H) (r : Int32 × hp_H) (hf : f_X10_reviews x0 x1 x2 x3 h = some r) : cv l (8) yX10_reviews cX10_reviews 7 (some .int) 10 x0 [.int x1, .int x2, .int x3] h (some (.int r.1)) r.2 := by
  unfold f_X10_reviews at hf
  refine cv_of (lv := [(0, .ref x0), (1, .int x1), (2, .int x2), (3, .int x3)]) hf (by decide +kernel) (Nat.le_of_ble_eq_true rfl) rfl (fun hf p e s m args below meth c G X => ?_)
  refine wk_iload_n X dX10_reviews_0 3 rfl ?_
  refine wk_iconst X dX10_reviews_1 ic_2 ?_
  refine wk_callSv X [.int x3, .int 2] [] dX10_reviews_2 rfl vo_X10_234 rfl (by decide) (Nat.le_of_ble_eq_true rfl) hf (c_X10_needWhat l _ _ _) (fun r1 hf => ?_)
  refine wk_iload_n X dX10_reviews_5 2 rfl ?_
  refine wk_iconst X dX10_reviews_6 ic_0 ?_
  refine wk_bipush X dX10_reviews_7 ib_40 ?_
  refine wk_callSv X [.int x2, .int 0, .int 40] [] dX10_reviews_9 rfl vo_X10_237 rfl (by decide) (Nat.le_of_ble_eq_true rfl) hf (c_X10_needWithin l _ _ _ _) (fun r2 hf => ?_)
  refine wk_aload_n X dX10_reviews_12 0 rfl ?_
  refine wk_getR X dX10_reviews_13 fo_X10_59 hf (fun v3 hf => ?_)
  refine wk_aload_n X dX10_reviews_16 0 rfl ?_
  refine wk_getR X dX10_reviews_17 fo_X10_55 hf (fun v4 hf => ?_)
  refine wk_callVv X [.ref v4] [] dX10_reviews_20 rfl vo_X10_116 rfl (by decide) (Nat.le_of_ble_eq_true rfl) hf (c_X3_copyFrom l _ _ _) (fun r5 hf => ?_)
  refine wk_iload_n X dX10_reviews_23 1 rfl ?_
  refine wk_istore (lv' := [(4, .int x1), (0, .ref x0), (1, .int x1), (2, .int x2), (3, .int x3)]) X dX10_reviews_24 (by decide) rfl ?_
  refine wk_iconst X dX10_reviews_26 ic_0 ?_
  refine wk_istore (lv' := [(5, .int 0), (4, .int x1), (0, .ref x0), (1, .int x1), (2, .int x2), (3, .int x3)]) X dX10_reviews_27 (by decide) rfl ?_
  refine wk_iconst X dX10_reviews_29 ic_0 ?_
  refine wk_istore (lv' := [(6, .int 0), (5, .int 0), (4, .int x1), (0, .ref x0), (1, .int x1), (2, .int x2), (3, .int x3)]) X dX10_reviews_30 (by decide) rfl ?_
  exact wq_sub [3, 5, 6, 2, 1, 0] rfl (wl_X10_reviews_32 X _ _ _ _ _ _ _ hf)
section Sg_X10_reviews
variable {p : Program} {l : Launch} {e : Env} {s : State} {m : MethodId} {args : Array Value} {below : List Frame} {meth : Method} {c : Code} {G : hp_G} {o : Nat × hp_H}
end Sg_X10_reviews
def g_X10_reviews (x0 : Nat) (x1 : Int32) (x2 : Int32) (x3 : Int32) (h : hp_H) : Option (Nat × hp_H) := gd h x0 10 (xb (g_X10_needWhat x3 2 h) (f_X10_needWhat x3 2 h) fun r1 => xb (g_X10_needWithin x2 0 40 r1) (f_X10_needWithin x2 0 40 r1) fun r2 => none)
set_option maxRecDepth 20000 in
theorem x_X10_reviews (l : Launch) (hl : l.stackTraces = false) (x0 : Nat) (x1 : Int32) (x2 : Int32) (x3 : Int32) (h : hp_H) (r : Nat × hp_H) (hf : g_X10_reviews x0 x1 x2 x3 h = some r) : cvx l (8) yX10_reviews cX10_reviews 7 (some .int) 10 x0 [.int x1, .int x2, .int x3] h r.1 r.2 := by
  unfold g_X10_reviews at hf
  refine cvx_of (lv := [(0, .ref x0), (1, .int x1), (2, .int x2), (3, .int x3)]) hf (by decide +kernel) (Nat.le_of_ble_eq_true rfl) rfl (fun hf p e s m args below meth c G hT X => ?_)
  refine wk_iload_n X dX10_reviews_0 3 rfl ?_
  refine wk_iconst X dX10_reviews_1 ic_2 ?_
  refine wk_callSxv X hT [.int x3, .int 2] [] dX10_reviews_2 rfl vo_X10_234 rfl (by decide) (Nat.le_of_ble_eq_true rfl) hf (x_X10_needWhat l hl _ _ _) (c_X10_needWhat l _ _ _) (fun r1 hf => ?_)
  refine wk_iload_n X dX10_reviews_5 2 rfl ?_
  refine wk_iconst X dX10_reviews_6 ic_0 ?_
  refine wk_bipush X dX10_reviews_7 ib_40 ?_
  refine wk_callSxv X hT [.int x2, .int 0, .int 40] [] dX10_reviews_9 rfl vo_X10_237 rfl (by decide) (Nat.le_of_ble_eq_true rfl) hf (x_X10_needWithin l hl _ _ _ _) (c_X10_needWithin l _ _ _ _) (fun r2 hf => ?_)
  exact nomatch hf
section Sf_X10_row
variable {p : Program} {l : Launch} {e : Env} {s : State} {m : MethodId} {args : Array Value} {below : List Frame} {meth : Method} {c : Code} {G : hp_G} {o : Int32 × hp_H}
end Sf_X10_row
def f_X10_row (x0 : Nat) (x1 : Int32) (x2 : Int32) (h : hp_H) : Option (Int32 × hp_H) := gd h x0 10 ((f_X10_needRow x0 x1 h).bind fun r1 => if x2 = 0 then ((rd_R r1 x0 10 8).bind fun v2 => (rd_R r1 v2 3 5).bind fun v3 => (f_X2_at v3 x1 r1).bind fun r4 => some (r4.1, r4.2)) else (if x2 = 1 then ((rd_R r1 x0 10 8).bind fun v5 => (f_X3_heardAt v5 x1 0 r1).bind fun r6 => some (r6.1, r6.2)) else (if x2 = 2 then ((rd_R r1 x0 10 8).bind fun v7 => (rd_R r1 x0 10 8).bind fun v8 => (f_X3_mudIn v8 0 r1).bind fun r9 => (f_X3_namedAt v7 x1 0 r9.1 r9.2).bind fun r10 => some (r10.1, r10.2)) else (none))))
set_option maxRecDepth 20000 in
theorem c_X10_row (l : Launch) (x0 : Nat) (x1 : Int32) (x2 : Int32) (h : hp_H) (r : Int32 × hp_H) (hf : f_X10_row x0 x1 x2 h = some r) : cv l (8) yX10_row cX10_row 3 (some .int) 10 x0 [.int x1, .int x2] h (some (.int r.1)) r.2 := by
  unfold f_X10_row at hf
  refine cv_of (lv := [(0, .ref x0), (1, .int x1), (2, .int x2)]) hf (by decide +kernel) (Nat.le_of_ble_eq_true rfl) rfl (fun hf p e s m args below meth c G X => ?_)
  refine wk_aload_n X dX10_row_0 0 rfl ?_
  refine wk_iload_n X dX10_row_1 1 rfl ?_
  refine wk_callVv X [.int x1] [] dX10_row_2 rfl vo_X10_188 rfl (by decide) (Nat.le_of_ble_eq_true rfl) hf (c_X10_needRow l _ _ _) (fun r1 hf => ?_)
  refine wk_iload_n X dX10_row_5 2 rfl ?_
  refine wk_ts_in X 32 0 dX10_row_6 (by decide) (by decide) (by decide) rfl (by decide) hf (fun hf => ?_) (fun n0 hf => ?_)
  · refine wk_aload_n X dX10_row_32 0 rfl ?_
    refine wk_getR X dX10_row_33 fo_X10_55 hf (fun v2 hf => ?_)
    refine wk_getR X dX10_row_36 fo_X10_191 hf (fun v3 hf => ?_)
    refine wk_iload_n X dX10_row_39 1 rfl ?_
    refine wk_callVi X [.int x1] [] dX10_row_40 rfl vo_X10_163 rfl (by decide) (Nat.le_of_ble_eq_true rfl) hf (c_X2_at l _ _ _) (fun r4 hf => ?_)
    exact wk_ireturn X dX10_row_43 hf
  refine wk_ts_in X 44 1 dX10_row_6 (by decide) (by decide) (by decide) rfl (by decide) hf (fun hf => ?_) (fun n1 hf => ?_)
  · refine wk_aload_n X dX10_row_44 0 rfl ?_
    refine wk_getR X dX10_row_45 fo_X10_55 hf (fun v5 hf => ?_)
    refine wk_iload_n X dX10_row_48 1 rfl ?_
    refine wk_iconst X dX10_row_49 ic_0 ?_
    refine wk_callVi X [.int x1, .int 0] [] dX10_row_50 rfl vo_X10_193 rfl (by decide) (Nat.le_of_ble_eq_true rfl) hf (c_X3_heardAt l _ _ _ _) (fun r6 hf => ?_)
    exact wk_ireturn X dX10_row_53 hf
  refine wk_ts_in X 54 2 dX10_row_6 (by decide) (by decide) (by decide) rfl (by decide) hf (fun hf => ?_) (fun n2 hf => ?_)
  · refine wk_aload_n X dX10_row_54 0 rfl ?_
    refine wk_getR X dX10_row_55 fo_X10_55 hf (fun v7 hf => ?_)
    refine wk_iload_n X dX10_row_58 1 rfl ?_
    refine wk_iconst X dX10_row_59 ic_0 ?_
    refine wk_aload_n X dX10_row_60 0 rfl ?_
    refine wk_getR X dX10_row_61 fo_X10_55 hf (fun v8 hf => ?_)
    refine wk_iconst X dX10_row_64 ic_0 ?_
    refine wk_callVi X [.int 0] [.int 0, .int x1, .ref v7] dX10_row_65 rfl vo_X10_150 rfl (by decide) (Nat.le_of_ble_eq_true rfl) hf (c_X3_mudIn l _ _ _) (fun r9 hf => ?_)
    refine wk_callVi X [.int x1, .int 0, .int r9.1] [] dX10_row_68 rfl vo_X10_197 rfl (by decide) (Nat.le_of_ble_eq_true rfl) hf (c_X3_namedAt l _ _ _ _ _) (fun r10 hf => ?_)
    exact wk_ireturn X dX10_row_71 hf
  refine wk_ts_out X 72 dX10_row_6 (fc_c n0 (fc_c n1 (fc_c n2 fc_n))) (by decide) (by decide) (by decide) ?_
  exact nomatch hf
section Sg_X10_row
variable {p : Program} {l : Launch} {e : Env} {s : State} {m : MethodId} {args : Array Value} {below : List Frame} {meth : Method} {c : Code} {G : hp_G} {o : Nat × hp_H}
end Sg_X10_row
def g_X10_row (x0 : Nat) (x1 : Int32) (x2 : Int32) (h : hp_H) : Option (Nat × hp_H) := gd h x0 10 (xb (g_X10_needRow x0 x1 h) (f_X10_needRow x0 x1 h) fun r1 => if x2 = 0 then (none) else (if x2 = 1 then (none) else (if x2 = 2 then (none) else (some (0, r1)))))
set_option maxRecDepth 20000 in
theorem x_X10_row (l : Launch) (hl : l.stackTraces = false) (x0 : Nat) (x1 : Int32) (x2 : Int32) (h : hp_H) (r : Nat × hp_H) (hf : g_X10_row x0 x1 x2 h = some r) : cvx l (8) yX10_row cX10_row 3 (some .int) 10 x0 [.int x1, .int x2] h r.1 r.2 := by
  unfold g_X10_row at hf
  refine cvx_of (lv := [(0, .ref x0), (1, .int x1), (2, .int x2)]) hf (by decide +kernel) (Nat.le_of_ble_eq_true rfl) rfl (fun hf p e s m args below meth c G hT X => ?_)
  refine wk_aload_n X dX10_row_0 0 rfl ?_
  refine wk_iload_n X dX10_row_1 1 rfl ?_
  refine wk_callVxv X hT [.int x1] [] dX10_row_2 rfl vo_X10_188 rfl (by decide) (Nat.le_of_ble_eq_true rfl) hf (x_X10_needRow l hl _ _ _) (c_X10_needRow l _ _ _) (fun r1 hf => ?_)
  refine wk_iload_n X dX10_row_5 2 rfl ?_
  refine wk_ts_in X 32 0 dX10_row_6 (by decide) (by decide) (by decide) rfl (by decide) hf (fun hf => ?_) (fun n0 hf => ?_)
  · exact nomatch hf
  refine wk_ts_in X 44 1 dX10_row_6 (by decide) (by decide) (by decide) rfl (by decide) hf (fun hf => ?_) (fun n1 hf => ?_)
  · exact nomatch hf
  refine wk_ts_in X 54 2 dX10_row_6 (by decide) (by decide) (by decide) rfl (by decide) hf (fun hf => ?_) (fun n2 hf => ?_)
  · exact nomatch hf
  refine wk_ts_out X 72 dX10_row_6 (fc_c n0 (fc_c n1 (fc_c n2 fc_n))) (by decide) (by decide) (by decide) ?_
  exact wk_throw X hl hT 0 20 2 (by decide) (by decide) rfl xo_X10_166_170 dX10_row_72 dX10_row_75 (Or.inl ⟨dX10_row_76, rfl⟩) dX10_row_78 dX10_row_81 (Nat.le_of_ble_eq_true rfl) hf
section Sf_X10_run
variable {p : Program} {l : Launch} {e : Env} {s : State} {m : MethodId} {args : Array Value} {below : List Frame} {meth : Method} {c : Code} {G : hp_G} {o : Int32 × hp_H}
def f_X10_run_63 (x2 : Int32) (h : hp_H) : Option (Int32 × hp_H) := some (x2, h)
set_option maxRecDepth 20000 in
theorem w_X10_run_63 (X : wx G p s m args meth c cX10_run 5 RX10 (some .int)) (x2 : Int32) (h : hp_H) (hf : f_X10_run_63 x2 h = some o) : wq p l e (mt_R (8) 0 0) s m args below meth c (MQ below (mt_Q G (some (.int o.1)) o.2) args s 0 0 (hp_A G)) G 5 0 0 63 [(2, .int x2)] [] h := by
  unfold f_X10_run_63 at hf
  refine wk_iload_n X dX10_run_63 0 rfl ?_
  exact wk_ireturn X dX10_run_64 hf
def f_X10_run_50 (k12 : Nat → Int32 → Int32 → Int32 → Int32 → hp_H → Option (Int32 × hp_H)) (x0 : Nat) (x1 : Int32) (x2 : Int32) (x4 : Int32) (t0 : Int32) (h : hp_H) : Option (Int32 × hp_H) := k12 x0 x1 (hp_max x2 t0) t0 (x4 + 1) h
set_option maxRecDepth 20000 in
theorem w_X10_run_50 (X : wx G p s m args meth c cX10_run 5 RX10 (some .int)) (k12 : Nat → Int32 → Int32 → Int32 → Int32 → hp_H → Option (Int32 × hp_H)) (hk12 : ∀ (x0 : Nat) (x1 : Int32) (x2 : Int32) (x3 : Int32) (x4 : Int32) (h : hp_H), k12 x0 x1 x2 x3 x4 h = some o → wq p l e (mt_R (8) 0 0) s m args below meth c (MQ below (mt_Q G (some (.int o.1)) o.2) args s 0 0 (hp_A G)) G 5 0 0 12 [(0, .ref x0), (1, .int x1), (2, .int x2), (3, .int x3), (4, .int x4)] [] h) (x0 : Nat) (x1 : Int32) (x2 : Int32) (x4 : Int32) (t0 : Int32) (h : hp_H) (hf : f_X10_run_50 k12 x0 x1 x2 x4 t0 h = some o) : wq p l e (mt_R (8) 0 0) s m args below meth c (MQ below (mt_Q G (some (.int o.1)) o.2) args s 0 0 (hp_A G)) G 5 0 0 50 [(0, .ref x0), (1, .int x1), (2, .int x2), (4, .int x4)] [.int t0] h := by
  unfold f_X10_run_50 at hf
  refine wk_istore_n (lv' := [(3, .int t0), (0, .ref x0), (1, .int x1), (2, .int x2), (4, .int x4)]) X dX10_run_50 (by decide) rfl ?_
  refine wk_iload_n X dX10_run_51 3 rfl ?_
  refine wk_iload_n X dX10_run_52 0 rfl ?_
  refine wk_max X dX10_run_53 ml_X10_353 (by decide) (Nat.le_of_ble_eq_true rfl) ?_
  refine wk_istore_n (lv' := [(2, .int (hp_max x2 t0)), (3, .int t0), (0, .ref x0), (1, .int x1), (4, .int x4)]) X dX10_run_56 (by decide) rfl ?_
  refine wk_iinc (lv' := [(4, .int (x4 + 1)), (2, .int (hp_max x2 t0)), (3, .int t0), (0, .ref x0), (1, .int x1)]) X dX10_run_57 4 rfl ic_1 (by decide) rfl ?_
  refine wk_goto X 12 dX10_run_60 (by decide) ?_
  exact wq_sub [3, 4, 1, 2, 0] rfl (hk12 _ _ _ _ _ _ hf)
def f_X10_run_12 (k12 : Nat → Int32 → Int32 → Int32 → Int32 → hp_H → Option (Int32 × hp_H)) (x0 : Nat) (x1 : Int32) (x2 : Int32) (x3 : Int32) (x4 : Int32) (h : hp_H) : Option (Int32 × hp_H) := (rd_R h x0 10 4).bind fun v1 => (rd_I h v1 1 0).bind fun v2 => if v2 ≤ x4 then (f_X10_run_63 x2 h) else ((rd_R h x0 10 8).bind fun v3 => (rd_R h v3 3 2).bind fun v4 => (f_X2_at v4 x1 h).bind fun r5 => (f_X10_holds r5.1 x4 r5.2).bind fun r6 => if r6.1 = 0 then (f_X10_run_50 k12 x0 x1 x2 x4 0 r6.2) else (f_X10_run_50 k12 x0 x1 x2 x4 (x3 + 1) r6.2))
set_option maxRecDepth 20000 in
theorem w_X10_run_12 (X : wx G p s m args meth c cX10_run 5 RX10 (some .int)) (k12 : Nat → Int32 → Int32 → Int32 → Int32 → hp_H → Option (Int32 × hp_H)) (hk12 : ∀ (x0 : Nat) (x1 : Int32) (x2 : Int32) (x3 : Int32) (x4 : Int32) (h : hp_H), k12 x0 x1 x2 x3 x4 h = some o → wq p l e (mt_R (8) 0 0) s m args below meth c (MQ below (mt_Q G (some (.int o.1)) o.2) args s 0 0 (hp_A G)) G 5 0 0 12 [(0, .ref x0), (1, .int x1), (2, .int x2), (3, .int x3), (4, .int x4)] [] h) (x0 : Nat) (x1 : Int32) (x2 : Int32) (x3 : Int32) (x4 : Int32) (h : hp_H) (hf : f_X10_run_12 k12 x0 x1 x2 x3 x4 h = some o) : wq p l e (mt_R (8) 0 0) s m args below meth c (MQ below (mt_Q G (some (.int o.1)) o.2) args s 0 0 (hp_A G)) G 5 0 0 12 [(0, .ref x0), (1, .int x1), (2, .int x2), (3, .int x3), (4, .int x4)] [] h := by
  unfold f_X10_run_12 at hf
  refine wk_iload X dX10_run_12 4 rfl ?_
  refine wk_aload_n X dX10_run_14 0 rfl ?_
  refine wk_getR X dX10_run_15 fo_X10_31 hf (fun v1 hf => ?_)
  refine wk_getI X dX10_run_18 fo_X10_135 hf (fun v2 hf => ?_)
  refine wk_icmp_ge X 63 dX10_run_21 (by decide) hf (fun hf => ?_) (fun hf => ?_)
  · exact wq_sub [2] rfl (w_X10_run_63 X _ _ hf)
  · refine wk_aload_n X dX10_run_24 0 rfl ?_
    refine wk_getR X dX10_run_25 fo_X10_55 hf (fun v3 hf => ?_)
    refine wk_getR X dX10_run_28 fo_X10_174 hf (fun v4 hf => ?_)
    refine wk_iload_n X dX10_run_31 1 rfl ?_
    refine wk_callVi X [.int x1] [] dX10_run_32 rfl vo_X10_163 rfl (by decide) (Nat.le_of_ble_eq_true rfl) hf (c_X2_at l _ _ _) (fun r5 hf => ?_)
    refine wk_iload X dX10_run_35 4 rfl ?_
    refine wk_callSi X [.int r5.1, .int x4] [] dX10_run_37 rfl vo_X10_250 rfl (by decide) (Nat.le_of_ble_eq_true rfl) hf (c_X10_holds l _ _ _) (fun r6 hf => ?_)
    refine wk_if_eq X 49 dX10_run_40 (by decide) hf (fun hf => ?_) (fun hf => ?_)
    · refine wk_iconst X dX10_run_49 ic_0 ?_
      exact wq_sub [0, 1, 2, 4] rfl (w_X10_run_50 X k12 hk12 _ _ _ _ _ _ hf)
    · refine wk_iload_n X dX10_run_43 3 rfl ?_
      refine wk_iconst X dX10_run_44 ic_1 ?_
      refine wk_iadd X dX10_run_45 ?_
      refine wk_goto X 50 dX10_run_46 (by decide) ?_
      exact wq_sub [0, 1, 2, 4] rfl (w_X10_run_50 X k12 hk12 _ _ _ _ _ _ hf)
def l_X10_run_12 (x0 : Nat) (x1 : Int32) (x2 : Int32) (x3 : Int32) (x4 : Int32) (h : hp_H) : Option (Int32 × hp_H) := lp (fun k (s : Nat × Int32 × Int32 × Int32 × Int32 × hp_H) => f_X10_run_12  (fun a0 a1 a2 a3 a4 a5 => k (a0, a1, a2, a3, a4, a5)) s.1 s.2.1 s.2.2.1 s.2.2.2.1 s.2.2.2.2.1 s.2.2.2.2.2) 100000 (x0, x1, x2, x3, x4, h)
theorem wl_X10_run_12 (X : wx G p s m args meth c cX10_run 5 RX10 (some .int)) (x0 : Nat) (x1 : Int32) (x2 : Int32) (x3 : Int32) (x4 : Int32) (h : hp_H) (hf : l_X10_run_12 x0 x1 x2 x3 x4 h = some o) : wq p l e (mt_R (8) 0 0) s m args below meth c (MQ below (mt_Q G (some (.int o.1)) o.2) args s 0 0 (hp_A G)) G 5 0 0 12 [(0, .ref x0), (1, .int x1), (2, .int x2), (3, .int x3), (4, .int x4)] [] h :=
  lp_ind (P := fun (s_ : Nat × Int32 × Int32 × Int32 × Int32 × hp_H) => wq p l e (mt_R (8) 0 0) s m args below meth c (MQ below (mt_Q G (some (.int o.1)) o.2) args s 0 0 (hp_A G)) G 5 0 0 12 [(0, .ref s_.1), (1, .int s_.2.1), (2, .int s_.2.2.1), (3, .int s_.2.2.2.1), (4, .int s_.2.2.2.2.1)] [] s_.2.2.2.2.2) (fun k s hk hf => w_X10_run_12 X  (fun a0 a1 a2 a3 a4 a5 => k (a0, a1, a2, a3, a4, a5)) (fun a0 a1 a2 a3 a4 a5 hf => hk (a0, a1, a2, a3, a4, a5) hf) s.1 s.2.1 s.2.2.1 s.2.2.2.1 s.2.2.2.2.1 s.2.2.2.2.2 hf) 100000 (x0, x1, x2, x3, x4, h) hf
end Sf_X10_run
def f_X10_run (x0 : Nat) (x1 : Int32) (h : hp_H) : Option (Int32 × hp_H) := gd h x0 10 ((f_X10_needMan x0 x1 h).bind fun r1 => l_X10_run_12 x0 x1 0 0 0 r1)
set_option maxRecDepth 20000 in
theorem c_X10_run (l : Launch) (x0 : Nat) (x1 : Int32) (h : hp_H) (r : Int32 × hp_H) (hf : f_X10_run x0 x1 h = some r) : cv l (8) yX10_run cX10_run 5 (some .int) 10 x0 [.int x1] h (some (.int r.1)) r.2 := by
  unfold f_X10_run at hf
  refine cv_of (lv := [(0, .ref x0), (1, .int x1)]) hf (by decide +kernel) (Nat.le_of_ble_eq_true rfl) rfl (fun hf p e s m args below meth c G X => ?_)
  refine wk_aload_n X dX10_run_0 0 rfl ?_
  refine wk_iload_n X dX10_run_1 1 rfl ?_
  refine wk_callVv X [.int x1] [] dX10_run_2 rfl vo_X10_171 rfl (by decide) (Nat.le_of_ble_eq_true rfl) hf (c_X10_needMan l _ _ _) (fun r1 hf => ?_)
  refine wk_iconst X dX10_run_5 ic_0 ?_
  refine wk_istore_n (lv' := [(2, .int 0), (0, .ref x0), (1, .int x1)]) X dX10_run_6 (by decide) rfl ?_
  refine wk_iconst X dX10_run_7 ic_0 ?_
  refine wk_istore_n (lv' := [(3, .int 0), (2, .int 0), (0, .ref x0), (1, .int x1)]) X dX10_run_8 (by decide) rfl ?_
  refine wk_iconst X dX10_run_9 ic_0 ?_
  refine wk_istore (lv' := [(4, .int 0), (3, .int 0), (2, .int 0), (0, .ref x0), (1, .int x1)]) X dX10_run_10 (by decide) rfl ?_
  exact wq_sub [3, 4, 2, 1, 0] rfl (wl_X10_run_12 X _ _ _ _ _ _ hf)
section Sg_X10_run
variable {p : Program} {l : Launch} {e : Env} {s : State} {m : MethodId} {args : Array Value} {below : List Frame} {meth : Method} {c : Code} {G : hp_G} {o : Nat × hp_H}
end Sg_X10_run
def g_X10_run (x0 : Nat) (x1 : Int32) (h : hp_H) : Option (Nat × hp_H) := gd h x0 10 (xb (g_X10_needMan x0 x1 h) (f_X10_needMan x0 x1 h) fun r1 => none)
set_option maxRecDepth 20000 in
theorem x_X10_run (l : Launch) (hl : l.stackTraces = false) (x0 : Nat) (x1 : Int32) (h : hp_H) (r : Nat × hp_H) (hf : g_X10_run x0 x1 h = some r) : cvx l (8) yX10_run cX10_run 5 (some .int) 10 x0 [.int x1] h r.1 r.2 := by
  unfold g_X10_run at hf
  refine cvx_of (lv := [(0, .ref x0), (1, .int x1)]) hf (by decide +kernel) (Nat.le_of_ble_eq_true rfl) rfl (fun hf p e s m args below meth c G hT X => ?_)
  refine wk_aload_n X dX10_run_0 0 rfl ?_
  refine wk_iload_n X dX10_run_1 1 rfl ?_
  refine wk_callVxv X hT [.int x1] [] dX10_run_2 rfl vo_X10_171 rfl (by decide) (Nat.le_of_ble_eq_true rfl) hf (x_X10_needMan l hl _ _ _) (c_X10_needMan l _ _ _) (fun r1 hf => ?_)
  exact nomatch hf
section Sf_X10_see
variable {p : Program} {l : Launch} {e : Env} {s : State} {m : MethodId} {args : Array Value} {below : List Frame} {meth : Method} {c : Code} {G : hp_G} {o : Int32 × hp_H}
def f_X10_see_36 (x0 : Nat) (h : hp_H) : Option (Int32 × hp_H) := (f_X10_refuse x0 2 h).bind fun r1 => some ((-1), r1)
set_option maxRecDepth 20000 in
theorem w_X10_see_36 (X : wx G p s m args meth c cX10_see 5 RX10 (some .int)) (x0 : Nat) (h : hp_H) (hf : f_X10_see_36 x0 h = some o) : wq p l e (mt_R (8) 0 0) s m args below meth c (MQ below (mt_Q G (some (.int o.1)) o.2) args s 0 0 (hp_A G)) G 5 0 0 36 [(0, .ref x0)] [] h := by
  unfold f_X10_see_36 at hf
  refine wk_aload_n X dX10_see_36 0 rfl ?_
  refine wk_iconst X dX10_see_37 ic_2 ?_
  refine wk_callVv X [.int 2] [] dX10_see_38 rfl vo_X10_106 rfl (by decide) (Nat.le_of_ble_eq_true rfl) hf (c_X10_refuse l _ _ _) (fun r1 hf => ?_)
  refine wk_iconst X dX10_see_41 ic_m1 ?_
  exact wk_ireturn X dX10_see_42 hf
def f_X10_see_63 (t0 : Nat) (t1 : Int32) (t2 : Int32) (t3 : Int32) (t4 : Int32) (h : hp_H) : Option (Int32 × hp_H) := (f_X7_keep t0 t1 t2 t3 t4 h).bind fun r1 => some (r1.1, r1.2)
set_option maxRecDepth 20000 in
theorem w_X10_see_63 (X : wx G p s m args meth c cX10_see 5 RX10 (some .int)) (t0 : Nat) (t1 : Int32) (t2 : Int32) (t3 : Int32) (t4 : Int32) (h : hp_H) (hf : f_X10_see_63 t0 t1 t2 t3 t4 h = some o) : wq p l e (mt_R (8) 0 0) s m args below meth c (MQ below (mt_Q G (some (.int o.1)) o.2) args s 0 0 (hp_A G)) G 5 0 0 63 [] [.int t4, .int t3, .int t2, .int t1, .ref t0] h := by
  unfold f_X10_see_63 at hf
  refine wk_callVi X [.int t1, .int t2, .int t3, .int t4] [] dX10_see_63 rfl vo_X10_288 rfl (by decide) (Nat.le_of_ble_eq_true rfl) hf (c_X7_keep l _ _ _ _ _ _) (fun r1 hf => ?_)
  exact wk_ireturn X dX10_see_66 hf
end Sf_X10_see
def f_X10_see (x0 : Nat) (x1 : Int32) (x2 : Int32) (x3 : Int32) (x4 : Int32) (h : hp_H) : Option (Int32 × hp_H) := gd h x0 10 ((f_X10_needRow x0 x1 h).bind fun r1 => (f_X10_needBeat x0 x3 r1).bind fun r2 => (rd_R r2 x0 10 5).bind fun v3 => (rd_R r2 v3 8 2).bind fun v4 => (rd_I r2 v4 7 4).bind fun v5 => if 8 ≤ v5 then (f_X10_see_36 x0 r2) else (if x2 < 1 then (f_X10_see_36 x0 r2) else (if x2 ≤ 12 then ((rd_R r2 x0 10 5).bind fun v6 => (rd_R r2 v6 8 2).bind fun v7 => if x4 = 0 then (f_X10_see_63 v7 x1 x2 x3 0 r2) else (f_X10_see_63 v7 x1 x2 x3 1 r2)) else (f_X10_see_36 x0 r2))))
set_option maxRecDepth 20000 in
theorem c_X10_see (l : Launch) (x0 : Nat) (x1 : Int32) (x2 : Int32) (x3 : Int32) (x4 : Int32) (h : hp_H) (r : Int32 × hp_H) (hf : f_X10_see x0 x1 x2 x3 x4 h = some r) : cv l (8) yX10_see cX10_see 5 (some .int) 10 x0 [.int x1, .int x2, .int x3, .int x4] h (some (.int r.1)) r.2 := by
  unfold f_X10_see at hf
  refine cv_of (lv := [(0, .ref x0), (1, .int x1), (2, .int x2), (3, .int x3), (4, .int x4)]) hf (by decide +kernel) (Nat.le_of_ble_eq_true rfl) rfl (fun hf p e s m args below meth c G X => ?_)
  refine wk_aload_n X dX10_see_0 0 rfl ?_
  refine wk_iload_n X dX10_see_1 1 rfl ?_
  refine wk_callVv X [.int x1] [] dX10_see_2 rfl vo_X10_188 rfl (by decide) (Nat.le_of_ble_eq_true rfl) hf (c_X10_needRow l _ _ _) (fun r1 hf => ?_)
  refine wk_aload_n X dX10_see_5 0 rfl ?_
  refine wk_iload_n X dX10_see_6 3 rfl ?_
  refine wk_callVv X [.int x3] [] dX10_see_7 rfl vo_X10_218 rfl (by decide) (Nat.le_of_ble_eq_true rfl) hf (c_X10_needBeat l _ _ _) (fun r2 hf => ?_)
  refine wk_aload_n X dX10_see_10 0 rfl ?_
  refine wk_getR X dX10_see_11 fo_X10_40 hf (fun v3 hf => ?_)
  refine wk_getR X dX10_see_14 fo_X10_128 hf (fun v4 hf => ?_)
  refine wk_getI X dX10_see_17 fo_X10_132 hf (fun v5 hf => ?_)
  refine wk_bipush X dX10_see_20 ib_8 ?_
  refine wk_icmp_ge X 36 dX10_see_22 (by decide) hf (fun hf => ?_) (fun hf => ?_)
  · exact wq_sub [0] rfl (w_X10_see_36 X _ _ hf)
  · refine wk_iload_n X dX10_see_25 2 rfl ?_
    refine wk_iconst X dX10_see_26 ic_1 ?_
    refine wk_icmp_lt X 36 dX10_see_27 (by decide) hf (fun hf => ?_) (fun hf => ?_)
    · exact wq_sub [0] rfl (w_X10_see_36 X _ _ hf)
    · refine wk_iload_n X dX10_see_30 2 rfl ?_
      refine wk_bipush X dX10_see_31 ib_12 ?_
      refine wk_icmp_le X 43 dX10_see_33 (by decide) hf (fun hf => ?_) (fun hf => ?_)
      · refine wk_aload_n X dX10_see_43 0 rfl ?_
        refine wk_getR X dX10_see_44 fo_X10_40 hf (fun v6 hf => ?_)
        refine wk_getR X dX10_see_47 fo_X10_128 hf (fun v7 hf => ?_)
        refine wk_iload_n X dX10_see_50 1 rfl ?_
        refine wk_iload_n X dX10_see_51 2 rfl ?_
        refine wk_iload_n X dX10_see_52 3 rfl ?_
        refine wk_iload X dX10_see_53 4 rfl ?_
        refine wk_if_eq X 62 dX10_see_55 (by decide) hf (fun hf => ?_) (fun hf => ?_)
        · refine wk_iconst X dX10_see_62 ic_0 ?_
          exact wq_sub [] rfl (w_X10_see_63 X _ _ _ _ _ _ hf)
        · refine wk_iconst X dX10_see_58 ic_1 ?_
          refine wk_goto X 63 dX10_see_59 (by decide) ?_
          exact wq_sub [] rfl (w_X10_see_63 X _ _ _ _ _ _ hf)
      · exact wq_sub [0] rfl (w_X10_see_36 X _ _ hf)
section Sg_X10_see
variable {p : Program} {l : Launch} {e : Env} {s : State} {m : MethodId} {args : Array Value} {below : List Frame} {meth : Method} {c : Code} {G : hp_G} {o : Nat × hp_H}
end Sg_X10_see
def g_X10_see (x0 : Nat) (x1 : Int32) (x2 : Int32) (x3 : Int32) (x4 : Int32) (h : hp_H) : Option (Nat × hp_H) := gd h x0 10 (xb (g_X10_needRow x0 x1 h) (f_X10_needRow x0 x1 h) fun r1 => xb (g_X10_needBeat x0 x3 r1) (f_X10_needBeat x0 x3 r1) fun r2 => none)
set_option maxRecDepth 20000 in
theorem x_X10_see (l : Launch) (hl : l.stackTraces = false) (x0 : Nat) (x1 : Int32) (x2 : Int32) (x3 : Int32) (x4 : Int32) (h : hp_H) (r : Nat × hp_H) (hf : g_X10_see x0 x1 x2 x3 x4 h = some r) : cvx l (8) yX10_see cX10_see 5 (some .int) 10 x0 [.int x1, .int x2, .int x3, .int x4] h r.1 r.2 := by
  unfold g_X10_see at hf
  refine cvx_of (lv := [(0, .ref x0), (1, .int x1), (2, .int x2), (3, .int x3), (4, .int x4)]) hf (by decide +kernel) (Nat.le_of_ble_eq_true rfl) rfl (fun hf p e s m args below meth c G hT X => ?_)
  refine wk_aload_n X dX10_see_0 0 rfl ?_
  refine wk_iload_n X dX10_see_1 1 rfl ?_
  refine wk_callVxv X hT [.int x1] [] dX10_see_2 rfl vo_X10_188 rfl (by decide) (Nat.le_of_ble_eq_true rfl) hf (x_X10_needRow l hl _ _ _) (c_X10_needRow l _ _ _) (fun r1 hf => ?_)
  refine wk_aload_n X dX10_see_5 0 rfl ?_
  refine wk_iload_n X dX10_see_6 3 rfl ?_
  refine wk_callVxv X hT [.int x3] [] dX10_see_7 rfl vo_X10_218 rfl (by decide) (Nat.le_of_ble_eq_true rfl) hf (x_X10_needBeat l hl _ _ _) (c_X10_needBeat l _ _ _) (fun r2 hf => ?_)
  exact nomatch hf
section Sf_X10_spoilt
variable {p : Program} {l : Launch} {e : Env} {s : State} {m : MethodId} {args : Array Value} {below : List Frame} {meth : Method} {c : Code} {G : hp_G} {o : Int32 × hp_H}
end Sf_X10_spoilt
def f_X10_spoilt (x0 : Nat) (x1 : Int32) (h : hp_H) : Option (Int32 × hp_H) := gd h x0 10 ((f_X10_needMan x0 x1 h).bind fun r1 => (rd_R r1 x0 10 9).bind fun v2 => (rd_R r1 x0 10 8).bind fun v3 => (f_X3_copyFrom v2 v3 r1).bind fun r4 => (rd_R r4 x0 10 9).bind fun v5 => (f_X3_place v5 x1 (-1) r4).bind fun r6 => (rd_R r6 x0 10 9).bind fun v7 => (f_X3_rightRows v7 0 r6).bind fun r8 => (rd_R r8.2 x0 10 8).bind fun v9 => (f_X3_rightRows v9 0 r8.2).bind fun r10 => some (r8.1 - r10.1, r10.2))
set_option maxRecDepth 20000 in
theorem c_X10_spoilt (l : Launch) (x0 : Nat) (x1 : Int32) (h : hp_H) (r : Int32 × hp_H) (hf : f_X10_spoilt x0 x1 h = some r) : cv l (8) yX10_spoilt cX10_spoilt 2 (some .int) 10 x0 [.int x1] h (some (.int r.1)) r.2 := by
  unfold f_X10_spoilt at hf
  refine cv_of (lv := [(0, .ref x0), (1, .int x1)]) hf (by decide +kernel) (Nat.le_of_ble_eq_true rfl) rfl (fun hf p e s m args below meth c G X => ?_)
  refine wk_aload_n X dX10_spoilt_0 0 rfl ?_
  refine wk_iload_n X dX10_spoilt_1 1 rfl ?_
  refine wk_callVv X [.int x1] [] dX10_spoilt_2 rfl vo_X10_171 rfl (by decide) (Nat.le_of_ble_eq_true rfl) hf (c_X10_needMan l _ _ _) (fun r1 hf => ?_)
  refine wk_aload_n X dX10_spoilt_5 0 rfl ?_
  refine wk_getR X dX10_spoilt_6 fo_X10_59 hf (fun v2 hf => ?_)
  refine wk_aload_n X dX10_spoilt_9 0 rfl ?_
  refine wk_getR X dX10_spoilt_10 fo_X10_55 hf (fun v3 hf => ?_)
  refine wk_callVv X [.ref v3] [] dX10_spoilt_13 rfl vo_X10_116 rfl (by decide) (Nat.le_of_ble_eq_true rfl) hf (c_X3_copyFrom l _ _ _) (fun r4 hf => ?_)
  refine wk_aload_n X dX10_spoilt_16 0 rfl ?_
  refine wk_getR X dX10_spoilt_17 fo_X10_59 hf (fun v5 hf => ?_)
  refine wk_iload_n X dX10_spoilt_20 1 rfl ?_
  refine wk_iconst X dX10_spoilt_21 ic_m1 ?_
  refine wk_callVv X [.int x1, .int (-1)] [] dX10_spoilt_22 rfl vo_X10_214 rfl (by decide) (Nat.le_of_ble_eq_true rfl) hf (c_X3_place l _ _ _ _) (fun r6 hf => ?_)
  refine wk_aload_n X dX10_spoilt_25 0 rfl ?_
  refine wk_getR X dX10_spoilt_26 fo_X10_59 hf (fun v7 hf => ?_)
  refine wk_iconst X dX10_spoilt_29 ic_0 ?_
  refine wk_callVi X [.int 0] [] dX10_spoilt_30 rfl vo_X10_341 rfl (by decide) (Nat.le_of_ble_eq_true rfl) hf (c_X3_rightRows l _ _ _) (fun r8 hf => ?_)
  refine wk_aload_n X dX10_spoilt_33 0 rfl ?_
  refine wk_getR X dX10_spoilt_34 fo_X10_55 hf (fun v9 hf => ?_)
  refine wk_iconst X dX10_spoilt_37 ic_0 ?_
  refine wk_callVi X [.int 0] [.int r8.1] dX10_spoilt_38 rfl vo_X10_341 rfl (by decide) (Nat.le_of_ble_eq_true rfl) hf (c_X3_rightRows l _ _ _) (fun r10 hf => ?_)
  refine wk_isub X dX10_spoilt_41 ?_
  exact wk_ireturn X dX10_spoilt_42 hf
section Sg_X10_spoilt
variable {p : Program} {l : Launch} {e : Env} {s : State} {m : MethodId} {args : Array Value} {below : List Frame} {meth : Method} {c : Code} {G : hp_G} {o : Nat × hp_H}
end Sg_X10_spoilt
def g_X10_spoilt (x0 : Nat) (x1 : Int32) (h : hp_H) : Option (Nat × hp_H) := gd h x0 10 (xb (g_X10_needMan x0 x1 h) (f_X10_needMan x0 x1 h) fun r1 => none)
set_option maxRecDepth 20000 in
theorem x_X10_spoilt (l : Launch) (hl : l.stackTraces = false) (x0 : Nat) (x1 : Int32) (h : hp_H) (r : Nat × hp_H) (hf : g_X10_spoilt x0 x1 h = some r) : cvx l (8) yX10_spoilt cX10_spoilt 2 (some .int) 10 x0 [.int x1] h r.1 r.2 := by
  unfold g_X10_spoilt at hf
  refine cvx_of (lv := [(0, .ref x0), (1, .int x1)]) hf (by decide +kernel) (Nat.le_of_ble_eq_true rfl) rfl (fun hf p e s m args below meth c G hT X => ?_)
  refine wk_aload_n X dX10_spoilt_0 0 rfl ?_
  refine wk_iload_n X dX10_spoilt_1 1 rfl ?_
  refine wk_callVxv X hT [.int x1] [] dX10_spoilt_2 rfl vo_X10_171 rfl (by decide) (Nat.le_of_ble_eq_true rfl) hf (x_X10_needMan l hl _ _ _) (c_X10_needMan l _ _ _) (fun r1 hf => ?_)
  exact nomatch hf
section Sf_X10_then
variable {p : Program} {l : Launch} {e : Env} {s : State} {m : MethodId} {args : Array Value} {below : List Frame} {meth : Method} {c : Code} {G : hp_G} {o : Int32 × hp_H}
def f_X10_then_50 (t0 : Int32) (h : hp_H) : Option (Int32 × hp_H) := some (t0, h)
set_option maxRecDepth 20000 in
theorem w_X10_then_50 (X : wx G p s m args meth c cX10_then 4 RX10 (some .int)) (t0 : Int32) (h : hp_H) (hf : f_X10_then_50 t0 h = some o) : wq p l e (mt_R (8) 0 0) s m args below meth c (MQ below (mt_Q G (some (.int o.1)) o.2) args s 0 0 (hp_A G)) G 4 0 0 50 [] [.int t0] h := by
  unfold f_X10_then_50 at hf
  exact wk_ireturn X dX10_then_50 hf
end Sf_X10_then
def f_X10_then (x0 : Nat) (x1 : Int32) (x2 : Int32) (x3 : Int32) (h : hp_H) : Option (Int32 × hp_H) := gd h x0 10 ((f_X10_needRow x0 x1 h).bind fun r1 => (f_X10_needWhat x3 1 r1).bind fun r2 => (f_X10_needWithin x2 0 40 r2).bind fun r3 => if x3 = 0 then ((rd_R r3 x0 10 8).bind fun v8 => (f_X3_heardAt v8 x1 x2 r3).bind fun r9 => f_X10_then_50 r9.1 r9.2) else ((rd_R r3 x0 10 8).bind fun v4 => (rd_R r3 x0 10 8).bind fun v5 => (f_X3_mudIn v5 x2 r3).bind fun r6 => (f_X3_namedAt v4 x1 x2 r6.1 r6.2).bind fun r7 => f_X10_then_50 r7.1 r7.2))
set_option maxRecDepth 20000 in
theorem c_X10_then (l : Launch) (x0 : Nat) (x1 : Int32) (x2 : Int32) (x3 : Int32) (h : hp_H) (r : Int32 × hp_H) (hf : f_X10_then x0 x1 x2 x3 h = some r) : cv l (8) yX10_then cX10_then 4 (some .int) 10 x0 [.int x1, .int x2, .int x3] h (some (.int r.1)) r.2 := by
  unfold f_X10_then at hf
  refine cv_of (lv := [(0, .ref x0), (1, .int x1), (2, .int x2), (3, .int x3)]) hf (by decide +kernel) (Nat.le_of_ble_eq_true rfl) rfl (fun hf p e s m args below meth c G X => ?_)
  refine wk_aload_n X dX10_then_0 0 rfl ?_
  refine wk_iload_n X dX10_then_1 1 rfl ?_
  refine wk_callVv X [.int x1] [] dX10_then_2 rfl vo_X10_188 rfl (by decide) (Nat.le_of_ble_eq_true rfl) hf (c_X10_needRow l _ _ _) (fun r1 hf => ?_)
  refine wk_iload_n X dX10_then_5 3 rfl ?_
  refine wk_iconst X dX10_then_6 ic_1 ?_
  refine wk_callSv X [.int x3, .int 1] [] dX10_then_7 rfl vo_X10_234 rfl (by decide) (Nat.le_of_ble_eq_true rfl) hf (c_X10_needWhat l _ _ _) (fun r2 hf => ?_)
  refine wk_iload_n X dX10_then_10 2 rfl ?_
  refine wk_iconst X dX10_then_11 ic_0 ?_
  refine wk_bipush X dX10_then_12 ib_40 ?_
  refine wk_callSv X [.int x2, .int 0, .int 40] [] dX10_then_14 rfl vo_X10_237 rfl (by decide) (Nat.le_of_ble_eq_true rfl) hf (c_X10_needWithin l _ _ _ _) (fun r3 hf => ?_)
  refine wk_iload_n X dX10_then_17 3 rfl ?_
  refine wk_if_ne X 33 dX10_then_18 (by decide) hf (fun hf => ?_) (fun hf => ?_)
  · refine wk_aload_n X dX10_then_33 0 rfl ?_
    refine wk_getR X dX10_then_34 fo_X10_55 hf (fun v4 hf => ?_)
    refine wk_iload_n X dX10_then_37 1 rfl ?_
    refine wk_iload_n X dX10_then_38 2 rfl ?_
    refine wk_aload_n X dX10_then_39 0 rfl ?_
    refine wk_getR X dX10_then_40 fo_X10_55 hf (fun v5 hf => ?_)
    refine wk_iload_n X dX10_then_43 2 rfl ?_
    refine wk_callVi X [.int x2] [.int x2, .int x1, .ref v4] dX10_then_44 rfl vo_X10_150 rfl (by decide) (Nat.le_of_ble_eq_true rfl) hf (c_X3_mudIn l _ _ _) (fun r6 hf => ?_)
    refine wk_callVi X [.int x1, .int x2, .int r6.1] [] dX10_then_47 rfl vo_X10_197 rfl (by decide) (Nat.le_of_ble_eq_true rfl) hf (c_X3_namedAt l _ _ _ _ _) (fun r7 hf => ?_)
    exact wq_sub [] rfl (w_X10_then_50 X _ _ hf)
  · refine wk_aload_n X dX10_then_21 0 rfl ?_
    refine wk_getR X dX10_then_22 fo_X10_55 hf (fun v8 hf => ?_)
    refine wk_iload_n X dX10_then_25 1 rfl ?_
    refine wk_iload_n X dX10_then_26 2 rfl ?_
    refine wk_callVi X [.int x1, .int x2] [] dX10_then_27 rfl vo_X10_193 rfl (by decide) (Nat.le_of_ble_eq_true rfl) hf (c_X3_heardAt l _ _ _ _) (fun r9 hf => ?_)
    refine wk_goto X 50 dX10_then_30 (by decide) ?_
    exact wq_sub [] rfl (w_X10_then_50 X _ _ hf)
section Sg_X10_then
variable {p : Program} {l : Launch} {e : Env} {s : State} {m : MethodId} {args : Array Value} {below : List Frame} {meth : Method} {c : Code} {G : hp_G} {o : Nat × hp_H}
end Sg_X10_then
def g_X10_then (x0 : Nat) (x1 : Int32) (x2 : Int32) (x3 : Int32) (h : hp_H) : Option (Nat × hp_H) := gd h x0 10 (xb (g_X10_needRow x0 x1 h) (f_X10_needRow x0 x1 h) fun r1 => xb (g_X10_needWhat x3 1 r1) (f_X10_needWhat x3 1 r1) fun r2 => xb (g_X10_needWithin x2 0 40 r2) (f_X10_needWithin x2 0 40 r2) fun r3 => none)
set_option maxRecDepth 20000 in
theorem x_X10_then (l : Launch) (hl : l.stackTraces = false) (x0 : Nat) (x1 : Int32) (x2 : Int32) (x3 : Int32) (h : hp_H) (r : Nat × hp_H) (hf : g_X10_then x0 x1 x2 x3 h = some r) : cvx l (8) yX10_then cX10_then 4 (some .int) 10 x0 [.int x1, .int x2, .int x3] h r.1 r.2 := by
  unfold g_X10_then at hf
  refine cvx_of (lv := [(0, .ref x0), (1, .int x1), (2, .int x2), (3, .int x3)]) hf (by decide +kernel) (Nat.le_of_ble_eq_true rfl) rfl (fun hf p e s m args below meth c G hT X => ?_)
  refine wk_aload_n X dX10_then_0 0 rfl ?_
  refine wk_iload_n X dX10_then_1 1 rfl ?_
  refine wk_callVxv X hT [.int x1] [] dX10_then_2 rfl vo_X10_188 rfl (by decide) (Nat.le_of_ble_eq_true rfl) hf (x_X10_needRow l hl _ _ _) (c_X10_needRow l _ _ _) (fun r1 hf => ?_)
  refine wk_iload_n X dX10_then_5 3 rfl ?_
  refine wk_iconst X dX10_then_6 ic_1 ?_
  refine wk_callSxv X hT [.int x3, .int 1] [] dX10_then_7 rfl vo_X10_234 rfl (by decide) (Nat.le_of_ble_eq_true rfl) hf (x_X10_needWhat l hl _ _ _) (c_X10_needWhat l _ _ _) (fun r2 hf => ?_)
  refine wk_iload_n X dX10_then_10 2 rfl ?_
  refine wk_iconst X dX10_then_11 ic_0 ?_
  refine wk_bipush X dX10_then_12 ib_40 ?_
  refine wk_callSxv X hT [.int x2, .int 0, .int 40] [] dX10_then_14 rfl vo_X10_237 rfl (by decide) (Nat.le_of_ble_eq_true rfl) hf (x_X10_needWithin l hl _ _ _ _) (c_X10_needWithin l _ _ _ _) (fun r3 hf => ?_)
  exact nomatch hf
section Sf_X10_toSock
variable {p : Program} {l : Launch} {e : Env} {s : State} {m : MethodId} {args : Array Value} {below : List Frame} {meth : Method} {c : Code} {G : hp_G} {o : Int32 × hp_H}
def f_X10_toSock_78  (h : hp_H) : Option (Int32 × hp_H) := some ((-1), h)
set_option maxRecDepth 20000 in
theorem w_X10_toSock_78 (X : wx G p s m args meth c cX10_toSock 3 RX10 (some .int))  (h : hp_H) (hf : f_X10_toSock_78 h = some o) : wq p l e (mt_R (8) 0 0) s m args below meth c (MQ below (mt_Q G (some (.int o.1)) o.2) args s 0 0 (hp_A G)) G 3 0 0 78 [] [] h := by
  unfold f_X10_toSock_78 at hf
  refine wk_iconst X dX10_toSock_78 ic_m1 ?_
  exact wk_ireturn X dX10_toSock_79 hf
def f_X10_toSock_70 (x2 : Int32) (h : hp_H) : Option (Int32 × hp_H) := some (x2, h)
set_option maxRecDepth 20000 in
theorem w_X10_toSock_70 (X : wx G p s m args meth c cX10_toSock 3 RX10 (some .int)) (x2 : Int32) (h : hp_H) (hf : f_X10_toSock_70 x2 h = some o) : wq p l e (mt_R (8) 0 0) s m args below meth c (MQ below (mt_Q G (some (.int o.1)) o.2) args s 0 0 (hp_A G)) G 3 0 0 70 [(2, .int x2)] [] h := by
  unfold f_X10_toSock_70 at hf
  refine wk_iload_n X dX10_toSock_70 0 rfl ?_
  exact wk_ireturn X dX10_toSock_71 hf
def f_X10_toSock_33 (k33 : Nat → Int32 → Int32 → hp_H → Option (Int32 × hp_H)) (x0 : Nat) (x1 : Int32) (x2 : Int32) (h : hp_H) : Option (Int32 × hp_H) := if x2 < 1 then (f_X10_toSock_78 h) else ((rd_R h x0 10 9).bind fun v1 => (rd_R h v1 3 3).bind fun v2 => (f_X2_set v2 x1 x2 h).bind fun r3 => (rd_R r3 x0 10 9).bind fun v4 => (rd_R r3 x0 10 9).bind fun v5 => (f_X3_mudIn v5 0 r3).bind fun r6 => (f_X3_timesNamed v4 x1 0 r6.1 r6.2).bind fun r7 => if r7.1 = 0 then (f_X10_toSock_70 x2 r7.2) else (k33 x0 x1 (x2 + (-1)) r7.2))
set_option maxRecDepth 20000 in
theorem w_X10_toSock_33 (X : wx G p s m args meth c cX10_toSock 3 RX10 (some .int)) (k33 : Nat → Int32 → Int32 → hp_H → Option (Int32 × hp_H)) (hk33 : ∀ (x0 : Nat) (x1 : Int32) (x2 : Int32) (h : hp_H), k33 x0 x1 x2 h = some o → wq p l e (mt_R (8) 0 0) s m args below meth c (MQ below (mt_Q G (some (.int o.1)) o.2) args s 0 0 (hp_A G)) G 3 0 0 33 [(0, .ref x0), (1, .int x1), (2, .int x2)] [] h) (x0 : Nat) (x1 : Int32) (x2 : Int32) (h : hp_H) (hf : f_X10_toSock_33 k33 x0 x1 x2 h = some o) : wq p l e (mt_R (8) 0 0) s m args below meth c (MQ below (mt_Q G (some (.int o.1)) o.2) args s 0 0 (hp_A G)) G 3 0 0 33 [(0, .ref x0), (1, .int x1), (2, .int x2)] [] h := by
  unfold f_X10_toSock_33 at hf
  refine wk_iload_n X dX10_toSock_33 2 rfl ?_
  refine wk_iconst X dX10_toSock_34 ic_1 ?_
  refine wk_icmp_lt X 78 dX10_toSock_35 (by decide) hf (fun hf => ?_) (fun hf => ?_)
  · exact wq_sub [] rfl (w_X10_toSock_78 X _ hf)
  · refine wk_aload_n X dX10_toSock_38 0 rfl ?_
    refine wk_getR X dX10_toSock_39 fo_X10_59 hf (fun v1 hf => ?_)
    refine wk_getR X dX10_toSock_42 fo_X10_177 hf (fun v2 hf => ?_)
    refine wk_iload_n X dX10_toSock_45 1 rfl ?_
    refine wk_iload_n X dX10_toSock_46 2 rfl ?_
    refine wk_callVv X [.int x1, .int x2] [] dX10_toSock_47 rfl vo_X10_224 rfl (by decide) (Nat.le_of_ble_eq_true rfl) hf (c_X2_set l _ _ _ _) (fun r3 hf => ?_)
    refine wk_aload_n X dX10_toSock_50 0 rfl ?_
    refine wk_getR X dX10_toSock_51 fo_X10_59 hf (fun v4 hf => ?_)
    refine wk_iload_n X dX10_toSock_54 1 rfl ?_
    refine wk_iconst X dX10_toSock_55 ic_0 ?_
    refine wk_aload_n X dX10_toSock_56 0 rfl ?_
    refine wk_getR X dX10_toSock_57 fo_X10_59 hf (fun v5 hf => ?_)
    refine wk_iconst X dX10_toSock_60 ic_0 ?_
    refine wk_callVi X [.int 0] [.int 0, .int x1, .ref v4] dX10_toSock_61 rfl vo_X10_150 rfl (by decide) (Nat.le_of_ble_eq_true rfl) hf (c_X3_mudIn l _ _ _) (fun r6 hf => ?_)
    refine wk_callVi X [.int x1, .int 0, .int r6.1] [] dX10_toSock_64 rfl vo_X10_244 rfl (by decide) (Nat.le_of_ble_eq_true rfl) hf (c_X3_timesNamed l _ _ _ _ _) (fun r7 hf => ?_)
    refine wk_if_ne X 72 dX10_toSock_67 (by decide) hf (fun hf => ?_) (fun hf => ?_)
    · refine wk_iinc (lv' := [(2, .int (x2 + (-1))), (0, .ref x0), (1, .int x1)]) X dX10_toSock_72 2 rfl ic_m1 (by decide) rfl ?_
      refine wk_goto X 33 dX10_toSock_75 (by decide) ?_
      exact wq_sub [1, 2, 0] rfl (hk33 _ _ _ _ hf)
    · exact wq_sub [2] rfl (w_X10_toSock_70 X _ _ hf)
def l_X10_toSock_33 (x0 : Nat) (x1 : Int32) (x2 : Int32) (h : hp_H) : Option (Int32 × hp_H) := lp (fun k (s : Nat × Int32 × Int32 × hp_H) => f_X10_toSock_33  (fun a0 a1 a2 a3 => k (a0, a1, a2, a3)) s.1 s.2.1 s.2.2.1 s.2.2.2) 100000 (x0, x1, x2, h)
theorem wl_X10_toSock_33 (X : wx G p s m args meth c cX10_toSock 3 RX10 (some .int)) (x0 : Nat) (x1 : Int32) (x2 : Int32) (h : hp_H) (hf : l_X10_toSock_33 x0 x1 x2 h = some o) : wq p l e (mt_R (8) 0 0) s m args below meth c (MQ below (mt_Q G (some (.int o.1)) o.2) args s 0 0 (hp_A G)) G 3 0 0 33 [(0, .ref x0), (1, .int x1), (2, .int x2)] [] h :=
  lp_ind (P := fun (s_ : Nat × Int32 × Int32 × hp_H) => wq p l e (mt_R (8) 0 0) s m args below meth c (MQ below (mt_Q G (some (.int o.1)) o.2) args s 0 0 (hp_A G)) G 3 0 0 33 [(0, .ref s_.1), (1, .int s_.2.1), (2, .int s_.2.2.1)] [] s_.2.2.2) (fun k s hk hf => w_X10_toSock_33 X  (fun a0 a1 a2 a3 => k (a0, a1, a2, a3)) (fun a0 a1 a2 a3 hf => hk (a0, a1, a2, a3) hf) s.1 s.2.1 s.2.2.1 s.2.2.2 hf) 100000 (x0, x1, x2, h) hf
end Sf_X10_toSock
def f_X10_toSock (x0 : Nat) (x1 : Int32) (h : hp_H) : Option (Int32 × hp_H) := gd h x0 10 ((f_X10_needMan x0 x1 h).bind fun r1 => (rd_R r1 x0 10 8).bind fun v2 => (f_X3_rowOf v2 x1 r1).bind fun r3 => if r3.1 = (-1) then (some ((-1), r3.2)) else ((rd_R r3.2 x0 10 9).bind fun v4 => (rd_R r3.2 x0 10 8).bind fun v5 => (f_X3_copyFrom v4 v5 r3.2).bind fun r6 => l_X10_toSock_33 x0 x1 9 r6))
set_option maxRecDepth 20000 in
theorem c_X10_toSock (l : Launch) (x0 : Nat) (x1 : Int32) (h : hp_H) (r : Int32 × hp_H) (hf : f_X10_toSock x0 x1 h = some r) : cv l (8) yX10_toSock cX10_toSock 3 (some .int) 10 x0 [.int x1] h (some (.int r.1)) r.2 := by
  unfold f_X10_toSock at hf
  refine cv_of (lv := [(0, .ref x0), (1, .int x1)]) hf (by decide +kernel) (Nat.le_of_ble_eq_true rfl) rfl (fun hf p e s m args below meth c G X => ?_)
  refine wk_aload_n X dX10_toSock_0 0 rfl ?_
  refine wk_iload_n X dX10_toSock_1 1 rfl ?_
  refine wk_callVv X [.int x1] [] dX10_toSock_2 rfl vo_X10_171 rfl (by decide) (Nat.le_of_ble_eq_true rfl) hf (c_X10_needMan l _ _ _) (fun r1 hf => ?_)
  refine wk_aload_n X dX10_toSock_5 0 rfl ?_
  refine wk_getR X dX10_toSock_6 fo_X10_55 hf (fun v2 hf => ?_)
  refine wk_iload_n X dX10_toSock_9 1 rfl ?_
  refine wk_callVi X [.int x1] [] dX10_toSock_10 rfl vo_X10_183 rfl (by decide) (Nat.le_of_ble_eq_true rfl) hf (c_X3_rowOf l _ _ _) (fun r3 hf => ?_)
  refine wk_iconst X dX10_toSock_13 ic_m1 ?_
  refine wk_icmp_ne X 19 dX10_toSock_14 (by decide) hf (fun hf => ?_) (fun hf => ?_)
  · refine wk_aload_n X dX10_toSock_19 0 rfl ?_
    refine wk_getR X dX10_toSock_20 fo_X10_59 hf (fun v4 hf => ?_)
    refine wk_aload_n X dX10_toSock_23 0 rfl ?_
    refine wk_getR X dX10_toSock_24 fo_X10_55 hf (fun v5 hf => ?_)
    refine wk_callVv X [.ref v5] [] dX10_toSock_27 rfl vo_X10_116 rfl (by decide) (Nat.le_of_ble_eq_true rfl) hf (c_X3_copyFrom l _ _ _) (fun r6 hf => ?_)
    refine wk_bipush X dX10_toSock_30 ib_9 ?_
    refine wk_istore_n (lv' := [(2, .int 9), (0, .ref x0), (1, .int x1)]) X dX10_toSock_32 (by decide) rfl ?_
    exact wq_sub [1, 2, 0] rfl (wl_X10_toSock_33 X _ _ _ _ hf)
  · refine wk_iconst X dX10_toSock_17 ic_m1 ?_
    exact wk_ireturn X dX10_toSock_18 hf
section Sg_X10_toSock
variable {p : Program} {l : Launch} {e : Env} {s : State} {m : MethodId} {args : Array Value} {below : List Frame} {meth : Method} {c : Code} {G : hp_G} {o : Nat × hp_H}
end Sg_X10_toSock
def g_X10_toSock (x0 : Nat) (x1 : Int32) (h : hp_H) : Option (Nat × hp_H) := gd h x0 10 (xb (g_X10_needMan x0 x1 h) (f_X10_needMan x0 x1 h) fun r1 => none)
set_option maxRecDepth 20000 in
theorem x_X10_toSock (l : Launch) (hl : l.stackTraces = false) (x0 : Nat) (x1 : Int32) (h : hp_H) (r : Nat × hp_H) (hf : g_X10_toSock x0 x1 h = some r) : cvx l (8) yX10_toSock cX10_toSock 3 (some .int) 10 x0 [.int x1] h r.1 r.2 := by
  unfold g_X10_toSock at hf
  refine cvx_of (lv := [(0, .ref x0), (1, .int x1)]) hf (by decide +kernel) (Nat.le_of_ble_eq_true rfl) rfl (fun hf p e s m args below meth c G hT X => ?_)
  refine wk_aload_n X dX10_toSock_0 0 rfl ?_
  refine wk_iload_n X dX10_toSock_1 1 rfl ?_
  refine wk_callVxv X hT [.int x1] [] dX10_toSock_2 rfl vo_X10_171 rfl (by decide) (Nat.le_of_ble_eq_true rfl) hf (x_X10_needMan l hl _ _ _) (c_X10_needMan l _ _ _) (fun r1 hf => ?_)
  exact nomatch hf
section Sf_X10_tread
variable {p : Program} {l : Launch} {e : Env} {s : State} {m : MethodId} {args : Array Value} {below : List Frame} {meth : Method} {c : Code} {G : hp_G} {o : Int32 × hp_H}
def f_X10_tread_81 (t0 : Int32) (h : hp_H) : Option (Int32 × hp_H) := some (t0, h)
set_option maxRecDepth 20000 in
theorem w_X10_tread_81 (X : wx G p s m args meth c cX10_tread 6 RX10 (some .int)) (t0 : Int32) (h : hp_H) (hf : f_X10_tread_81 t0 h = some o) : wq p l e (mt_R (8) 0 0) s m args below meth c (MQ below (mt_Q G (some (.int o.1)) o.2) args s 0 0 (hp_A G)) G 6 0 0 81 [] [.int t0] h := by
  unfold f_X10_tread_81 at hf
  exact wk_ireturn X dX10_tread_81 hf
def f_X10_tread_72 (x1 : Int32) (x2 : Int32) (x3 : Int32) (h : hp_H) : Option (Int32 × hp_H) := if x1 = 0 then (f_X10_tread_81 x3 h) else (f_X10_tread_81 x2 h)
set_option maxRecDepth 20000 in
theorem w_X10_tread_72 (X : wx G p s m args meth c cX10_tread 6 RX10 (some .int)) (x1 : Int32) (x2 : Int32) (x3 : Int32) (h : hp_H) (hf : f_X10_tread_72 x1 x2 x3 h = some o) : wq p l e (mt_R (8) 0 0) s m args below meth c (MQ below (mt_Q G (some (.int o.1)) o.2) args s 0 0 (hp_A G)) G 6 0 0 72 [(1, .int x1), (2, .int x2), (3, .int x3)] [] h := by
  unfold f_X10_tread_72 at hf
  refine wk_iload_n X dX10_tread_72 0 rfl ?_
  refine wk_if_ne X 80 dX10_tread_73 (by decide) hf (fun hf => ?_) (fun hf => ?_)
  · refine wk_iload_n X dX10_tread_80 1 rfl ?_
    exact wq_sub [] rfl (w_X10_tread_81 X _ _ hf)
  · refine wk_iload_n X dX10_tread_76 2 rfl ?_
    refine wk_goto X 81 dX10_tread_77 (by decide) ?_
    exact wq_sub [] rfl (w_X10_tread_81 X _ _ hf)
def f_X10_tread_66 (k31 : Nat → Int32 → Int32 → Int32 → Int32 → hp_H → Option (Int32 × hp_H)) (x0 : Nat) (x1 : Int32) (x2 : Int32) (x3 : Int32) (x4 : Int32) (h : hp_H) : Option (Int32 × hp_H) := k31 x0 x1 x2 x3 (x4 + 1) h
set_option maxRecDepth 20000 in
theorem w_X10_tread_66 (X : wx G p s m args meth c cX10_tread 6 RX10 (some .int)) (k31 : Nat → Int32 → Int32 → Int32 → Int32 → hp_H → Option (Int32 × hp_H)) (hk31 : ∀ (x0 : Nat) (x1 : Int32) (x2 : Int32) (x3 : Int32) (x4 : Int32) (h : hp_H), k31 x0 x1 x2 x3 x4 h = some o → wq p l e (mt_R (8) 0 0) s m args below meth c (MQ below (mt_Q G (some (.int o.1)) o.2) args s 0 0 (hp_A G)) G 6 0 0 31 [(0, .ref x0), (1, .int x1), (2, .int x2), (3, .int x3), (4, .int x4)] [] h) (x0 : Nat) (x1 : Int32) (x2 : Int32) (x3 : Int32) (x4 : Int32) (h : hp_H) (hf : f_X10_tread_66 k31 x0 x1 x2 x3 x4 h = some o) : wq p l e (mt_R (8) 0 0) s m args below meth c (MQ below (mt_Q G (some (.int o.1)) o.2) args s 0 0 (hp_A G)) G 6 0 0 66 [(0, .ref x0), (1, .int x1), (2, .int x2), (3, .int x3), (4, .int x4)] [] h := by
  unfold f_X10_tread_66 at hf
  refine wk_iinc (lv' := [(4, .int (x4 + 1)), (0, .ref x0), (1, .int x1), (2, .int x2), (3, .int x3)]) X dX10_tread_66 4 rfl ic_1 (by decide) rfl ?_
  refine wk_goto X 31 dX10_tread_69 (by decide) ?_
  exact wq_sub [1, 2, 3, 4, 0] rfl (hk31 _ _ _ _ _ _ hf)
def f_X10_tread_31 (k31 : Nat → Int32 → Int32 → Int32 → Int32 → hp_H → Option (Int32 × hp_H)) (x0 : Nat) (x1 : Int32) (x2 : Int32) (x3 : Int32) (x4 : Int32) (h : hp_H) : Option (Int32 × hp_H) := (rd_R h x0 10 4).bind fun v1 => (f_X1_allBeats v1 h).bind fun r2 => if r2.1 < x4 then (f_X10_tread_72 x1 x2 x3 r2.2) else ((rd_R r2.2 x0 10 8).bind fun v3 => (f_X3_leastFar v3 x4 r2.2).bind fun r4 => if r4.1 ≤ x3 then (f_X10_tread_66 k31 x0 x1 x2 x3 x4 r4.2) else (f_X10_tread_66 k31 x0 x1 x4 r4.1 x4 r4.2))
set_option maxRecDepth 20000 in
theorem w_X10_tread_31 (X : wx G p s m args meth c cX10_tread 6 RX10 (some .int)) (k31 : Nat → Int32 → Int32 → Int32 → Int32 → hp_H → Option (Int32 × hp_H)) (hk31 : ∀ (x0 : Nat) (x1 : Int32) (x2 : Int32) (x3 : Int32) (x4 : Int32) (h : hp_H), k31 x0 x1 x2 x3 x4 h = some o → wq p l e (mt_R (8) 0 0) s m args below meth c (MQ below (mt_Q G (some (.int o.1)) o.2) args s 0 0 (hp_A G)) G 6 0 0 31 [(0, .ref x0), (1, .int x1), (2, .int x2), (3, .int x3), (4, .int x4)] [] h) (x0 : Nat) (x1 : Int32) (x2 : Int32) (x3 : Int32) (x4 : Int32) (h : hp_H) (hf : f_X10_tread_31 k31 x0 x1 x2 x3 x4 h = some o) : wq p l e (mt_R (8) 0 0) s m args below meth c (MQ below (mt_Q G (some (.int o.1)) o.2) args s 0 0 (hp_A G)) G 6 0 0 31 [(0, .ref x0), (1, .int x1), (2, .int x2), (3, .int x3), (4, .int x4)] [] h := by
  unfold f_X10_tread_31 at hf
  refine wk_iload X dX10_tread_31 4 rfl ?_
  refine wk_aload_n X dX10_tread_33 0 rfl ?_
  refine wk_getR X dX10_tread_34 fo_X10_31 hf (fun v1 hf => ?_)
  refine wk_callVi X [] [.int x4] dX10_tread_37 rfl vo_X10_273 rfl (by decide) (Nat.le_of_ble_eq_true rfl) hf (c_X1_allBeats l _ _) (fun r2 hf => ?_)
  refine wk_icmp_gt X 72 dX10_tread_40 (by decide) hf (fun hf => ?_) (fun hf => ?_)
  · exact wq_sub [1, 2, 3] rfl (w_X10_tread_72 X _ _ _ _ hf)
  · refine wk_aload_n X dX10_tread_43 0 rfl ?_
    refine wk_getR X dX10_tread_44 fo_X10_55 hf (fun v3 hf => ?_)
    refine wk_iload X dX10_tread_47 4 rfl ?_
    refine wk_callVi X [.int x4] [] dX10_tread_49 rfl vo_X10_270 rfl (by decide) (Nat.le_of_ble_eq_true rfl) hf (c_X3_leastFar l _ _ _) (fun r4 hf => ?_)
    refine wk_istore (lv' := [(5, .int r4.1), (0, .ref x0), (1, .int x1), (2, .int x2), (3, .int x3), (4, .int x4)]) X dX10_tread_52 (by decide) rfl ?_
    refine wk_iload X dX10_tread_54 0 rfl ?_
    refine wk_iload_n X dX10_tread_56 4 rfl ?_
    refine wk_icmp_le X 66 dX10_tread_57 (by decide) hf (fun hf => ?_) (fun hf => ?_)
    · exact wq_sub [1, 2, 3, 4, 5] rfl (w_X10_tread_66 X k31 hk31 _ _ _ _ _ _ hf)
    · refine wk_iload X dX10_tread_60 0 rfl ?_
      refine wk_istore_n (lv' := [(3, .int r4.1), (5, .int r4.1), (0, .ref x0), (1, .int x1), (2, .int x2), (4, .int x4)]) X dX10_tread_62 (by decide) rfl ?_
      refine wk_iload X dX10_tread_63 5 rfl ?_
      refine wk_istore_n (lv' := [(2, .int x4), (3, .int r4.1), (5, .int r4.1), (0, .ref x0), (1, .int x1), (4, .int x4)]) X dX10_tread_65 (by decide) rfl ?_
      exact wq_sub [3, 4, 0, 1, 5] rfl (w_X10_tread_66 X k31 hk31 _ _ _ _ _ _ hf)
def l_X10_tread_31 (x0 : Nat) (x1 : Int32) (x2 : Int32) (x3 : Int32) (x4 : Int32) (h : hp_H) : Option (Int32 × hp_H) := lp (fun k (s : Nat × Int32 × Int32 × Int32 × Int32 × hp_H) => f_X10_tread_31  (fun a0 a1 a2 a3 a4 a5 => k (a0, a1, a2, a3, a4, a5)) s.1 s.2.1 s.2.2.1 s.2.2.2.1 s.2.2.2.2.1 s.2.2.2.2.2) 100000 (x0, x1, x2, x3, x4, h)
theorem wl_X10_tread_31 (X : wx G p s m args meth c cX10_tread 6 RX10 (some .int)) (x0 : Nat) (x1 : Int32) (x2 : Int32) (x3 : Int32) (x4 : Int32) (h : hp_H) (hf : l_X10_tread_31 x0 x1 x2 x3 x4 h = some o) : wq p l e (mt_R (8) 0 0) s m args below meth c (MQ below (mt_Q G (some (.int o.1)) o.2) args s 0 0 (hp_A G)) G 6 0 0 31 [(0, .ref x0), (1, .int x1), (2, .int x2), (3, .int x3), (4, .int x4)] [] h :=
  lp_ind (P := fun (s_ : Nat × Int32 × Int32 × Int32 × Int32 × hp_H) => wq p l e (mt_R (8) 0 0) s m args below meth c (MQ below (mt_Q G (some (.int o.1)) o.2) args s 0 0 (hp_A G)) G 6 0 0 31 [(0, .ref s_.1), (1, .int s_.2.1), (2, .int s_.2.2.1), (3, .int s_.2.2.2.1), (4, .int s_.2.2.2.2.1)] [] s_.2.2.2.2.2) (fun k s hk hf => w_X10_tread_31 X  (fun a0 a1 a2 a3 a4 a5 => k (a0, a1, a2, a3, a4, a5)) (fun a0 a1 a2 a3 a4 a5 hf => hk (a0, a1, a2, a3, a4, a5) hf) s.1 s.2.1 s.2.2.1 s.2.2.2.1 s.2.2.2.2.1 s.2.2.2.2.2 hf) 100000 (x0, x1, x2, x3, x4, h) hf
end Sf_X10_tread
def f_X10_tread (x0 : Nat) (x1 : Int32) (h : hp_H) : Option (Int32 × hp_H) := gd h x0 10 ((f_X10_needWhat x1 1 h).bind fun r1 => (rd_R r1 x0 10 4).bind fun v2 => (rd_I r1 v2 1 1).bind fun v3 => if v3 = 0 then (some ((-1), r1)) else ((rd_R r1 x0 10 8).bind fun v4 => (f_X3_leastFar v4 0 r1).bind fun r5 => l_X10_tread_31 x0 x1 0 r5.1 1 r5.2))
set_option maxRecDepth 20000 in
theorem c_X10_tread (l : Launch) (x0 : Nat) (x1 : Int32) (h : hp_H) (r : Int32 × hp_H) (hf : f_X10_tread x0 x1 h = some r) : cv l (8) yX10_tread cX10_tread 6 (some .int) 10 x0 [.int x1] h (some (.int r.1)) r.2 := by
  unfold f_X10_tread at hf
  refine cv_of (lv := [(0, .ref x0), (1, .int x1)]) hf (by decide +kernel) (Nat.le_of_ble_eq_true rfl) rfl (fun hf p e s m args below meth c G X => ?_)
  refine wk_iload_n X dX10_tread_0 1 rfl ?_
  refine wk_iconst X dX10_tread_1 ic_1 ?_
  refine wk_callSv X [.int x1, .int 1] [] dX10_tread_2 rfl vo_X10_234 rfl (by decide) (Nat.le_of_ble_eq_true rfl) hf (c_X10_needWhat l _ _ _) (fun r1 hf => ?_)
  refine wk_aload_n X dX10_tread_5 0 rfl ?_
  refine wk_getR X dX10_tread_6 fo_X10_31 hf (fun v2 hf => ?_)
  refine wk_getI X dX10_tread_9 fo_X10_138 hf (fun v3 hf => ?_)
  refine wk_if_ne X 17 dX10_tread_12 (by decide) hf (fun hf => ?_) (fun hf => ?_)
  · refine wk_iconst X dX10_tread_17 ic_0 ?_
    refine wk_istore_n (lv' := [(2, .int 0), (0, .ref x0), (1, .int x1)]) X dX10_tread_18 (by decide) rfl ?_
    refine wk_aload_n X dX10_tread_19 1 rfl ?_
    refine wk_getR X dX10_tread_20 fo_X10_55 hf (fun v4 hf => ?_)
    refine wk_iconst X dX10_tread_23 ic_0 ?_
    refine wk_callVi X [.int 0] [] dX10_tread_24 rfl vo_X10_270 rfl (by decide) (Nat.le_of_ble_eq_true rfl) hf (c_X3_leastFar l _ _ _) (fun r5 hf => ?_)
    refine wk_istore_n (lv' := [(3, .int r5.1), (2, .int 0), (0, .ref x0), (1, .int x1)]) X dX10_tread_27 (by decide) rfl ?_
    refine wk_iconst X dX10_tread_28 ic_1 ?_
    refine wk_istore (lv' := [(4, .int 1), (3, .int r5.1), (2, .int 0), (0, .ref x0), (1, .int x1)]) X dX10_tread_29 (by decide) rfl ?_
    exact wq_sub [3, 4, 2, 1, 0] rfl (wl_X10_tread_31 X _ _ _ _ _ _ hf)
  · refine wk_iconst X dX10_tread_15 ic_m1 ?_
    exact wk_ireturn X dX10_tread_16 hf
section Sg_X10_tread
variable {p : Program} {l : Launch} {e : Env} {s : State} {m : MethodId} {args : Array Value} {below : List Frame} {meth : Method} {c : Code} {G : hp_G} {o : Nat × hp_H}
end Sg_X10_tread
def g_X10_tread (x0 : Nat) (x1 : Int32) (h : hp_H) : Option (Nat × hp_H) := gd h x0 10 (xb (g_X10_needWhat x1 1 h) (f_X10_needWhat x1 1 h) fun r1 => none)
set_option maxRecDepth 20000 in
theorem x_X10_tread (l : Launch) (hl : l.stackTraces = false) (x0 : Nat) (x1 : Int32) (h : hp_H) (r : Nat × hp_H) (hf : g_X10_tread x0 x1 h = some r) : cvx l (8) yX10_tread cX10_tread 6 (some .int) 10 x0 [.int x1] h r.1 r.2 := by
  unfold g_X10_tread at hf
  refine cvx_of (lv := [(0, .ref x0), (1, .int x1)]) hf (by decide +kernel) (Nat.le_of_ble_eq_true rfl) rfl (fun hf p e s m args below meth c G hT X => ?_)
  refine wk_iload_n X dX10_tread_0 1 rfl ?_
  refine wk_iconst X dX10_tread_1 ic_1 ?_
  refine wk_callSxv X hT [.int x1, .int 1] [] dX10_tread_2 rfl vo_X10_234 rfl (by decide) (Nat.le_of_ble_eq_true rfl) hf (x_X10_needWhat l hl _ _ _) (c_X10_needWhat l _ _ _) (fun r1 hf => ?_)
  exact nomatch hf
section Sf_X10_unsung
variable {p : Program} {l : Launch} {e : Env} {s : State} {m : MethodId} {args : Array Value} {below : List Frame} {meth : Method} {c : Code} {G : hp_G} {o : Int32 × hp_H}
def f_X10_unsung_41 (x2 : Int32) (h : hp_H) : Option (Int32 × hp_H) := some (x2, h)
set_option maxRecDepth 20000 in
theorem w_X10_unsung_41 (X : wx G p s m args meth c cX10_unsung 4 RX10 (some .int)) (x2 : Int32) (h : hp_H) (hf : f_X10_unsung_41 x2 h = some o) : wq p l e (mt_R (8) 0 0) s m args below meth c (MQ below (mt_Q G (some (.int o.1)) o.2) args s 0 0 (hp_A G)) G 4 0 0 41 [(2, .int x2)] [] h := by
  unfold f_X10_unsung_41 at hf
  refine wk_iload_n X dX10_unsung_41 0 rfl ?_
  exact wk_ireturn X dX10_unsung_42 hf
def f_X10_unsung_17 (k17 : Nat → Int32 → Int32 → Int32 → hp_H → Option (Int32 × hp_H)) (x0 : Nat) (x1 : Int32) (x2 : Int32) (x3 : Int32) (h : hp_H) : Option (Int32 × hp_H) := if x1 ≤ x3 then (f_X10_unsung_41 x2 h) else ((rd_R h x0 10 8).bind fun v1 => (f_X3_namedBits v1 x3 h).bind fun r2 => k17 x0 x1 (x2 &&& (r2.1 ^^^ (-1))) (x3 + 1) r2.2)
set_option maxRecDepth 20000 in
theorem w_X10_unsung_17 (X : wx G p s m args meth c cX10_unsung 4 RX10 (some .int)) (k17 : Nat → Int32 → Int32 → Int32 → hp_H → Option (Int32 × hp_H)) (hk17 : ∀ (x0 : Nat) (x1 : Int32) (x2 : Int32) (x3 : Int32) (h : hp_H), k17 x0 x1 x2 x3 h = some o → wq p l e (mt_R (8) 0 0) s m args below meth c (MQ below (mt_Q G (some (.int o.1)) o.2) args s 0 0 (hp_A G)) G 4 0 0 17 [(0, .ref x0), (1, .int x1), (2, .int x2), (3, .int x3)] [] h) (x0 : Nat) (x1 : Int32) (x2 : Int32) (x3 : Int32) (h : hp_H) (hf : f_X10_unsung_17 k17 x0 x1 x2 x3 h = some o) : wq p l e (mt_R (8) 0 0) s m args below meth c (MQ below (mt_Q G (some (.int o.1)) o.2) args s 0 0 (hp_A G)) G 4 0 0 17 [(0, .ref x0), (1, .int x1), (2, .int x2), (3, .int x3)] [] h := by
  unfold f_X10_unsung_17 at hf
  refine wk_iload_n X dX10_unsung_17 3 rfl ?_
  refine wk_iload_n X dX10_unsung_18 1 rfl ?_
  refine wk_icmp_ge X 41 dX10_unsung_19 (by decide) hf (fun hf => ?_) (fun hf => ?_)
  · exact wq_sub [2] rfl (w_X10_unsung_41 X _ _ hf)
  · refine wk_iload_n X dX10_unsung_22 2 rfl ?_
    refine wk_aload_n X dX10_unsung_23 0 rfl ?_
    refine wk_getR X dX10_unsung_24 fo_X10_55 hf (fun v1 hf => ?_)
    refine wk_iload_n X dX10_unsung_27 3 rfl ?_
    refine wk_callVi X [.int x3] [.int x2] dX10_unsung_28 rfl vo_X10_256 rfl (by decide) (Nat.le_of_ble_eq_true rfl) hf (c_X3_namedBits l _ _ _) (fun r2 hf => ?_)
    refine wk_iconst X dX10_unsung_31 ic_m1 ?_
    refine wk_ixor X dX10_unsung_32 ?_
    refine wk_iand X dX10_unsung_33 ?_
    refine wk_istore_n (lv' := [(2, .int (x2 &&& (r2.1 ^^^ (-1)))), (0, .ref x0), (1, .int x1), (3, .int x3)]) X dX10_unsung_34 (by decide) rfl ?_
    refine wk_iinc (lv' := [(3, .int (x3 + 1)), (2, .int (x2 &&& (r2.1 ^^^ (-1)))), (0, .ref x0), (1, .int x1)]) X dX10_unsung_35 3 rfl ic_1 (by decide) rfl ?_
    refine wk_goto X 17 dX10_unsung_38 (by decide) ?_
    exact wq_sub [2, 3, 1, 0] rfl (hk17 _ _ _ _ _ hf)
def l_X10_unsung_17 (x0 : Nat) (x1 : Int32) (x2 : Int32) (x3 : Int32) (h : hp_H) : Option (Int32 × hp_H) := lp (fun k (s : Nat × Int32 × Int32 × Int32 × hp_H) => f_X10_unsung_17  (fun a0 a1 a2 a3 a4 => k (a0, a1, a2, a3, a4)) s.1 s.2.1 s.2.2.1 s.2.2.2.1 s.2.2.2.2) 100000 (x0, x1, x2, x3, h)
theorem wl_X10_unsung_17 (X : wx G p s m args meth c cX10_unsung 4 RX10 (some .int)) (x0 : Nat) (x1 : Int32) (x2 : Int32) (x3 : Int32) (h : hp_H) (hf : l_X10_unsung_17 x0 x1 x2 x3 h = some o) : wq p l e (mt_R (8) 0 0) s m args below meth c (MQ below (mt_Q G (some (.int o.1)) o.2) args s 0 0 (hp_A G)) G 4 0 0 17 [(0, .ref x0), (1, .int x1), (2, .int x2), (3, .int x3)] [] h :=
  lp_ind (P := fun (s_ : Nat × Int32 × Int32 × Int32 × hp_H) => wq p l e (mt_R (8) 0 0) s m args below meth c (MQ below (mt_Q G (some (.int o.1)) o.2) args s 0 0 (hp_A G)) G 4 0 0 17 [(0, .ref s_.1), (1, .int s_.2.1), (2, .int s_.2.2.1), (3, .int s_.2.2.2.1)] [] s_.2.2.2.2) (fun k s hk hf => w_X10_unsung_17 X  (fun a0 a1 a2 a3 a4 => k (a0, a1, a2, a3, a4)) (fun a0 a1 a2 a3 a4 hf => hk (a0, a1, a2, a3, a4) hf) s.1 s.2.1 s.2.2.1 s.2.2.2.1 s.2.2.2.2 hf) 100000 (x0, x1, x2, x3, h) hf
end Sf_X10_unsung
def f_X10_unsung (x0 : Nat) (x1 : Int32) (h : hp_H) : Option (Int32 × hp_H) := gd h x0 10 ((f_X10_needWithin x1 1 40 h).bind fun r1 => (rd_R r1 x0 10 4).bind fun v2 => (f_X1_allMen v2 r1).bind fun r3 => l_X10_unsung_17 x0 x1 r3.1 0 r3.2)
set_option maxRecDepth 20000 in
theorem c_X10_unsung (l : Launch) (x0 : Nat) (x1 : Int32) (h : hp_H) (r : Int32 × hp_H) (hf : f_X10_unsung x0 x1 h = some r) : cv l (8) yX10_unsung cX10_unsung 4 (some .int) 10 x0 [.int x1] h (some (.int r.1)) r.2 := by
  unfold f_X10_unsung at hf
  refine cv_of (lv := [(0, .ref x0), (1, .int x1)]) hf (by decide +kernel) (Nat.le_of_ble_eq_true rfl) rfl (fun hf p e s m args below meth c G X => ?_)
  refine wk_iload_n X dX10_unsung_0 1 rfl ?_
  refine wk_iconst X dX10_unsung_1 ic_1 ?_
  refine wk_bipush X dX10_unsung_2 ib_40 ?_
  refine wk_callSv X [.int x1, .int 1, .int 40] [] dX10_unsung_4 rfl vo_X10_237 rfl (by decide) (Nat.le_of_ble_eq_true rfl) hf (c_X10_needWithin l _ _ _ _) (fun r1 hf => ?_)
  refine wk_aload_n X dX10_unsung_7 0 rfl ?_
  refine wk_getR X dX10_unsung_8 fo_X10_31 hf (fun v2 hf => ?_)
  refine wk_callVi X [] [] dX10_unsung_11 rfl vo_X10_253 rfl (by decide) (Nat.le_of_ble_eq_true rfl) hf (c_X1_allMen l _ _) (fun r3 hf => ?_)
  refine wk_istore_n (lv' := [(2, .int r3.1), (0, .ref x0), (1, .int x1)]) X dX10_unsung_14 (by decide) rfl ?_
  refine wk_iconst X dX10_unsung_15 ic_0 ?_
  refine wk_istore_n (lv' := [(3, .int 0), (2, .int r3.1), (0, .ref x0), (1, .int x1)]) X dX10_unsung_16 (by decide) rfl ?_
  exact wq_sub [2, 3, 1, 0] rfl (wl_X10_unsung_17 X _ _ _ _ _ hf)
section Sg_X10_unsung
variable {p : Program} {l : Launch} {e : Env} {s : State} {m : MethodId} {args : Array Value} {below : List Frame} {meth : Method} {c : Code} {G : hp_G} {o : Nat × hp_H}
end Sg_X10_unsung
def g_X10_unsung (x0 : Nat) (x1 : Int32) (h : hp_H) : Option (Nat × hp_H) := gd h x0 10 (xb (g_X10_needWithin x1 1 40 h) (f_X10_needWithin x1 1 40 h) fun r1 => none)
set_option maxRecDepth 20000 in
theorem x_X10_unsung (l : Launch) (hl : l.stackTraces = false) (x0 : Nat) (x1 : Int32) (h : hp_H) (r : Nat × hp_H) (hf : g_X10_unsung x0 x1 h = some r) : cvx l (8) yX10_unsung cX10_unsung 4 (some .int) 10 x0 [.int x1] h r.1 r.2 := by
  unfold g_X10_unsung at hf
  refine cvx_of (lv := [(0, .ref x0), (1, .int x1)]) hf (by decide +kernel) (Nat.le_of_ble_eq_true rfl) rfl (fun hf p e s m args below meth c G hT X => ?_)
  refine wk_iload_n X dX10_unsung_0 1 rfl ?_
  refine wk_iconst X dX10_unsung_1 ic_1 ?_
  refine wk_bipush X dX10_unsung_2 ib_40 ?_
  refine wk_callSxv X hT [.int x1, .int 1, .int 40] [] dX10_unsung_4 rfl vo_X10_237 rfl (by decide) (Nat.le_of_ble_eq_true rfl) hf (x_X10_needWithin l hl _ _ _ _) (c_X10_needWithin l _ _ _ _) (fun r1 hf => ?_)
  exact nomatch hf
