section Sf_X11_most
variable {p : Program} {l : Launch} {e : Env} {s : State} {m : MethodId} {args : Array Value} {below : List Frame} {meth : Method} {c : Code} {G : hp_G} {o : Int32 × hp_H}
def f_X11_most_68 (x2 : Int32) (h : hp_H) : Option (Int32 × hp_H) := some (x2, h)
set_option maxRecDepth 20000 in
theorem w_X11_most_68 (X : wx G p s m args meth c cX11_most 4 RX11 (some .int)) (x2 : Int32) (h : hp_H) (hf : f_X11_most_68 x2 h = some o) : wq p l e (mt_R (8) 0 0) s m args below meth c (MQ below (mt_Q G (some (.int o.1)) o.2) args s 0 0 (hp_A G)) G 4 0 0 68 [(2, .int x2)] [] h := by
  unfold f_X11_most_68 at hf
  refine wk_iload_n X dX11_most_68 0 rfl ?_
  exact wk_ireturn X dX11_most_69 hf
def f_X11_most_62 (k26 : Nat → Int32 → Int32 → hp_H → Option (Int32 × hp_H)) (x0 : Nat) (x2 : Int32) (x3 : Int32) (h : hp_H) : Option (Int32 × hp_H) := k26 x0 x2 (x3 + 1) h
set_option maxRecDepth 20000 in
theorem w_X11_most_62 (X : wx G p s m args meth c cX11_most 4 RX11 (some .int)) (k26 : Nat → Int32 → Int32 → hp_H → Option (Int32 × hp_H)) (hk26 : ∀ (x0 : Nat) (x2 : Int32) (x3 : Int32) (h : hp_H), k26 x0 x2 x3 h = some o → wq p l e (mt_R (8) 0 0) s m args below meth c (MQ below (mt_Q G (some (.int o.1)) o.2) args s 0 0 (hp_A G)) G 4 0 0 26 [(0, .ref x0), (2, .int x2), (3, .int x3)] [] h) (x0 : Nat) (x2 : Int32) (x3 : Int32) (h : hp_H) (hf : f_X11_most_62 k26 x0 x2 x3 h = some o) : wq p l e (mt_R (8) 0 0) s m args below meth c (MQ below (mt_Q G (some (.int o.1)) o.2) args s 0 0 (hp_A G)) G 4 0 0 62 [(0, .ref x0), (2, .int x2), (3, .int x3)] [] h := by
  unfold f_X11_most_62 at hf
  refine wk_iinc (lv' := [(3, .int (x3 + 1)), (0, .ref x0), (2, .int x2)]) X dX11_most_62 2 rfl ic_1 (by decide) rfl ?_
  refine wk_goto X 26 dX11_most_65 (by decide) ?_
  exact wq_sub [1, 2, 0] rfl (hk26 _ _ _ _ hf)
def f_X11_most_60 (k26 : Nat → Int32 → Int32 → hp_H → Option (Int32 × hp_H)) (x0 : Nat) (x3 : Int32) (h : hp_H) : Option (Int32 × hp_H) := f_X11_most_62 k26 x0 x3 x3 h
set_option maxRecDepth 20000 in
theorem w_X11_most_60 (X : wx G p s m args meth c cX11_most 4 RX11 (some .int)) (k26 : Nat → Int32 → Int32 → hp_H → Option (Int32 × hp_H)) (hk26 : ∀ (x0 : Nat) (x2 : Int32) (x3 : Int32) (h : hp_H), k26 x0 x2 x3 h = some o → wq p l e (mt_R (8) 0 0) s m args below meth c (MQ below (mt_Q G (some (.int o.1)) o.2) args s 0 0 (hp_A G)) G 4 0 0 26 [(0, .ref x0), (2, .int x2), (3, .int x3)] [] h) (x0 : Nat) (x3 : Int32) (h : hp_H) (hf : f_X11_most_60 k26 x0 x3 h = some o) : wq p l e (mt_R (8) 0 0) s m args below meth c (MQ below (mt_Q G (some (.int o.1)) o.2) args s 0 0 (hp_A G)) G 4 0 0 60 [(0, .ref x0), (3, .int x3)] [] h := by
  unfold f_X11_most_60 at hf
  refine wk_iload_n X dX11_most_60 1 rfl ?_
  refine wk_istore_n (lv' := [(2, .int x3), (0, .ref x0), (3, .int x3)]) X dX11_most_61 (by decide) rfl ?_
  exact wq_sub [1, 0, 2] rfl (w_X11_most_62 X k26 hk26 _ _ _ _ hf)
def f_X11_most_26 (k26 : Nat → Int32 → Int32 → hp_H → Option (Int32 × hp_H)) (x0 : Nat) (x2 : Int32) (x3 : Int32) (h : hp_H) : Option (Int32 × hp_H) := (rd_I h x0 11 2).bind fun v1 => if v1 ≤ x3 then (f_X11_most_68 x2 h) else (if x2 = (-1) then (f_X11_most_60 k26 x0 x3 h) else ((rd_R h x0 11 36).bind fun v2 => (rd_A h 0 v2 (50 + x3)).bind fun v3 => (rd_R h x0 11 36).bind fun v4 => (rd_A h 0 v4 (50 + x2)).bind fun v5 => if v3 ≤ v5 then (f_X11_most_62 k26 x0 x2 x3 h) else (f_X11_most_60 k26 x0 x3 h)))
set_option maxRecDepth 20000 in
theorem w_X11_most_26 (X : wx G p s m args meth c cX11_most 4 RX11 (some .int)) (k26 : Nat → Int32 → Int32 → hp_H → Option (Int32 × hp_H)) (hk26 : ∀ (x0 : Nat) (x2 : Int32) (x3 : Int32) (h : hp_H), k26 x0 x2 x3 h = some o → wq p l e (mt_R (8) 0 0) s m args below meth c (MQ below (mt_Q G (some (.int o.1)) o.2) args s 0 0 (hp_A G)) G 4 0 0 26 [(0, .ref x0), (2, .int x2), (3, .int x3)] [] h) (x0 : Nat) (x2 : Int32) (x3 : Int32) (h : hp_H) (hf : f_X11_most_26 k26 x0 x2 x3 h = some o) : wq p l e (mt_R (8) 0 0) s m args below meth c (MQ below (mt_Q G (some (.int o.1)) o.2) args s 0 0 (hp_A G)) G 4 0 0 26 [(0, .ref x0), (2, .int x2), (3, .int x3)] [] h := by
  unfold f_X11_most_26 at hf
  refine wk_iload_n X dX11_most_26 2 rfl ?_
  refine wk_aload_n X dX11_most_27 0 rfl ?_
  refine wk_getI X dX11_most_28 fo_X11_251 hf (fun v1 hf => ?_)
  refine wk_icmp_ge X 68 dX11_most_31 (by decide) hf (fun hf => ?_) (fun hf => ?_)
  · exact wq_sub [1] rfl (w_X11_most_68 X _ _ hf)
  · refine wk_iload_n X dX11_most_34 1 rfl ?_
    refine wk_iconst X dX11_most_35 ic_m1 ?_
    refine wk_icmp_eq X 60 dX11_most_36 (by decide) hf (fun hf => ?_) (fun hf => ?_)
    · exact wq_sub [0, 2] rfl (w_X11_most_60 X k26 hk26 _ _ _ hf)
    · refine wk_aload_n X dX11_most_39 0 rfl ?_
      refine wk_getR X dX11_most_40 fo_X11_51 hf (fun v2 hf => ?_)
      refine wk_bipush X dX11_most_43 ib_50 ?_
      refine wk_iload_n X dX11_most_45 2 rfl ?_
      refine wk_iadd X dX11_most_46 ?_
      refine wk_iald X dX11_most_47 hf (fun v3 hf => ?_)
      refine wk_aload_n X dX11_most_48 0 rfl ?_
      refine wk_getR X dX11_most_49 fo_X11_51 hf (fun v4 hf => ?_)
      refine wk_bipush X dX11_most_52 ib_50 ?_
      refine wk_iload_n X dX11_most_54 1 rfl ?_
      refine wk_iadd X dX11_most_55 ?_
      refine wk_iald X dX11_most_56 hf (fun v5 hf => ?_)
      refine wk_icmp_le X 62 dX11_most_57 (by decide) hf (fun hf => ?_) (fun hf => ?_)
      · exact wq_sub [0, 1, 2] rfl (w_X11_most_62 X k26 hk26 _ _ _ _ hf)
      · exact wq_sub [0, 2] rfl (w_X11_most_60 X k26 hk26 _ _ _ hf)
def l_X11_most_26 (x0 : Nat) (x2 : Int32) (x3 : Int32) (h : hp_H) : Option (Int32 × hp_H) := lp (fun k (s : Nat × Int32 × Int32 × hp_H) => f_X11_most_26  (fun a0 a1 a2 a3 => k (a0, a1, a2, a3)) s.1 s.2.1 s.2.2.1 s.2.2.2) 100000 (x0, x2, x3, h)
theorem wl_X11_most_26 (X : wx G p s m args meth c cX11_most 4 RX11 (some .int)) (x0 : Nat) (x2 : Int32) (x3 : Int32) (h : hp_H) (hf : l_X11_most_26 x0 x2 x3 h = some o) : wq p l e (mt_R (8) 0 0) s m args below meth c (MQ below (mt_Q G (some (.int o.1)) o.2) args s 0 0 (hp_A G)) G 4 0 0 26 [(0, .ref x0), (2, .int x2), (3, .int x3)] [] h :=
  lp_ind (P := fun (s_ : Nat × Int32 × Int32 × hp_H) => wq p l e (mt_R (8) 0 0) s m args below meth c (MQ below (mt_Q G (some (.int o.1)) o.2) args s 0 0 (hp_A G)) G 4 0 0 26 [(0, .ref s_.1), (2, .int s_.2.1), (3, .int s_.2.2.1)] [] s_.2.2.2) (fun k s hk hf => w_X11_most_26 X  (fun a0 a1 a2 a3 => k (a0, a1, a2, a3)) (fun a0 a1 a2 a3 hf => hk (a0, a1, a2, a3) hf) s.1 s.2.1 s.2.2.1 s.2.2.2 hf) 100000 (x0, x2, x3, h) hf
end Sf_X11_most
def f_X11_most (x0 : Nat) (x1 : Int32) (h : hp_H) : Option (Int32 × hp_H) := gd h x0 11 ((wr_I h x0 11 0 0).bind fun h1 => (f_X11_isNights x0 x1 1 1 h1).bind fun r2 => if r2.1 = 0 then (some (0, r2.2)) else ((f_X11_goesTo x0 x1 r2.2).bind fun r3 => l_X11_most_26 x0 (-1) 0 r3))
set_option maxRecDepth 20000 in
theorem c_X11_most (l : Launch) (x0 : Nat) (x1 : Int32) (h : hp_H) (r : Int32 × hp_H) (hf : f_X11_most x0 x1 h = some r) : cv l (8) yX11_most cX11_most 4 (some .int) 11 x0 [.int x1] h (some (.int r.1)) r.2 := by
  unfold f_X11_most at hf
  refine cv_of (lv := [(0, .ref x0), (1, .int x1)]) hf (by decide +kernel) (Nat.le_of_ble_eq_true rfl) rfl (fun hf p e s m args below meth c G X => ?_)
  refine wk_aload_n X dX11_most_0 0 rfl ?_
  refine wk_iconst X dX11_most_1 ic_0 ?_
  refine wk_putI X dX11_most_2 fo_X11_84 hf (fun h1 hf => ?_)
  refine wk_aload_n X dX11_most_5 0 rfl ?_
  refine wk_iload_n X dX11_most_6 1 rfl ?_
  refine wk_iconst X dX11_most_7 ic_1 ?_
  refine wk_iconst X dX11_most_8 ic_1 ?_
  refine wk_callVi X [.int x1, .int 1, .int 1] [] dX11_most_9 rfl vo_X11_353 rfl (by decide) (Nat.le_of_ble_eq_true rfl) hf (c_X11_isNights l _ _ _ _ _) (fun r2 hf => ?_)
  refine wk_if_ne X 17 dX11_most_12 (by decide) hf (fun hf => ?_) (fun hf => ?_)
  · refine wk_aload_n X dX11_most_17 0 rfl ?_
    refine wk_iload_n X dX11_most_18 1 rfl ?_
    refine wk_callVv X [.int x1] [] dX11_most_19 rfl vo_X11_356 rfl (by decide) (Nat.le_of_ble_eq_true rfl) hf (c_X11_goesTo l _ _ _) (fun r3 hf => ?_)
    refine wk_iconst X dX11_most_22 ic_m1 ?_
    refine wk_istore_n (lv' := [(2, .int (-1)), (0, .ref x0), (1, .int x1)]) X dX11_most_23 (by decide) rfl ?_
    refine wk_iconst X dX11_most_24 ic_0 ?_
    refine wk_istore_n (lv' := [(3, .int 0), (2, .int (-1)), (0, .ref x0), (1, .int x1)]) X dX11_most_25 (by decide) rfl ?_
    exact wq_sub [2, 1, 0] rfl (wl_X11_most_26 X _ _ _ _ hf)
  · refine wk_iconst X dX11_most_15 ic_0 ?_
    exact wk_ireturn X dX11_most_16 hf
section Sf_X11_often
variable {p : Program} {l : Launch} {e : Env} {s : State} {m : MethodId} {args : Array Value} {below : List Frame} {meth : Method} {c : Code} {G : hp_G} {o : Int32 × hp_H}
def f_X11_often_24  (h : hp_H) : Option (Int32 × hp_H) := some (0, h)
set_option maxRecDepth 20000 in
theorem w_X11_often_24 (X : wx G p s m args meth c cX11_often 7 RX11 (some .int))  (h : hp_H) (hf : f_X11_often_24 h = some o) : wq p l e (mt_R (6) 0 0) s m args below meth c (MQ below (mt_Q G (some (.int o.1)) o.2) args s 0 0 (hp_A G)) G 7 0 0 24 [] [] h := by
  unfold f_X11_often_24 at hf
  refine wk_iconst X dX11_often_24 ic_0 ?_
  exact wk_ireturn X dX11_often_25 hf
def f_X11_often_132 (x3 : Int32) (h : hp_H) : Option (Int32 × hp_H) := some (x3, h)
set_option maxRecDepth 20000 in
theorem w_X11_often_132 (X : wx G p s m args meth c cX11_often 7 RX11 (some .int)) (x3 : Int32) (h : hp_H) (hf : f_X11_often_132 x3 h = some o) : wq p l e (mt_R (6) 0 0) s m args below meth c (MQ below (mt_Q G (some (.int o.1)) o.2) args s 0 0 (hp_A G)) G 7 0 0 132 [(3, .int x3)] [] h := by
  unfold f_X11_often_132 at hf
  refine wk_iload_n X dX11_often_132 0 rfl ?_
  exact wk_ireturn X dX11_often_133 hf
def f_X11_often_120 (k35 : Nat → Int32 → Int32 → Int32 → Int32 → hp_H → Option (Int32 × hp_H)) (x0 : Nat) (x1 : Int32) (x2 : Int32) (x3 : Int32) (x4 : Int32) (h : hp_H) : Option (Int32 × hp_H) := (f_X11_nightGoes x0 33 h).bind fun r1 => k35 x0 x1 x2 x3 (x4 + 1) r1
set_option maxRecDepth 20000 in
theorem w_X11_often_120 (X : wx G p s m args meth c cX11_often 7 RX11 (some .int)) (k35 : Nat → Int32 → Int32 → Int32 → Int32 → hp_H → Option (Int32 × hp_H)) (hk35 : ∀ (x0 : Nat) (x1 : Int32) (x2 : Int32) (x3 : Int32) (x4 : Int32) (h : hp_H), k35 x0 x1 x2 x3 x4 h = some o → wq p l e (mt_R (6) 0 0) s m args below meth c (MQ below (mt_Q G (some (.int o.1)) o.2) args s 0 0 (hp_A G)) G 7 0 0 35 [(0, .ref x0), (1, .int x1), (2, .int x2), (3, .int x3), (4, .int x4)] [] h) (x0 : Nat) (x1 : Int32) (x2 : Int32) (x3 : Int32) (x4 : Int32) (h : hp_H) (hf : f_X11_often_120 k35 x0 x1 x2 x3 x4 h = some o) : wq p l e (mt_R (6) 0 0) s m args below meth c (MQ below (mt_Q G (some (.int o.1)) o.2) args s 0 0 (hp_A G)) G 7 0 0 120 [(0, .ref x0), (1, .int x1), (2, .int x2), (3, .int x3), (4, .int x4)] [] h := by
  unfold f_X11_often_120 at hf
  refine wk_aload_n X dX11_often_120 0 rfl ?_
  refine wk_bipush X dX11_often_121 ib_33 ?_
  refine wk_callVv X [.int 33] [] dX11_often_123 rfl vo_X11_308 rfl (by decide) (Nat.le_of_ble_eq_true rfl) hf (c_X11_nightGoes l _ _ _) (fun r1 hf => ?_)
  refine wk_iinc (lv' := [(4, .int (x4 + 1)), (0, .ref x0), (1, .int x1), (2, .int x2), (3, .int x3)]) X dX11_often_126 4 rfl ic_1 (by decide) rfl ?_
  refine wk_goto X 35 dX11_often_129 (by decide) ?_
  exact wq_sub [1, 2, 3, 4, 0] rfl (hk35 _ _ _ _ _ _ hf)
def f_X11_often_112 (k35 : Nat → Int32 → Int32 → Int32 → Int32 → hp_H → Option (Int32 × hp_H)) (k44 : Nat → Int32 → Int32 → Int32 → Int32 → Int32 → hp_H → Option (Int32 × hp_H)) (x0 : Nat) (x1 : Int32) (x2 : Int32) (x4 : Int32) (x5 : Int32) (t0 : Int32) (t1 : Int32) (h : hp_H) : Option (Int32 × hp_H) := k44 x0 x1 x2 (t0 + t1) x4 (x5 + 1) h
set_option maxRecDepth 20000 in
theorem w_X11_often_112 (X : wx G p s m args meth c cX11_often 7 RX11 (some .int)) (k35 : Nat → Int32 → Int32 → Int32 → Int32 → hp_H → Option (Int32 × hp_H)) (hk35 : ∀ (x0 : Nat) (x1 : Int32) (x2 : Int32) (x3 : Int32) (x4 : Int32) (h : hp_H), k35 x0 x1 x2 x3 x4 h = some o → wq p l e (mt_R (6) 0 0) s m args below meth c (MQ below (mt_Q G (some (.int o.1)) o.2) args s 0 0 (hp_A G)) G 7 0 0 35 [(0, .ref x0), (1, .int x1), (2, .int x2), (3, .int x3), (4, .int x4)] [] h) (k44 : Nat → Int32 → Int32 → Int32 → Int32 → Int32 → hp_H → Option (Int32 × hp_H)) (hk44 : ∀ (x0 : Nat) (x1 : Int32) (x2 : Int32) (x3 : Int32) (x4 : Int32) (x5 : Int32) (h : hp_H), k44 x0 x1 x2 x3 x4 x5 h = some o → wq p l e (mt_R (6) 0 0) s m args below meth c (MQ below (mt_Q G (some (.int o.1)) o.2) args s 0 0 (hp_A G)) G 7 0 0 44 [(0, .ref x0), (1, .int x1), (2, .int x2), (3, .int x3), (4, .int x4), (5, .int x5)] [] h) (x0 : Nat) (x1 : Int32) (x2 : Int32) (x4 : Int32) (x5 : Int32) (t0 : Int32) (t1 : Int32) (h : hp_H) (hf : f_X11_often_112 k35 k44 x0 x1 x2 x4 x5 t0 t1 h = some o) : wq p l e (mt_R (6) 0 0) s m args below meth c (MQ below (mt_Q G (some (.int o.1)) o.2) args s 0 0 (hp_A G)) G 7 0 0 112 [(0, .ref x0), (1, .int x1), (2, .int x2), (4, .int x4), (5, .int x5)] [.int t1, .int t0] h := by
  unfold f_X11_often_112 at hf
  refine wk_iadd X dX11_often_112 ?_
  refine wk_istore_n (lv' := [(3, .int (t0 + t1)), (0, .ref x0), (1, .int x1), (2, .int x2), (4, .int x4), (5, .int x5)]) X dX11_often_113 (by decide) rfl ?_
  refine wk_iinc (lv' := [(5, .int (x5 + 1)), (3, .int (t0 + t1)), (0, .ref x0), (1, .int x1), (2, .int x2), (4, .int x4)]) X dX11_often_114 5 rfl ic_1 (by decide) rfl ?_
  refine wk_goto X 44 dX11_often_117 (by decide) ?_
  exact wq_sub [2, 3, 4, 1, 5, 0] rfl (hk44 _ _ _ _ _ _ _ hf)
def f_X11_often_111 (k35 : Nat → Int32 → Int32 → Int32 → Int32 → hp_H → Option (Int32 × hp_H)) (k44 : Nat → Int32 → Int32 → Int32 → Int32 → Int32 → hp_H → Option (Int32 × hp_H)) (x0 : Nat) (x1 : Int32) (x2 : Int32) (x4 : Int32) (x5 : Int32) (t0 : Int32) (h : hp_H) : Option (Int32 × hp_H) := f_X11_often_112 k35 k44 x0 x1 x2 x4 x5 t0 0 h
set_option maxRecDepth 20000 in
theorem w_X11_often_111 (X : wx G p s m args meth c cX11_often 7 RX11 (some .int)) (k35 : Nat → Int32 → Int32 → Int32 → Int32 → hp_H → Option (Int32 × hp_H)) (hk35 : ∀ (x0 : Nat) (x1 : Int32) (x2 : Int32) (x3 : Int32) (x4 : Int32) (h : hp_H), k35 x0 x1 x2 x3 x4 h = some o → wq p l e (mt_R (6) 0 0) s m args below meth c (MQ below (mt_Q G (some (.int o.1)) o.2) args s 0 0 (hp_A G)) G 7 0 0 35 [(0, .ref x0), (1, .int x1), (2, .int x2), (3, .int x3), (4, .int x4)] [] h) (k44 : Nat → Int32 → Int32 → Int32 → Int32 → Int32 → hp_H → Option (Int32 × hp_H)) (hk44 : ∀ (x0 : Nat) (x1 : Int32) (x2 : Int32) (x3 : Int32) (x4 : Int32) (x5 : Int32) (h : hp_H), k44 x0 x1 x2 x3 x4 x5 h = some o → wq p l e (mt_R (6) 0 0) s m args below meth c (MQ below (mt_Q G (some (.int o.1)) o.2) args s 0 0 (hp_A G)) G 7 0 0 44 [(0, .ref x0), (1, .int x1), (2, .int x2), (3, .int x3), (4, .int x4), (5, .int x5)] [] h) (x0 : Nat) (x1 : Int32) (x2 : Int32) (x4 : Int32) (x5 : Int32) (t0 : Int32) (h : hp_H) (hf : f_X11_often_111 k35 k44 x0 x1 x2 x4 x5 t0 h = some o) : wq p l e (mt_R (6) 0 0) s m args below meth c (MQ below (mt_Q G (some (.int o.1)) o.2) args s 0 0 (hp_A G)) G 7 0 0 111 [(0, .ref x0), (1, .int x1), (2, .int x2), (4, .int x4), (5, .int x5)] [.int t0] h := by
  unfold f_X11_often_111 at hf
  refine wk_iconst X dX11_often_111 ic_0 ?_
  exact wq_sub [0, 1, 2, 3, 4] rfl (w_X11_often_112 X k35 hk35 k44 hk44 _ _ _ _ _ _ _ _ hf)
def f_X11_often_44 (k35 : Nat → Int32 → Int32 → Int32 → Int32 → hp_H → Option (Int32 × hp_H)) (k44 : Nat → Int32 → Int32 → Int32 → Int32 → Int32 → hp_H → Option (Int32 × hp_H)) (x0 : Nat) (x1 : Int32) (x2 : Int32) (x3 : Int32) (x4 : Int32) (x5 : Int32) (h : hp_H) : Option (Int32 × hp_H) := (rd_I h x0 11 3).bind fun v1 => if v1 ≤ x5 then (f_X11_often_120 k35 x0 x1 x2 x3 x4 h) else ((f_X11_namedOf x0 33 x5 h).bind fun r2 => if x2 = 0 then (if r2.1 = (-1) then (f_X11_often_112 k35 k44 x0 x1 x2 x4 x5 x3 1 r2.2) else (f_X11_often_112 k35 k44 x0 x1 x2 x4 x5 x3 0 r2.2)) else (if r2.1 = (-1) then (f_X11_often_111 k35 k44 x0 x1 x2 x4 x5 x3 r2.2) else ((rd_R r2.2 x0 11 36).bind fun v3 => (rd_A r2.2 0 v3 (58 + x5)).bind fun v4 => if ((v4 >>> (r2.1 &&& 31)) &&& (1 : Int32)) = 1 then (f_X11_often_112 k35 k44 x0 x1 x2 x4 x5 x3 1 r2.2) else (f_X11_often_111 k35 k44 x0 x1 x2 x4 x5 x3 r2.2))))
set_option maxRecDepth 20000 in
theorem w_X11_often_44 (X : wx G p s m args meth c cX11_often 7 RX11 (some .int)) (k35 : Nat → Int32 → Int32 → Int32 → Int32 → hp_H → Option (Int32 × hp_H)) (hk35 : ∀ (x0 : Nat) (x1 : Int32) (x2 : Int32) (x3 : Int32) (x4 : Int32) (h : hp_H), k35 x0 x1 x2 x3 x4 h = some o → wq p l e (mt_R (6) 0 0) s m args below meth c (MQ below (mt_Q G (some (.int o.1)) o.2) args s 0 0 (hp_A G)) G 7 0 0 35 [(0, .ref x0), (1, .int x1), (2, .int x2), (3, .int x3), (4, .int x4)] [] h) (k44 : Nat → Int32 → Int32 → Int32 → Int32 → Int32 → hp_H → Option (Int32 × hp_H)) (hk44 : ∀ (x0 : Nat) (x1 : Int32) (x2 : Int32) (x3 : Int32) (x4 : Int32) (x5 : Int32) (h : hp_H), k44 x0 x1 x2 x3 x4 x5 h = some o → wq p l e (mt_R (6) 0 0) s m args below meth c (MQ below (mt_Q G (some (.int o.1)) o.2) args s 0 0 (hp_A G)) G 7 0 0 44 [(0, .ref x0), (1, .int x1), (2, .int x2), (3, .int x3), (4, .int x4), (5, .int x5)] [] h) (x0 : Nat) (x1 : Int32) (x2 : Int32) (x3 : Int32) (x4 : Int32) (x5 : Int32) (h : hp_H) (hf : f_X11_often_44 k35 k44 x0 x1 x2 x3 x4 x5 h = some o) : wq p l e (mt_R (6) 0 0) s m args below meth c (MQ below (mt_Q G (some (.int o.1)) o.2) args s 0 0 (hp_A G)) G 7 0 0 44 [(0, .ref x0), (1, .int x1), (2, .int x2), (3, .int x3), (4, .int x4), (5, .int x5)] [] h := by
  unfold f_X11_often_44 at hf
  refine wk_iload X dX11_often_44 5 rfl ?_
  refine wk_aload_n X dX11_often_46 0 rfl ?_
  refine wk_getI X dX11_often_47 fo_X11_254 hf (fun v1 hf => ?_)
  refine wk_icmp_ge X 120 dX11_often_50 (by decide) hf (fun hf => ?_) (fun hf => ?_)
  · exact wq_sub [0, 1, 2, 3, 4] rfl (w_X11_often_120 X k35 hk35 _ _ _ _ _ _ hf)
  · refine wk_aload_n X dX11_often_53 0 rfl ?_
    refine wk_bipush X dX11_often_54 ib_33 ?_
    refine wk_iload X dX11_often_56 5 rfl ?_
    refine wk_callVi X [.int 33, .int x5] [] dX11_often_58 rfl vo_X11_302 rfl (by decide) (Nat.le_of_ble_eq_true rfl) hf (c_X11_namedOf l _ _ _ _) (fun r2 hf => ?_)
    refine wk_istore (lv' := [(6, .int r2.1), (0, .ref x0), (1, .int x1), (2, .int x2), (3, .int x3), (4, .int x4), (5, .int x5)]) X dX11_often_61 (by decide) rfl ?_
    refine wk_iload_n X dX11_often_63 4 rfl ?_
    refine wk_iload_n X dX11_often_64 3 rfl ?_
    refine wk_if_ne X 82 dX11_often_65 (by decide) hf (fun hf => ?_) (fun hf => ?_)
    · refine wk_iload X dX11_often_82 0 rfl ?_
      refine wk_iconst X dX11_often_84 ic_m1 ?_
      refine wk_icmp_eq X 111 dX11_often_85 (by decide) hf (fun hf => ?_) (fun hf => ?_)
      · exact wq_sub [1, 2, 3, 5, 6] rfl (w_X11_often_111 X k35 hk35 k44 hk44 _ _ _ _ _ _ _ hf)
      · refine wk_aload_n X dX11_often_88 1 rfl ?_
        refine wk_getR X dX11_often_89 fo_X11_51 hf (fun v3 hf => ?_)
        refine wk_bipush X dX11_often_92 ib_58 ?_
        refine wk_iload X dX11_often_94 6 rfl ?_
        refine wk_iadd X dX11_often_96 ?_
        refine wk_iald X dX11_often_97 hf (fun v4 hf => ?_)
        refine wk_iload X dX11_often_98 0 rfl ?_
        refine wk_ishr X dX11_often_100 ?_
        refine wk_iconst X dX11_often_101 ic_1 ?_
        refine wk_iand X dX11_often_102 ?_
        refine wk_iconst X dX11_often_103 ic_1 ?_
        refine wk_icmp_ne X 111 dX11_often_104 (by decide) hf (fun hf => ?_) (fun hf => ?_)
        · exact wq_sub [1, 2, 3, 5, 6] rfl (w_X11_often_111 X k35 hk35 k44 hk44 _ _ _ _ _ _ _ hf)
        · refine wk_iconst X dX11_often_107 ic_1 ?_
          refine wk_goto X 112 dX11_often_108 (by decide) ?_
          exact wq_sub [1, 2, 3, 5, 6] rfl (w_X11_often_112 X k35 hk35 k44 hk44 _ _ _ _ _ _ _ _ hf)
    · refine wk_iload X dX11_often_68 0 rfl ?_
      refine wk_iconst X dX11_often_70 ic_m1 ?_
      refine wk_icmp_ne X 78 dX11_often_71 (by decide) hf (fun hf => ?_) (fun hf => ?_)
      · refine wk_iconst X dX11_often_78 ic_0 ?_
        refine wk_goto X 112 dX11_often_79 (by decide) ?_
        exact wq_sub [1, 2, 3, 5, 6] rfl (w_X11_often_112 X k35 hk35 k44 hk44 _ _ _ _ _ _ _ _ hf)
      · refine wk_iconst X dX11_often_74 ic_1 ?_
        refine wk_goto X 112 dX11_often_75 (by decide) ?_
        exact wq_sub [1, 2, 3, 5, 6] rfl (w_X11_often_112 X k35 hk35 k44 hk44 _ _ _ _ _ _ _ _ hf)
def l_X11_often_44 (k35 : Nat → Int32 → Int32 → Int32 → Int32 → hp_H → Option (Int32 × hp_H)) (x0 : Nat) (x1 : Int32) (x2 : Int32) (x3 : Int32) (x4 : Int32) (x5 : Int32) (h : hp_H) : Option (Int32 × hp_H) := lp (fun k (s : Nat × Int32 × Int32 × Int32 × Int32 × Int32 × hp_H) => f_X11_often_44 k35 (fun a0 a1 a2 a3 a4 a5 a6 => k (a0, a1, a2, a3, a4, a5, a6)) s.1 s.2.1 s.2.2.1 s.2.2.2.1 s.2.2.2.2.1 s.2.2.2.2.2.1 s.2.2.2.2.2.2) 100000 (x0, x1, x2, x3, x4, x5, h)
theorem wl_X11_often_44 (X : wx G p s m args meth c cX11_often 7 RX11 (some .int)) (k35 : Nat → Int32 → Int32 → Int32 → Int32 → hp_H → Option (Int32 × hp_H)) (hk35 : ∀ (x0 : Nat) (x1 : Int32) (x2 : Int32) (x3 : Int32) (x4 : Int32) (h : hp_H), k35 x0 x1 x2 x3 x4 h = some o → wq p l e (mt_R (6) 0 0) s m args below meth c (MQ below (mt_Q G (some (.int o.1)) o.2) args s 0 0 (hp_A G)) G 7 0 0 35 [(0, .ref x0), (1, .int x1), (2, .int x2), (3, .int x3), (4, .int x4)] [] h) (x0 : Nat) (x1 : Int32) (x2 : Int32) (x3 : Int32) (x4 : Int32) (x5 : Int32) (h : hp_H) (hf : l_X11_often_44 k35 x0 x1 x2 x3 x4 x5 h = some o) : wq p l e (mt_R (6) 0 0) s m args below meth c (MQ below (mt_Q G (some (.int o.1)) o.2) args s 0 0 (hp_A G)) G 7 0 0 44 [(0, .ref x0), (1, .int x1), (2, .int x2), (3, .int x3), (4, .int x4), (5, .int x5)] [] h :=
  lp_ind (P := fun (s_ : Nat × Int32 × Int32 × Int32 × Int32 × Int32 × hp_H) => wq p l e (mt_R (6) 0 0) s m args below meth c (MQ below (mt_Q G (some (.int o.1)) o.2) args s 0 0 (hp_A G)) G 7 0 0 44 [(0, .ref s_.1), (1, .int s_.2.1), (2, .int s_.2.2.1), (3, .int s_.2.2.2.1), (4, .int s_.2.2.2.2.1), (5, .int s_.2.2.2.2.2.1)] [] s_.2.2.2.2.2.2) (fun k s hk hf => w_X11_often_44 X k35 hk35 (fun a0 a1 a2 a3 a4 a5 a6 => k (a0, a1, a2, a3, a4, a5, a6)) (fun a0 a1 a2 a3 a4 a5 a6 hf => hk (a0, a1, a2, a3, a4, a5, a6) hf) s.1 s.2.1 s.2.2.1 s.2.2.2.1 s.2.2.2.2.1 s.2.2.2.2.2.1 s.2.2.2.2.2.2 hf) 100000 (x0, x1, x2, x3, x4, x5, h) hf
def f_X11_often_35 (k35 : Nat → Int32 → Int32 → Int32 → Int32 → hp_H → Option (Int32 × hp_H)) (x0 : Nat) (x1 : Int32) (x2 : Int32) (x3 : Int32) (x4 : Int32) (h : hp_H) : Option (Int32 × hp_H) := if x1 ≤ x4 then (f_X11_often_132 x3 h) else (l_X11_often_44 k35 x0 x1 x2 x3 x4 0 h)
set_option maxRecDepth 20000 in
theorem w_X11_often_35 (X : wx G p s m args meth c cX11_often 7 RX11 (some .int)) (k35 : Nat → Int32 → Int32 → Int32 → Int32 → hp_H → Option (Int32 × hp_H)) (hk35 : ∀ (x0 : Nat) (x1 : Int32) (x2 : Int32) (x3 : Int32) (x4 : Int32) (h : hp_H), k35 x0 x1 x2 x3 x4 h = some o → wq p l e (mt_R (6) 0 0) s m args below meth c (MQ below (mt_Q G (some (.int o.1)) o.2) args s 0 0 (hp_A G)) G 7 0 0 35 [(0, .ref x0), (1, .int x1), (2, .int x2), (3, .int x3), (4, .int x4)] [] h) (x0 : Nat) (x1 : Int32) (x2 : Int32) (x3 : Int32) (x4 : Int32) (h : hp_H) (hf : f_X11_often_35 k35 x0 x1 x2 x3 x4 h = some o) : wq p l e (mt_R (6) 0 0) s m args below meth c (MQ below (mt_Q G (some (.int o.1)) o.2) args s 0 0 (hp_A G)) G 7 0 0 35 [(0, .ref x0), (1, .int x1), (2, .int x2), (3, .int x3), (4, .int x4)] [] h := by
  unfold f_X11_often_35 at hf
  refine wk_iload X dX11_often_35 4 rfl ?_
  refine wk_iload_n X dX11_often_37 1 rfl ?_
  refine wk_icmp_ge X 132 dX11_often_38 (by decide) hf (fun hf => ?_) (fun hf => ?_)
  · exact wq_sub [3] rfl (w_X11_often_132 X _ _ hf)
  · refine wk_iconst X dX11_often_41 ic_0 ?_
    refine wk_istore (lv' := [(5, .int 0), (0, .ref x0), (1, .int x1), (2, .int x2), (3, .int x3), (4, .int x4)]) X dX11_often_42 (by decide) rfl ?_
    exact wq_sub [1, 2, 3, 4, 5, 0] rfl (wl_X11_often_44 X k35 hk35 _ _ _ _ _ _ _ hf)
def l_X11_often_35 (x0 : Nat) (x1 : Int32) (x2 : Int32) (x3 : Int32) (x4 : Int32) (h : hp_H) : Option (Int32 × hp_H) := lp (fun k (s : Nat × Int32 × Int32 × Int32 × Int32 × hp_H) => f_X11_often_35  (fun a0 a1 a2 a3 a4 a5 => k (a0, a1, a2, a3, a4, a5)) s.1 s.2.1 s.2.2.1 s.2.2.2.1 s.2.2.2.2.1 s.2.2.2.2.2) 100000 (x0, x1, x2, x3, x4, h)
theorem wl_X11_often_35 (X : wx G p s m args meth c cX11_often 7 RX11 (some .int)) (x0 : Nat) (x1 : Int32) (x2 : Int32) (x3 : Int32) (x4 : Int32) (h : hp_H) (hf : l_X11_often_35 x0 x1 x2 x3 x4 h = some o) : wq p l e (mt_R (6) 0 0) s m args below meth c (MQ below (mt_Q G (some (.int o.1)) o.2) args s 0 0 (hp_A G)) G 7 0 0 35 [(0, .ref x0), (1, .int x1), (2, .int x2), (3, .int x3), (4, .int x4)] [] h :=
  lp_ind (P := fun (s_ : Nat × Int32 × Int32 × Int32 × Int32 × hp_H) => wq p l e (mt_R (6) 0 0) s m args below meth c (MQ below (mt_Q G (some (.int o.1)) o.2) args s 0 0 (hp_A G)) G 7 0 0 35 [(0, .ref s_.1), (1, .int s_.2.1), (2, .int s_.2.2.1), (3, .int s_.2.2.2.1), (4, .int s_.2.2.2.2.1)] [] s_.2.2.2.2.2) (fun k s hk hf => w_X11_often_35 X  (fun a0 a1 a2 a3 a4 a5 => k (a0, a1, a2, a3, a4, a5)) (fun a0 a1 a2 a3 a4 a5 hf => hk (a0, a1, a2, a3, a4, a5) hf) s.1 s.2.1 s.2.2.1 s.2.2.2.1 s.2.2.2.2.1 s.2.2.2.2.2 hf) 100000 (x0, x1, x2, x3, x4, h) hf
end Sf_X11_often
def f_X11_often (x0 : Nat) (x1 : Int32) (x2 : Int32) (h : hp_H) : Option (Int32 × hp_H) := gd h x0 11 ((wr_I h x0 11 0 0).bind fun h1 => (f_X11_isWhat x0 x2 1 h1).bind fun r2 => if r2.1 = 0 then (f_X11_often_24 r2.2) else ((f_X11_isNights x0 x1 1 2 r2.2).bind fun r3 => if r3.1 = 0 then (f_X11_often_24 r3.2) else ((f_X11_tries x0 r3.2).bind fun r4 => l_X11_often_35 x0 x1 x2 0 0 r4)))
set_option maxRecDepth 20000 in
theorem c_X11_often (l : Launch) (x0 : Nat) (x1 : Int32) (x2 : Int32) (h : hp_H) (r : Int32 × hp_H) (hf : f_X11_often x0 x1 x2 h = some r) : cv l (6) yX11_often cX11_often 7 (some .int) 11 x0 [.int x1, .int x2] h (some (.int r.1)) r.2 := by
  unfold f_X11_often at hf
  refine cv_of (lv := [(0, .ref x0), (1, .int x1), (2, .int x2)]) hf (by decide +kernel) (Nat.le_of_ble_eq_true rfl) rfl (fun hf p e s m args below meth c G X => ?_)
  refine wk_aload_n X dX11_often_0 0 rfl ?_
  refine wk_iconst X dX11_often_1 ic_0 ?_
  refine wk_putI X dX11_often_2 fo_X11_84 hf (fun h1 hf => ?_)
  refine wk_aload_n X dX11_often_5 0 rfl ?_
  refine wk_iload_n X dX11_often_6 2 rfl ?_
  refine wk_iconst X dX11_often_7 ic_1 ?_
  refine wk_callVi X [.int x2, .int 1] [] dX11_often_8 rfl vo_X11_330 rfl (by decide) (Nat.le_of_ble_eq_true rfl) hf (c_X11_isWhat l _ _ _ _) (fun r2 hf => ?_)
  refine wk_if_eq X 24 dX11_often_11 (by decide) hf (fun hf => ?_) (fun hf => ?_)
  · exact wq_sub [] rfl (w_X11_often_24 X _ hf)
  · refine wk_aload_n X dX11_often_14 0 rfl ?_
    refine wk_iload_n X dX11_often_15 1 rfl ?_
    refine wk_iconst X dX11_often_16 ic_1 ?_
    refine wk_iconst X dX11_often_17 ic_2 ?_
    refine wk_callVi X [.int x1, .int 1, .int 2] [] dX11_often_18 rfl vo_X11_353 rfl (by decide) (Nat.le_of_ble_eq_true rfl) hf (c_X11_isNights l _ _ _ _ _) (fun r3 hf => ?_)
    refine wk_if_ne X 26 dX11_often_21 (by decide) hf (fun hf => ?_) (fun hf => ?_)
    · refine wk_aload_n X dX11_often_26 0 rfl ?_
      refine wk_callVv X [] [] dX11_often_27 rfl vo_X11_347 rfl (by decide) (Nat.le_of_ble_eq_true rfl) hf (c_X11_tries l _ _) (fun r4 hf => ?_)
      refine wk_iconst X dX11_often_30 ic_0 ?_
      refine wk_istore_n (lv' := [(3, .int 0), (0, .ref x0), (1, .int x1), (2, .int x2)]) X dX11_often_31 (by decide) rfl ?_
      refine wk_iconst X dX11_often_32 ic_0 ?_
      refine wk_istore (lv' := [(4, .int 0), (3, .int 0), (0, .ref x0), (1, .int x1), (2, .int x2)]) X dX11_often_33 (by decide) rfl ?_
      exact wq_sub [2, 3, 4, 1, 0] rfl (wl_X11_often_35 X _ _ _ _ _ _ hf)
    · exact wq_sub [] rfl (w_X11_often_24 X _ hf)
section Sf_X11_spoilt
variable {p : Program} {l : Launch} {e : Env} {s : State} {m : MethodId} {args : Array Value} {below : List Frame} {meth : Method} {c : Code} {G : hp_G} {o : Int32 × hp_H}
end Sf_X11_spoilt
def f_X11_spoilt (x0 : Nat) (x1 : Int32) (h : hp_H) : Option (Int32 × hp_H) := gd h x0 11 ((wr_I h x0 11 0 0).bind fun h1 => (f_X11_isMan x0 x1 h1).bind fun r2 => if r2.1 = 0 then (some (0, r2.2)) else ((f_X11_tries x0 r2.2).bind fun r3 => (f_X11_rightOnes x0 r3).bind fun r4 => (f_X11_puts0 x0 33 x1 (-1) r4.2).bind fun r5 => (f_X11_rightOnes x0 r5).bind fun r6 => some (r6.1 - r4.1, r6.2)))
set_option maxRecDepth 20000 in
theorem c_X11_spoilt (l : Launch) (x0 : Nat) (x1 : Int32) (h : hp_H) (r : Int32 × hp_H) (hf : f_X11_spoilt x0 x1 h = some r) : cv l (6) yX11_spoilt cX11_spoilt 3 (some .int) 11 x0 [.int x1] h (some (.int r.1)) r.2 := by
  unfold f_X11_spoilt at hf
  refine cv_of (lv := [(0, .ref x0), (1, .int x1)]) hf (by decide +kernel) (Nat.le_of_ble_eq_true rfl) rfl (fun hf p e s m args below meth c G X => ?_)
  refine wk_aload_n X dX11_spoilt_0 0 rfl ?_
  refine wk_iconst X dX11_spoilt_1 ic_0 ?_
  refine wk_putI X dX11_spoilt_2 fo_X11_84 hf (fun h1 hf => ?_)
  refine wk_aload_n X dX11_spoilt_5 0 rfl ?_
  refine wk_iload_n X dX11_spoilt_6 1 rfl ?_
  refine wk_callVi X [.int x1] [] dX11_spoilt_7 rfl vo_X11_327 rfl (by decide) (Nat.le_of_ble_eq_true rfl) hf (c_X11_isMan l _ _ _) (fun r2 hf => ?_)
  refine wk_if_ne X 15 dX11_spoilt_10 (by decide) hf (fun hf => ?_) (fun hf => ?_)
  · refine wk_aload_n X dX11_spoilt_15 0 rfl ?_
    refine wk_callVv X [] [] dX11_spoilt_16 rfl vo_X11_347 rfl (by decide) (Nat.le_of_ble_eq_true rfl) hf (c_X11_tries l _ _) (fun r3 hf => ?_)
    refine wk_aload_n X dX11_spoilt_19 0 rfl ?_
    refine wk_callVi X [] [] dX11_spoilt_20 rfl vo_X11_372 rfl (by decide) (Nat.le_of_ble_eq_true rfl) hf (c_X11_rightOnes l _ _) (fun r4 hf => ?_)
    refine wk_istore_n (lv' := [(2, .int r4.1), (0, .ref x0), (1, .int x1)]) X dX11_spoilt_23 (by decide) rfl ?_
    refine wk_aload_n X dX11_spoilt_24 1 rfl ?_
    refine wk_bipush X dX11_spoilt_25 ib_33 ?_
    refine wk_iload_n X dX11_spoilt_27 2 rfl ?_
    refine wk_iconst X dX11_spoilt_28 ic_m1 ?_
    refine wk_callVv X [.int 33, .int x1, .int (-1)] [] dX11_spoilt_29 rfl vo_X11_343 rfl (by decide) (Nat.le_of_ble_eq_true rfl) hf (c_X11_puts0 l _ _ _ _ _) (fun r5 hf => ?_)
    refine wk_aload_n X dX11_spoilt_32 1 rfl ?_
    refine wk_callVi X [] [] dX11_spoilt_33 rfl vo_X11_372 rfl (by decide) (Nat.le_of_ble_eq_true rfl) hf (c_X11_rightOnes l _ _) (fun r6 hf => ?_)
    refine wk_iload_n X dX11_spoilt_36 0 rfl ?_
    refine wk_isub X dX11_spoilt_37 ?_
    exact wk_ireturn X dX11_spoilt_38 hf
  · refine wk_iconst X dX11_spoilt_13 ic_0 ?_
    exact wk_ireturn X dX11_spoilt_14 hf
section Sf_X11_reform
variable {p : Program} {l : Launch} {e : Env} {s : State} {m : MethodId} {args : Array Value} {below : List Frame} {meth : Method} {c : Code} {G : hp_G} {o : Int32 × hp_H}
def f_X11_reform_22  (h : hp_H) : Option (Int32 × hp_H) := some (0, h)
set_option maxRecDepth 20000 in
theorem w_X11_reform_22 (X : wx G p s m args meth c cX11_reform 8 RX11 (some .int))  (h : hp_H) (hf : f_X11_reform_22 h = some o) : wq p l e (mt_R (5) 0 0) s m args below meth c (MQ below (mt_Q G (some (.int o.1)) o.2) args s 0 0 (hp_A G)) G 8 0 0 22 [] [] h := by
  unfold f_X11_reform_22 at hf
  refine wk_iconst X dX11_reform_22 ic_0 ?_
  exact wk_ireturn X dX11_reform_23 hf
def f_X11_reform_148 (t0 : Int32) (h : hp_H) : Option (Int32 × hp_H) := some (t0, h)
set_option maxRecDepth 20000 in
theorem w_X11_reform_148 (X : wx G p s m args meth c cX11_reform 8 RX11 (some .int)) (t0 : Int32) (h : hp_H) (hf : f_X11_reform_148 t0 h = some o) : wq p l e (mt_R (5) 0 0) s m args below meth c (MQ below (mt_Q G (some (.int o.1)) o.2) args s 0 0 (hp_A G)) G 8 0 0 148 [] [.int t0] h := by
  unfold f_X11_reform_148 at hf
  exact wk_ireturn X dX11_reform_148 hf
def f_X11_reform_127 (x2 : Int32) (x4 : Int32) (x5 : Int32) (h : hp_H) : Option (Int32 × hp_H) := if x4 = (-1) then (f_X11_reform_148 (-1) h) else (if x2 = 0 then (f_X11_reform_148 x5 h) else (f_X11_reform_148 x4 h))
set_option maxRecDepth 20000 in
theorem w_X11_reform_127 (X : wx G p s m args meth c cX11_reform 8 RX11 (some .int)) (x2 : Int32) (x4 : Int32) (x5 : Int32) (h : hp_H) (hf : f_X11_reform_127 x2 x4 x5 h = some o) : wq p l e (mt_R (5) 0 0) s m args below meth c (MQ below (mt_Q G (some (.int o.1)) o.2) args s 0 0 (hp_A G)) G 8 0 0 127 [(2, .int x2), (4, .int x4), (5, .int x5)] [] h := by
  unfold f_X11_reform_127 at hf
  refine wk_iload X dX11_reform_127 1 rfl ?_
  refine wk_iconst X dX11_reform_129 ic_m1 ?_
  refine wk_icmp_ne X 137 dX11_reform_130 (by decide) hf (fun hf => ?_) (fun hf => ?_)
  · refine wk_iload_n X dX11_reform_137 0 rfl ?_
    refine wk_if_ne X 146 dX11_reform_138 (by decide) hf (fun hf => ?_) (fun hf => ?_)
    · refine wk_iload X dX11_reform_146 1 rfl ?_
      exact wq_sub [] rfl (w_X11_reform_148 X _ _ hf)
    · refine wk_iload X dX11_reform_141 2 rfl ?_
      refine wk_goto X 148 dX11_reform_143 (by decide) ?_
      exact wq_sub [] rfl (w_X11_reform_148 X _ _ hf)
  · refine wk_iconst X dX11_reform_133 ic_m1 ?_
    refine wk_goto X 148 dX11_reform_134 (by decide) ?_
    exact wq_sub [] rfl (w_X11_reform_148 X _ _ hf)
def f_X11_reform_121 (k46 : Nat → Int32 → Int32 → Int32 → Int32 → Int32 → Int32 → hp_H → Option (Int32 × hp_H)) (x0 : Nat) (x1 : Int32) (x2 : Int32) (x3 : Int32) (x4 : Int32) (x5 : Int32) (x6 : Int32) (h : hp_H) : Option (Int32 × hp_H) := k46 x0 x1 x2 x3 x4 x5 (x6 + 1) h
set_option maxRecDepth 20000 in
theorem w_X11_reform_121 (X : wx G p s m args meth c cX11_reform 8 RX11 (some .int)) (k46 : Nat → Int32 → Int32 → Int32 → Int32 → Int32 → Int32 → hp_H → Option (Int32 × hp_H)) (hk46 : ∀ (x0 : Nat) (x1 : Int32) (x2 : Int32) (x3 : Int32) (x4 : Int32) (x5 : Int32) (x6 : Int32) (h : hp_H), k46 x0 x1 x2 x3 x4 x5 x6 h = some o → wq p l e (mt_R (5) 0 0) s m args below meth c (MQ below (mt_Q G (some (.int o.1)) o.2) args s 0 0 (hp_A G)) G 8 0 0 46 [(0, .ref x0), (1, .int x1), (2, .int x2), (3, .int x3), (4, .int x4), (5, .int x5), (6, .int x6)] [] h) (x0 : Nat) (x1 : Int32) (x2 : Int32) (x3 : Int32) (x4 : Int32) (x5 : Int32) (x6 : Int32) (h : hp_H) (hf : f_X11_reform_121 k46 x0 x1 x2 x3 x4 x5 x6 h = some o) : wq p l e (mt_R (5) 0 0) s m args below meth c (MQ below (mt_Q G (some (.int o.1)) o.2) args s 0 0 (hp_A G)) G 8 0 0 121 [(0, .ref x0), (1, .int x1), (2, .int x2), (3, .int x3), (4, .int x4), (5, .int x5), (6, .int x6)] [] h := by
  unfold f_X11_reform_121 at hf
  refine wk_iinc (lv' := [(6, .int (x6 + 1)), (0, .ref x0), (1, .int x1), (2, .int x2), (3, .int x3), (4, .int x4), (5, .int x5)]) X dX11_reform_121 6 rfl ic_1 (by decide) rfl ?_
  refine wk_goto X 46 dX11_reform_124 (by decide) ?_
  exact wq_sub [1, 2, 3, 4, 5, 6, 0] rfl (hk46 _ _ _ _ _ _ _ _ hf)
def f_X11_reform_46 (k46 : Nat → Int32 → Int32 → Int32 → Int32 → Int32 → Int32 → hp_H → Option (Int32 × hp_H)) (x0 : Nat) (x1 : Int32) (x2 : Int32) (x3 : Int32) (x4 : Int32) (x5 : Int32) (x6 : Int32) (h : hp_H) : Option (Int32 × hp_H) := (rd_I h x0 11 1).bind fun v1 => if (1 <<< (v1 &&& 31)) ≤ x6 then (f_X11_reform_127 x2 x4 x5 h) else (if x3 = (-1) then (f_X11_reform_127 x2 x4 x5 h) else ((rd_R h x0 11 36).bind fun v2 => (rd_A h 0 v2 (1 + x1)).bind fun v3 => (f_X11_bits (x6 ^^^ v3) h).bind fun r4 => if r4.1 < x5 then ((rd_R r4.2 x0 11 36).bind fun v5 => (wr_A r4.2 v5 (34 + x1) x6).bind fun h6 => (f_X11_namedOf x0 33 x3 h6).bind fun r7 => if r7.1 = x1 then (f_X11_reform_121 k46 x0 x1 x2 x3 x6 r4.1 x6 r7.2) else (f_X11_reform_121 k46 x0 x1 x2 x3 x4 x5 x6 r7.2)) else (f_X11_reform_121 k46 x0 x1 x2 x3 x4 x5 x6 r4.2)))
set_option maxRecDepth 20000 in
theorem w_X11_reform_46 (X : wx G p s m args meth c cX11_reform 8 RX11 (some .int)) (k46 : Nat → Int32 → Int32 → Int32 → Int32 → Int32 → Int32 → hp_H → Option (Int32 × hp_H)) (hk46 : ∀ (x0 : Nat) (x1 : Int32) (x2 : Int32) (x3 : Int32) (x4 : Int32) (x5 : Int32) (x6 : Int32) (h : hp_H), k46 x0 x1 x2 x3 x4 x5 x6 h = some o → wq p l e (mt_R (5) 0 0) s m args below meth c (MQ below (mt_Q G (some (.int o.1)) o.2) args s 0 0 (hp_A G)) G 8 0 0 46 [(0, .ref x0), (1, .int x1), (2, .int x2), (3, .int x3), (4, .int x4), (5, .int x5), (6, .int x6)] [] h) (x0 : Nat) (x1 : Int32) (x2 : Int32) (x3 : Int32) (x4 : Int32) (x5 : Int32) (x6 : Int32) (h : hp_H) (hf : f_X11_reform_46 k46 x0 x1 x2 x3 x4 x5 x6 h = some o) : wq p l e (mt_R (5) 0 0) s m args below meth c (MQ below (mt_Q G (some (.int o.1)) o.2) args s 0 0 (hp_A G)) G 8 0 0 46 [(0, .ref x0), (1, .int x1), (2, .int x2), (3, .int x3), (4, .int x4), (5, .int x5), (6, .int x6)] [] h := by
  unfold f_X11_reform_46 at hf
  refine wk_iload X dX11_reform_46 6 rfl ?_
  refine wk_iconst X dX11_reform_48 ic_1 ?_
  refine wk_aload_n X dX11_reform_49 0 rfl ?_
  refine wk_getI X dX11_reform_50 fo_X11_7 hf (fun v1 hf => ?_)
  refine wk_ishl X dX11_reform_53 ?_
  refine wk_icmp_ge X 127 dX11_reform_54 (by decide) hf (fun hf => ?_) (fun hf => ?_)
  · exact wq_sub [2, 4, 5] rfl (w_X11_reform_127 X _ _ _ _ hf)
  · refine wk_iload_n X dX11_reform_57 3 rfl ?_
    refine wk_iconst X dX11_reform_58 ic_m1 ?_
    refine wk_icmp_eq X 127 dX11_reform_59 (by decide) hf (fun hf => ?_) (fun hf => ?_)
    · exact wq_sub [2, 4, 5] rfl (w_X11_reform_127 X _ _ _ _ hf)
    · refine wk_iload X dX11_reform_62 6 rfl ?_
      refine wk_aload_n X dX11_reform_64 0 rfl ?_
      refine wk_getR X dX11_reform_65 fo_X11_51 hf (fun v2 hf => ?_)
      refine wk_iconst X dX11_reform_68 ic_1 ?_
      refine wk_iload_n X dX11_reform_69 1 rfl ?_
      refine wk_iadd X dX11_reform_70 ?_
      refine wk_iald X dX11_reform_71 hf (fun v3 hf => ?_)
      refine wk_ixor X dX11_reform_72 ?_
      refine wk_callSi X [.int (x6 ^^^ v3)] [] dX11_reform_73 rfl vo_X11_284 rfl (by decide) (Nat.le_of_ble_eq_true rfl) hf (c_X11_bits l _ _) (fun r4 hf => ?_)
      refine wk_istore (lv' := [(7, .int r4.1), (0, .ref x0), (1, .int x1), (2, .int x2), (3, .int x3), (4, .int x4), (5, .int x5), (6, .int x6)]) X dX11_reform_76 (by decide) rfl ?_
      refine wk_iload X dX11_reform_78 0 rfl ?_
      refine wk_iload X dX11_reform_80 6 rfl ?_
      refine wk_icmp_lt X 88 dX11_reform_82 (by decide) hf (fun hf => ?_) (fun hf => ?_)
      · refine wk_aload_n X dX11_reform_88 1 rfl ?_
        refine wk_getR X dX11_reform_89 fo_X11_51 hf (fun v5 hf => ?_)
        refine wk_bipush X dX11_reform_92 ib_34 ?_
        refine wk_iload_n X dX11_reform_94 2 rfl ?_
        refine wk_iadd X dX11_reform_95 ?_
        refine wk_iload X dX11_reform_96 7 rfl ?_
        refine wk_iast X dX11_reform_98 hf (fun h6 hf => ?_)
        refine wk_aload_n X dX11_reform_99 1 rfl ?_
        refine wk_bipush X dX11_reform_100 ib_33 ?_
        refine wk_iload_n X dX11_reform_102 4 rfl ?_
        refine wk_callVi X [.int 33, .int x3] [] dX11_reform_103 rfl vo_X11_302 rfl (by decide) (Nat.le_of_ble_eq_true rfl) hf (c_X11_namedOf l _ _ _ _) (fun r7 hf => ?_)
        refine wk_iload_n X dX11_reform_106 2 rfl ?_
        refine wk_icmp_eq X 113 dX11_reform_107 (by decide) hf (fun hf => ?_) (fun hf => ?_)
        · refine wk_iload X dX11_reform_113 7 rfl ?_
          refine wk_istore (lv' := [(4, .int x6), (7, .int r4.1), (0, .ref x0), (1, .int x1), (2, .int x2), (3, .int x3), (5, .int x5), (6, .int x6)]) X dX11_reform_115 (by decide) rfl ?_
          refine wk_iload X dX11_reform_117 1 rfl ?_
          refine wk_istore (lv' := [(5, .int r4.1), (4, .int x6), (7, .int r4.1), (0, .ref x0), (1, .int x1), (2, .int x2), (3, .int x3), (6, .int x6)]) X dX11_reform_119 (by decide) rfl ?_
          exact wq_sub [3, 4, 5, 6, 1, 0, 7] rfl (w_X11_reform_121 X k46 hk46 _ _ _ _ _ _ _ _ hf)
        · refine wk_goto X 121 dX11_reform_110 (by decide) ?_
          exact wq_sub [1, 2, 3, 4, 5, 6, 7] rfl (w_X11_reform_121 X k46 hk46 _ _ _ _ _ _ _ _ hf)
      · refine wk_goto X 121 dX11_reform_85 (by decide) ?_
        exact wq_sub [1, 2, 3, 4, 5, 6, 7] rfl (w_X11_reform_121 X k46 hk46 _ _ _ _ _ _ _ _ hf)
def l_X11_reform_46 (x0 : Nat) (x1 : Int32) (x2 : Int32) (x3 : Int32) (x4 : Int32) (x5 : Int32) (x6 : Int32) (h : hp_H) : Option (Int32 × hp_H) := lp (fun k (s : Nat × Int32 × Int32 × Int32 × Int32 × Int32 × Int32 × hp_H) => f_X11_reform_46  (fun a0 a1 a2 a3 a4 a5 a6 a7 => k (a0, a1, a2, a3, a4, a5, a6, a7)) s.1 s.2.1 s.2.2.1 s.2.2.2.1 s.2.2.2.2.1 s.2.2.2.2.2.1 s.2.2.2.2.2.2.1 s.2.2.2.2.2.2.2) 100000 (x0, x1, x2, x3, x4, x5, x6, h)
theorem wl_X11_reform_46 (X : wx G p s m args meth c cX11_reform 8 RX11 (some .int)) (x0 : Nat) (x1 : Int32) (x2 : Int32) (x3 : Int32) (x4 : Int32) (x5 : Int32) (x6 : Int32) (h : hp_H) (hf : l_X11_reform_46 x0 x1 x2 x3 x4 x5 x6 h = some o) : wq p l e (mt_R (5) 0 0) s m args below meth c (MQ below (mt_Q G (some (.int o.1)) o.2) args s 0 0 (hp_A G)) G 8 0 0 46 [(0, .ref x0), (1, .int x1), (2, .int x2), (3, .int x3), (4, .int x4), (5, .int x5), (6, .int x6)] [] h :=
  lp_ind (P := fun (s_ : Nat × Int32 × Int32 × Int32 × Int32 × Int32 × Int32 × hp_H) => wq p l e (mt_R (5) 0 0) s m args below meth c (MQ below (mt_Q G (some (.int o.1)) o.2) args s 0 0 (hp_A G)) G 8 0 0 46 [(0, .ref s_.1), (1, .int s_.2.1), (2, .int s_.2.2.1), (3, .int s_.2.2.2.1), (4, .int s_.2.2.2.2.1), (5, .int s_.2.2.2.2.2.1), (6, .int s_.2.2.2.2.2.2.1)] [] s_.2.2.2.2.2.2.2) (fun k s hk hf => w_X11_reform_46 X  (fun a0 a1 a2 a3 a4 a5 a6 a7 => k (a0, a1, a2, a3, a4, a5, a6, a7)) (fun a0 a1 a2 a3 a4 a5 a6 a7 hf => hk (a0, a1, a2, a3, a4, a5, a6, a7) hf) s.1 s.2.1 s.2.2.1 s.2.2.2.1 s.2.2.2.2.1 s.2.2.2.2.2.1 s.2.2.2.2.2.2.1 s.2.2.2.2.2.2.2 hf) 100000 (x0, x1, x2, x3, x4, x5, x6, h) hf
end Sf_X11_reform
def f_X11_reform (x0 : Nat) (x1 : Int32) (x2 : Int32) (h : hp_H) : Option (Int32 × hp_H) := gd h x0 11 ((wr_I h x0 11 0 0).bind fun h1 => (f_X11_isMan x0 x1 h1).bind fun r2 => if r2.1 = 0 then (f_X11_reform_22 r2.2) else ((f_X11_isWhat x0 x2 1 r2.2).bind fun r3 => if r3.1 = 0 then (f_X11_reform_22 r3.2) else ((f_X11_rowOf x0 0 x1 r3.2).bind fun r4 => (f_X11_tries x0 r4.2).bind fun r5 => l_X11_reform_46 x0 x1 x2 r4.1 (-1) 99999 0 r5)))
set_option maxRecDepth 20000 in
theorem c_X11_reform (l : Launch) (x0 : Nat) (x1 : Int32) (x2 : Int32) (h : hp_H) (r : Int32 × hp_H) (hf : f_X11_reform x0 x1 x2 h = some r) : cv l (5) yX11_reform cX11_reform 8 (some .int) 11 x0 [.int x1, .int x2] h (some (.int r.1)) r.2 := by
  unfold f_X11_reform at hf
  refine cv_of (lv := [(0, .ref x0), (1, .int x1), (2, .int x2)]) hf (by decide +kernel) (Nat.le_of_ble_eq_true rfl) rfl (fun hf p e s m args below meth c G X => ?_)
  refine wk_aload_n X dX11_reform_0 0 rfl ?_
  refine wk_iconst X dX11_reform_1 ic_0 ?_
  refine wk_putI X dX11_reform_2 fo_X11_84 hf (fun h1 hf => ?_)
  refine wk_aload_n X dX11_reform_5 0 rfl ?_
  refine wk_iload_n X dX11_reform_6 1 rfl ?_
  refine wk_callVi X [.int x1] [] dX11_reform_7 rfl vo_X11_327 rfl (by decide) (Nat.le_of_ble_eq_true rfl) hf (c_X11_isMan l _ _ _) (fun r2 hf => ?_)
  refine wk_if_eq X 22 dX11_reform_10 (by decide) hf (fun hf => ?_) (fun hf => ?_)
  · exact wq_sub [] rfl (w_X11_reform_22 X _ hf)
  · refine wk_aload_n X dX11_reform_13 0 rfl ?_
    refine wk_iload_n X dX11_reform_14 2 rfl ?_
    refine wk_iconst X dX11_reform_15 ic_1 ?_
    refine wk_callVi X [.int x2, .int 1] [] dX11_reform_16 rfl vo_X11_330 rfl (by decide) (Nat.le_of_ble_eq_true rfl) hf (c_X11_isWhat l _ _ _ _) (fun r3 hf => ?_)
    refine wk_if_ne X 24 dX11_reform_19 (by decide) hf (fun hf => ?_) (fun hf => ?_)
    · refine wk_aload_n X dX11_reform_24 0 rfl ?_
      refine wk_iconst X dX11_reform_25 ic_0 ?_
      refine wk_iload_n X dX11_reform_26 1 rfl ?_
      refine wk_callVi X [.int 0, .int x1] [] dX11_reform_27 rfl vo_X11_311 rfl (by decide) (Nat.le_of_ble_eq_true rfl) hf (c_X11_rowOf l _ _ _ _) (fun r4 hf => ?_)
      refine wk_istore_n (lv' := [(3, .int r4.1), (0, .ref x0), (1, .int x1), (2, .int x2)]) X dX11_reform_30 (by decide) rfl ?_
      refine wk_iconst X dX11_reform_31 ic_m1 ?_
      refine wk_istore (lv' := [(4, .int (-1)), (3, .int r4.1), (0, .ref x0), (1, .int x1), (2, .int x2)]) X dX11_reform_32 (by decide) rfl ?_
      refine wk_ldcw X dX11_reform_34 mt_X11_362 ?_
      refine wk_istore (lv' := [(5, .int 99999), (4, .int (-1)), (3, .int r4.1), (0, .ref x0), (1, .int x1), (2, .int x2)]) X dX11_reform_37 (by decide) rfl ?_
      refine wk_aload_n X dX11_reform_39 3 rfl ?_
      refine wk_callVv X [] [] dX11_reform_40 rfl vo_X11_347 rfl (by decide) (Nat.le_of_ble_eq_true rfl) hf (c_X11_tries l _ _) (fun r5 hf => ?_)
      refine wk_iconst X dX11_reform_43 ic_0 ?_
      refine wk_istore (lv' := [(6, .int 0), (5, .int 99999), (4, .int (-1)), (3, .int r4.1), (0, .ref x0), (1, .int x1), (2, .int x2)]) X dX11_reform_44 (by decide) rfl ?_
      exact wq_sub [4, 5, 6, 3, 2, 1, 0] rfl (wl_X11_reform_46 X _ _ _ _ _ _ _ _ hf)
    · exact wq_sub [] rfl (w_X11_reform_22 X _ hf)
section Sf_X11_swap
variable {p : Program} {l : Launch} {e : Env} {s : State} {m : MethodId} {args : Array Value} {below : List Frame} {meth : Method} {c : Code} {G : hp_G} {o : Int32 × hp_H}
def f_X11_swap_120 (x2 : Int32) (h : hp_H) : Option (Int32 × hp_H) := some (x2, h)
set_option maxRecDepth 20000 in
theorem w_X11_swap_120 (X : wx G p s m args meth c cX11_swap 6 RX11 (some .int)) (x2 : Int32) (h : hp_H) (hf : f_X11_swap_120 x2 h = some o) : wq p l e (mt_R (6) 0 0) s m args below meth c (MQ below (mt_Q G (some (.int o.1)) o.2) args s 0 0 (hp_A G)) G 6 0 0 120 [(2, .int x2)] [] h := by
  unfold f_X11_swap_120 at hf
  refine wk_iload_n X dX11_swap_120 0 rfl ?_
  exact wk_ireturn X dX11_swap_121 hf
def f_X11_swap_114 (k18 : Nat → Int32 → Int32 → Int32 → hp_H → Option (Int32 × hp_H)) (x0 : Nat) (x1 : Int32) (x2 : Int32) (x3 : Int32) (h : hp_H) : Option (Int32 × hp_H) := k18 x0 x1 x2 (x3 + 1) h
set_option maxRecDepth 20000 in
theorem w_X11_swap_114 (X : wx G p s m args meth c cX11_swap 6 RX11 (some .int)) (k18 : Nat → Int32 → Int32 → Int32 → hp_H → Option (Int32 × hp_H)) (hk18 : ∀ (x0 : Nat) (x1 : Int32) (x2 : Int32) (x3 : Int32) (h : hp_H), k18 x0 x1 x2 x3 h = some o → wq p l e (mt_R (6) 0 0) s m args below meth c (MQ below (mt_Q G (some (.int o.1)) o.2) args s 0 0 (hp_A G)) G 6 0 0 18 [(0, .ref x0), (1, .int x1), (2, .int x2), (3, .int x3)] [] h) (x0 : Nat) (x1 : Int32) (x2 : Int32) (x3 : Int32) (h : hp_H) (hf : f_X11_swap_114 k18 x0 x1 x2 x3 h = some o) : wq p l e (mt_R (6) 0 0) s m args below meth c (MQ below (mt_Q G (some (.int o.1)) o.2) args s 0 0 (hp_A G)) G 6 0 0 114 [(0, .ref x0), (1, .int x1), (2, .int x2), (3, .int x3)] [] h := by
  unfold f_X11_swap_114 at hf
  refine wk_iinc (lv' := [(3, .int (x3 + 1)), (0, .ref x0), (1, .int x1), (2, .int x2)]) X dX11_swap_114 3 rfl ic_1 (by decide) rfl ?_
  refine wk_goto X 18 dX11_swap_117 (by decide) ?_
  exact wq_sub [1, 2, 3, 0] rfl (hk18 _ _ _ _ _ hf)
def f_X11_swap_108 (k18 : Nat → Int32 → Int32 → Int32 → hp_H → Option (Int32 × hp_H)) (k31 : Nat → Int32 → Int32 → Int32 → Int32 → hp_H → Option (Int32 × hp_H)) (x0 : Nat) (x1 : Int32) (x2 : Int32) (x3 : Int32) (x4 : Int32) (h : hp_H) : Option (Int32 × hp_H) := k31 x0 x1 x2 x3 (x4 + 1) h
set_option maxRecDepth 20000 in
theorem w_X11_swap_108 (X : wx G p s m args meth c cX11_swap 6 RX11 (some .int)) (k18 : Nat → Int32 → Int32 → Int32 → hp_H → Option (Int32 × hp_H)) (hk18 : ∀ (x0 : Nat) (x1 : Int32) (x2 : Int32) (x3 : Int32) (h : hp_H), k18 x0 x1 x2 x3 h = some o → wq p l e (mt_R (6) 0 0) s m args below meth c (MQ below (mt_Q G (some (.int o.1)) o.2) args s 0 0 (hp_A G)) G 6 0 0 18 [(0, .ref x0), (1, .int x1), (2, .int x2), (3, .int x3)] [] h) (k31 : Nat → Int32 → Int32 → Int32 → Int32 → hp_H → Option (Int32 × hp_H)) (hk31 : ∀ (x0 : Nat) (x1 : Int32) (x2 : Int32) (x3 : Int32) (x4 : Int32) (h : hp_H), k31 x0 x1 x2 x3 x4 h = some o → wq p l e (mt_R (6) 0 0) s m args below meth c (MQ below (mt_Q G (some (.int o.1)) o.2) args s 0 0 (hp_A G)) G 6 0 0 31 [(0, .ref x0), (1, .int x1), (2, .int x2), (3, .int x3), (4, .int x4)] [] h) (x0 : Nat) (x1 : Int32) (x2 : Int32) (x3 : Int32) (x4 : Int32) (h : hp_H) (hf : f_X11_swap_108 k18 k31 x0 x1 x2 x3 x4 h = some o) : wq p l e (mt_R (6) 0 0) s m args below meth c (MQ below (mt_Q G (some (.int o.1)) o.2) args s 0 0 (hp_A G)) G 6 0 0 108 [(0, .ref x0), (1, .int x1), (2, .int x2), (3, .int x3), (4, .int x4)] [] h := by
  unfold f_X11_swap_108 at hf
  refine wk_iinc (lv' := [(4, .int (x4 + 1)), (0, .ref x0), (1, .int x1), (2, .int x2), (3, .int x3)]) X dX11_swap_108 4 rfl ic_1 (by decide) rfl ?_
  refine wk_goto X 31 dX11_swap_111 (by decide) ?_
  exact wq_sub [1, 2, 3, 4, 0] rfl (hk31 _ _ _ _ _ _ hf)
def f_X11_swap_31 (k18 : Nat → Int32 → Int32 → Int32 → hp_H → Option (Int32 × hp_H)) (k31 : Nat → Int32 → Int32 → Int32 → Int32 → hp_H → Option (Int32 × hp_H)) (x0 : Nat) (x1 : Int32) (x2 : Int32) (x3 : Int32) (x4 : Int32) (h : hp_H) : Option (Int32 × hp_H) := (rd_I h x0 11 3).bind fun v1 => if v1 ≤ x4 then (f_X11_swap_114 k18 x0 x1 x2 x3 h) else ((f_X11_tries x0 h).bind fun r2 => (rd_R r2 x0 11 36).bind fun v3 => (rd_R r2 x0 11 36).bind fun v4 => (rd_A r2 0 v4 (25 + x4)).bind fun v5 => (wr_A r2 v3 (58 + x3) v5).bind fun h6 => (rd_R h6 x0 11 36).bind fun v7 => (rd_R h6 x0 11 36).bind fun v8 => (rd_A h6 0 v8 (25 + x3)).bind fun v9 => (wr_A h6 v7 (58 + x4) v9).bind fun h10 => (f_X11_rightOnes x0 h10).bind fun r11 => if x1 < r11.1 then (f_X11_swap_108 k18 k31 x0 r11.1 ((10 * x3) + x4) x3 x4 r11.2) else (f_X11_swap_108 k18 k31 x0 x1 x2 x3 x4 r11.2))
set_option maxRecDepth 20000 in
theorem w_X11_swap_31 (X : wx G p s m args meth c cX11_swap 6 RX11 (some .int)) (k18 : Nat → Int32 → Int32 → Int32 → hp_H → Option (Int32 × hp_H)) (hk18 : ∀ (x0 : Nat) (x1 : Int32) (x2 : Int32) (x3 : Int32) (h : hp_H), k18 x0 x1 x2 x3 h = some o → wq p l e (mt_R (6) 0 0) s m args below meth c (MQ below (mt_Q G (some (.int o.1)) o.2) args s 0 0 (hp_A G)) G 6 0 0 18 [(0, .ref x0), (1, .int x1), (2, .int x2), (3, .int x3)] [] h) (k31 : Nat → Int32 → Int32 → Int32 → Int32 → hp_H → Option (Int32 × hp_H)) (hk31 : ∀ (x0 : Nat) (x1 : Int32) (x2 : Int32) (x3 : Int32) (x4 : Int32) (h : hp_H), k31 x0 x1 x2 x3 x4 h = some o → wq p l e (mt_R (6) 0 0) s m args below meth c (MQ below (mt_Q G (some (.int o.1)) o.2) args s 0 0 (hp_A G)) G 6 0 0 31 [(0, .ref x0), (1, .int x1), (2, .int x2), (3, .int x3), (4, .int x4)] [] h) (x0 : Nat) (x1 : Int32) (x2 : Int32) (x3 : Int32) (x4 : Int32) (h : hp_H) (hf : f_X11_swap_31 k18 k31 x0 x1 x2 x3 x4 h = some o) : wq p l e (mt_R (6) 0 0) s m args below meth c (MQ below (mt_Q G (some (.int o.1)) o.2) args s 0 0 (hp_A G)) G 6 0 0 31 [(0, .ref x0), (1, .int x1), (2, .int x2), (3, .int x3), (4, .int x4)] [] h := by
  unfold f_X11_swap_31 at hf
  refine wk_iload X dX11_swap_31 4 rfl ?_
  refine wk_aload_n X dX11_swap_33 0 rfl ?_
  refine wk_getI X dX11_swap_34 fo_X11_254 hf (fun v1 hf => ?_)
  refine wk_icmp_ge X 114 dX11_swap_37 (by decide) hf (fun hf => ?_) (fun hf => ?_)
  · exact wq_sub [0, 1, 2, 3] rfl (w_X11_swap_114 X k18 hk18 _ _ _ _ _ hf)
  · refine wk_aload_n X dX11_swap_40 0 rfl ?_
    refine wk_callVv X [] [] dX11_swap_41 rfl vo_X11_347 rfl (by decide) (Nat.le_of_ble_eq_true rfl) hf (c_X11_tries l _ _) (fun r2 hf => ?_)
    refine wk_aload_n X dX11_swap_44 0 rfl ?_
    refine wk_getR X dX11_swap_45 fo_X11_51 hf (fun v3 hf => ?_)
    refine wk_bipush X dX11_swap_48 ib_58 ?_
    refine wk_iload_n X dX11_swap_50 3 rfl ?_
    refine wk_iadd X dX11_swap_51 ?_
    refine wk_aload_n X dX11_swap_52 0 rfl ?_
    refine wk_getR X dX11_swap_53 fo_X11_51 hf (fun v4 hf => ?_)
    refine wk_bipush X dX11_swap_56 ib_25 ?_
    refine wk_iload X dX11_swap_58 4 rfl ?_
    refine wk_iadd X dX11_swap_60 ?_
    refine wk_iald X dX11_swap_61 hf (fun v5 hf => ?_)
    refine wk_iast X dX11_swap_62 hf (fun h6 hf => ?_)
    refine wk_aload_n X dX11_swap_63 0 rfl ?_
    refine wk_getR X dX11_swap_64 fo_X11_51 hf (fun v7 hf => ?_)
    refine wk_bipush X dX11_swap_67 ib_58 ?_
    refine wk_iload X dX11_swap_69 4 rfl ?_
    refine wk_iadd X dX11_swap_71 ?_
    refine wk_aload_n X dX11_swap_72 0 rfl ?_
    refine wk_getR X dX11_swap_73 fo_X11_51 hf (fun v8 hf => ?_)
    refine wk_bipush X dX11_swap_76 ib_25 ?_
    refine wk_iload_n X dX11_swap_78 3 rfl ?_
    refine wk_iadd X dX11_swap_79 ?_
    refine wk_iald X dX11_swap_80 hf (fun v9 hf => ?_)
    refine wk_iast X dX11_swap_81 hf (fun h10 hf => ?_)
    refine wk_aload_n X dX11_swap_82 0 rfl ?_
    refine wk_callVi X [] [] dX11_swap_83 rfl vo_X11_372 rfl (by decide) (Nat.le_of_ble_eq_true rfl) hf (c_X11_rightOnes l _ _) (fun r11 hf => ?_)
    refine wk_istore (lv' := [(5, .int r11.1), (0, .ref x0), (1, .int x1), (2, .int x2), (3, .int x3), (4, .int x4)]) X dX11_swap_86 (by decide) rfl ?_
    refine wk_iload X dX11_swap_88 0 rfl ?_
    refine wk_iload_n X dX11_swap_90 2 rfl ?_
    refine wk_icmp_gt X 97 dX11_swap_91 (by decide) hf (fun hf => ?_) (fun hf => ?_)
    · refine wk_bipush X dX11_swap_97 ib_10 ?_
      refine wk_iload_n X dX11_swap_99 4 rfl ?_
      refine wk_imul X dX11_swap_100 ?_
      refine wk_iload X dX11_swap_101 5 rfl ?_
      refine wk_iadd X dX11_swap_103 ?_
      refine wk_istore_n (lv' := [(2, .int ((10 * x3) + x4)), (5, .int r11.1), (0, .ref x0), (1, .int x1), (3, .int x3), (4, .int x4)]) X dX11_swap_104 (by decide) rfl ?_
      refine wk_iload X dX11_swap_105 1 rfl ?_
      refine wk_istore_n (lv' := [(1, .int r11.1), (2, .int ((10 * x3) + x4)), (5, .int r11.1), (0, .ref x0), (3, .int x3), (4, .int x4)]) X dX11_swap_107 (by decide) rfl ?_
      exact wq_sub [3, 0, 1, 4, 5] rfl (w_X11_swap_108 X k18 hk18 k31 hk31 _ _ _ _ _ _ hf)
    · refine wk_goto X 108 dX11_swap_94 (by decide) ?_
      exact wq_sub [1, 2, 3, 4, 5] rfl (w_X11_swap_108 X k18 hk18 k31 hk31 _ _ _ _ _ _ hf)
def l_X11_swap_31 (k18 : Nat → Int32 → Int32 → Int32 → hp_H → Option (Int32 × hp_H)) (x0 : Nat) (x1 : Int32) (x2 : Int32) (x3 : Int32) (x4 : Int32) (h : hp_H) : Option (Int32 × hp_H) := lp (fun k (s : Nat × Int32 × Int32 × Int32 × Int32 × hp_H) => f_X11_swap_31 k18 (fun a0 a1 a2 a3 a4 a5 => k (a0, a1, a2, a3, a4, a5)) s.1 s.2.1 s.2.2.1 s.2.2.2.1 s.2.2.2.2.1 s.2.2.2.2.2) 100000 (x0, x1, x2, x3, x4, h)
theorem wl_X11_swap_31 (X : wx G p s m args meth c cX11_swap 6 RX11 (some .int)) (k18 : Nat → Int32 → Int32 → Int32 → hp_H → Option (Int32 × hp_H)) (hk18 : ∀ (x0 : Nat) (x1 : Int32) (x2 : Int32) (x3 : Int32) (h : hp_H), k18 x0 x1 x2 x3 h = some o → wq p l e (mt_R (6) 0 0) s m args below meth c (MQ below (mt_Q G (some (.int o.1)) o.2) args s 0 0 (hp_A G)) G 6 0 0 18 [(0, .ref x0), (1, .int x1), (2, .int x2), (3, .int x3)] [] h) (x0 : Nat) (x1 : Int32) (x2 : Int32) (x3 : Int32) (x4 : Int32) (h : hp_H) (hf : l_X11_swap_31 k18 x0 x1 x2 x3 x4 h = some o) : wq p l e (mt_R (6) 0 0) s m args below meth c (MQ below (mt_Q G (some (.int o.1)) o.2) args s 0 0 (hp_A G)) G 6 0 0 31 [(0, .ref x0), (1, .int x1), (2, .int x2), (3, .int x3), (4, .int x4)] [] h :=
  lp_ind (P := fun (s_ : Nat × Int32 × Int32 × Int32 × Int32 × hp_H) => wq p l e (mt_R (6) 0 0) s m args below meth c (MQ below (mt_Q G (some (.int o.1)) o.2) args s 0 0 (hp_A G)) G 6 0 0 31 [(0, .ref s_.1), (1, .int s_.2.1), (2, .int s_.2.2.1), (3, .int s_.2.2.2.1), (4, .int s_.2.2.2.2.1)] [] s_.2.2.2.2.2) (fun k s hk hf => w_X11_swap_31 X k18 hk18 (fun a0 a1 a2 a3 a4 a5 => k (a0, a1, a2, a3, a4, a5)) (fun a0 a1 a2 a3 a4 a5 hf => hk (a0, a1, a2, a3, a4, a5) hf) s.1 s.2.1 s.2.2.1 s.2.2.2.1 s.2.2.2.2.1 s.2.2.2.2.2 hf) 100000 (x0, x1, x2, x3, x4, h) hf
def f_X11_swap_18 (k18 : Nat → Int32 → Int32 → Int32 → hp_H → Option (Int32 × hp_H)) (x0 : Nat) (x1 : Int32) (x2 : Int32) (x3 : Int32) (h : hp_H) : Option (Int32 × hp_H) := (rd_I h x0 11 3).bind fun v1 => if v1 ≤ x3 then (f_X11_swap_120 x2 h) else (l_X11_swap_31 k18 x0 x1 x2 x3 (x3 + 1) h)
set_option maxRecDepth 20000 in
theorem w_X11_swap_18 (X : wx G p s m args meth c cX11_swap 6 RX11 (some .int)) (k18 : Nat → Int32 → Int32 → Int32 → hp_H → Option (Int32 × hp_H)) (hk18 : ∀ (x0 : Nat) (x1 : Int32) (x2 : Int32) (x3 : Int32) (h : hp_H), k18 x0 x1 x2 x3 h = some o → wq p l e (mt_R (6) 0 0) s m args below meth c (MQ below (mt_Q G (some (.int o.1)) o.2) args s 0 0 (hp_A G)) G 6 0 0 18 [(0, .ref x0), (1, .int x1), (2, .int x2), (3, .int x3)] [] h) (x0 : Nat) (x1 : Int32) (x2 : Int32) (x3 : Int32) (h : hp_H) (hf : f_X11_swap_18 k18 x0 x1 x2 x3 h = some o) : wq p l e (mt_R (6) 0 0) s m args below meth c (MQ below (mt_Q G (some (.int o.1)) o.2) args s 0 0 (hp_A G)) G 6 0 0 18 [(0, .ref x0), (1, .int x1), (2, .int x2), (3, .int x3)] [] h := by
  unfold f_X11_swap_18 at hf
  refine wk_iload_n X dX11_swap_18 3 rfl ?_
  refine wk_aload_n X dX11_swap_19 0 rfl ?_
  refine wk_getI X dX11_swap_20 fo_X11_254 hf (fun v1 hf => ?_)
  refine wk_icmp_ge X 120 dX11_swap_23 (by decide) hf (fun hf => ?_) (fun hf => ?_)
  · exact wq_sub [2] rfl (w_X11_swap_120 X _ _ hf)
  · refine wk_iload_n X dX11_swap_26 3 rfl ?_
    refine wk_iconst X dX11_swap_27 ic_1 ?_
    refine wk_iadd X dX11_swap_28 ?_
    refine wk_istore (lv' := [(4, .int (x3 + 1)), (0, .ref x0), (1, .int x1), (2, .int x2), (3, .int x3)]) X dX11_swap_29 (by decide) rfl ?_
    exact wq_sub [1, 2, 3, 4, 0] rfl (wl_X11_swap_31 X k18 hk18 _ _ _ _ _ _ hf)
def l_X11_swap_18 (x0 : Nat) (x1 : Int32) (x2 : Int32) (x3 : Int32) (h : hp_H) : Option (Int32 × hp_H) := lp (fun k (s : Nat × Int32 × Int32 × Int32 × hp_H) => f_X11_swap_18  (fun a0 a1 a2 a3 a4 => k (a0, a1, a2, a3, a4)) s.1 s.2.1 s.2.2.1 s.2.2.2.1 s.2.2.2.2) 100000 (x0, x1, x2, x3, h)
theorem wl_X11_swap_18 (X : wx G p s m args meth c cX11_swap 6 RX11 (some .int)) (x0 : Nat) (x1 : Int32) (x2 : Int32) (x3 : Int32) (h : hp_H) (hf : l_X11_swap_18 x0 x1 x2 x3 h = some o) : wq p l e (mt_R (6) 0 0) s m args below meth c (MQ below (mt_Q G (some (.int o.1)) o.2) args s 0 0 (hp_A G)) G 6 0 0 18 [(0, .ref x0), (1, .int x1), (2, .int x2), (3, .int x3)] [] h :=
  lp_ind (P := fun (s_ : Nat × Int32 × Int32 × Int32 × hp_H) => wq p l e (mt_R (6) 0 0) s m args below meth c (MQ below (mt_Q G (some (.int o.1)) o.2) args s 0 0 (hp_A G)) G 6 0 0 18 [(0, .ref s_.1), (1, .int s_.2.1), (2, .int s_.2.2.1), (3, .int s_.2.2.2.1)] [] s_.2.2.2.2) (fun k s hk hf => w_X11_swap_18 X  (fun a0 a1 a2 a3 a4 => k (a0, a1, a2, a3, a4)) (fun a0 a1 a2 a3 a4 hf => hk (a0, a1, a2, a3, a4) hf) s.1 s.2.1 s.2.2.1 s.2.2.2.1 s.2.2.2.2 hf) 100000 (x0, x1, x2, x3, h) hf
end Sf_X11_swap
def f_X11_swap (x0 : Nat) (h : hp_H) : Option (Int32 × hp_H) := gd h x0 11 ((wr_I h x0 11 0 0).bind fun h1 => (f_X11_tries x0 h1).bind fun r2 => (f_X11_rightOnes x0 r2).bind fun r3 => l_X11_swap_18 x0 r3.1 (-1) 0 r3.2)
set_option maxRecDepth 20000 in
theorem c_X11_swap (l : Launch) (x0 : Nat) (h : hp_H) (r : Int32 × hp_H) (hf : f_X11_swap x0 h = some r) : cv l (6) yX11_swap cX11_swap 6 (some .int) 11 x0 [] h (some (.int r.1)) r.2 := by
  unfold f_X11_swap at hf
  refine cv_of (lv := [(0, .ref x0)]) hf (by decide +kernel) (Nat.le_of_ble_eq_true rfl) rfl (fun hf p e s m args below meth c G X => ?_)
  refine wk_aload_n X dX11_swap_0 0 rfl ?_
  refine wk_iconst X dX11_swap_1 ic_0 ?_
  refine wk_putI X dX11_swap_2 fo_X11_84 hf (fun h1 hf => ?_)
  refine wk_aload_n X dX11_swap_5 0 rfl ?_
  refine wk_callVv X [] [] dX11_swap_6 rfl vo_X11_347 rfl (by decide) (Nat.le_of_ble_eq_true rfl) hf (c_X11_tries l _ _) (fun r2 hf => ?_)
  refine wk_aload_n X dX11_swap_9 0 rfl ?_
  refine wk_callVi X [] [] dX11_swap_10 rfl vo_X11_372 rfl (by decide) (Nat.le_of_ble_eq_true rfl) hf (c_X11_rightOnes l _ _) (fun r3 hf => ?_)
  refine wk_istore_n (lv' := [(1, .int r3.1), (0, .ref x0)]) X dX11_swap_13 (by decide) rfl ?_
  refine wk_iconst X dX11_swap_14 ic_m1 ?_
  refine wk_istore_n (lv' := [(2, .int (-1)), (1, .int r3.1), (0, .ref x0)]) X dX11_swap_15 (by decide) rfl ?_
  refine wk_iconst X dX11_swap_16 ic_0 ?_
  refine wk_istore_n (lv' := [(3, .int 0), (2, .int (-1)), (1, .int r3.1), (0, .ref x0)]) X dX11_swap_17 (by decide) rfl ?_
  exact wq_sub [3, 2, 1, 0] rfl (wl_X11_swap_18 X _ _ _ _ _ hf)
section Sf_X11_loudest
variable {p : Program} {l : Launch} {e : Env} {s : State} {m : MethodId} {args : Array Value} {below : List Frame} {meth : Method} {c : Code} {G : hp_G} {o : Int32 × hp_H}
def f_X11_loudest_97 (x1 : Int32) (h : hp_H) : Option (Int32 × hp_H) := some (x1, h)
set_option maxRecDepth 20000 in
theorem w_X11_loudest_97 (X : wx G p s m args meth c cX11_loudest 6 RX11 (some .int)) (x1 : Int32) (h : hp_H) (hf : f_X11_loudest_97 x1 h = some o) : wq p l e (mt_R (1) 0 0) s m args below meth c (MQ below (mt_Q G (some (.int o.1)) o.2) args s 0 0 (hp_A G)) G 6 0 0 97 [(1, .int x1)] [] h := by
  unfold f_X11_loudest_97 at hf
  refine wk_iload_n X dX11_loudest_97 0 rfl ?_
  exact wk_ireturn X dX11_loudest_98 hf
def f_X11_loudest_91 (k11 : Nat → Int32 → Int32 → Int32 → hp_H → Option (Int32 × hp_H)) (x0 : Nat) (x1 : Int32) (x2 : Int32) (x3 : Int32) (h : hp_H) : Option (Int32 × hp_H) := k11 x0 x1 x2 (x3 + 1) h
set_option maxRecDepth 20000 in
theorem w_X11_loudest_91 (X : wx G p s m args meth c cX11_loudest 6 RX11 (some .int)) (k11 : Nat → Int32 → Int32 → Int32 → hp_H → Option (Int32 × hp_H)) (hk11 : ∀ (x0 : Nat) (x1 : Int32) (x2 : Int32) (x3 : Int32) (h : hp_H), k11 x0 x1 x2 x3 h = some o → wq p l e (mt_R (1) 0 0) s m args below meth c (MQ below (mt_Q G (some (.int o.1)) o.2) args s 0 0 (hp_A G)) G 6 0 0 11 [(0, .ref x0), (1, .int x1), (2, .int x2), (3, .int x3)] [] h) (x0 : Nat) (x1 : Int32) (x2 : Int32) (x3 : Int32) (h : hp_H) (hf : f_X11_loudest_91 k11 x0 x1 x2 x3 h = some o) : wq p l e (mt_R (1) 0 0) s m args below meth c (MQ below (mt_Q G (some (.int o.1)) o.2) args s 0 0 (hp_A G)) G 6 0 0 91 [(0, .ref x0), (1, .int x1), (2, .int x2), (3, .int x3)] [] h := by
  unfold f_X11_loudest_91 at hf
  refine wk_iinc (lv' := [(3, .int (x3 + 1)), (0, .ref x0), (1, .int x1), (2, .int x2)]) X dX11_loudest_91 3 rfl ic_1 (by decide) rfl ?_
  refine wk_goto X 11 dX11_loudest_94 (by decide) ?_
  exact wq_sub [1, 2, 3, 0] rfl (hk11 _ _ _ _ _ hf)
def f_X11_loudest_77 (k11 : Nat → Int32 → Int32 → Int32 → hp_H → Option (Int32 × hp_H)) (x0 : Nat) (x1 : Int32) (x2 : Int32) (x3 : Int32) (x4 : Int32) (h : hp_H) : Option (Int32 × hp_H) := if x2 < x4 then (f_X11_loudest_91 k11 x0 x3 x4 x3 h) else (f_X11_loudest_91 k11 x0 x1 x2 x3 h)
set_option maxRecDepth 20000 in
theorem w_X11_loudest_77 (X : wx G p s m args meth c cX11_loudest 6 RX11 (some .int)) (k11 : Nat → Int32 → Int32 → Int32 → hp_H → Option (Int32 × hp_H)) (hk11 : ∀ (x0 : Nat) (x1 : Int32) (x2 : Int32) (x3 : Int32) (h : hp_H), k11 x0 x1 x2 x3 h = some o → wq p l e (mt_R (1) 0 0) s m args below meth c (MQ below (mt_Q G (some (.int o.1)) o.2) args s 0 0 (hp_A G)) G 6 0 0 11 [(0, .ref x0), (1, .int x1), (2, .int x2), (3, .int x3)] [] h) (x0 : Nat) (x1 : Int32) (x2 : Int32) (x3 : Int32) (x4 : Int32) (h : hp_H) (hf : f_X11_loudest_77 k11 x0 x1 x2 x3 x4 h = some o) : wq p l e (mt_R (1) 0 0) s m args below meth c (MQ below (mt_Q G (some (.int o.1)) o.2) args s 0 0 (hp_A G)) G 6 0 0 77 [(0, .ref x0), (1, .int x1), (2, .int x2), (3, .int x3), (4, .int x4)] [] h := by
  unfold f_X11_loudest_77 at hf
  refine wk_iload X dX11_loudest_77 4 rfl ?_
  refine wk_iload_n X dX11_loudest_79 2 rfl ?_
  refine wk_icmp_gt X 86 dX11_loudest_80 (by decide) hf (fun hf => ?_) (fun hf => ?_)
  · refine wk_iload_n X dX11_loudest_86 3 rfl ?_
    refine wk_istore_n (lv' := [(1, .int x3), (0, .ref x0), (2, .int x2), (3, .int x3), (4, .int x4)]) X dX11_loudest_87 (by decide) rfl ?_
    refine wk_iload X dX11_loudest_88 4 rfl ?_
    refine wk_istore_n (lv' := [(2, .int x4), (1, .int x3), (0, .ref x0), (3, .int x3), (4, .int x4)]) X dX11_loudest_90 (by decide) rfl ?_
    exact wq_sub [2, 1, 0, 3] rfl (w_X11_loudest_91 X k11 hk11 _ _ _ _ _ hf)
  · refine wk_goto X 91 dX11_loudest_83 (by decide) ?_
    exact wq_sub [0, 1, 2, 3] rfl (w_X11_loudest_91 X k11 hk11 _ _ _ _ _ hf)
def f_X11_loudest_68 (k11 : Nat → Int32 → Int32 → Int32 → hp_H → Option (Int32 × hp_H)) (k25 : Nat → Int32 → Int32 → Int32 → Int32 → Int32 → hp_H → Option (Int32 × hp_H)) (x0 : Nat) (x1 : Int32) (x2 : Int32) (x3 : Int32) (x5 : Int32) (t0 : Int32) (t1 : Int32) (h : hp_H) : Option (Int32 × hp_H) := k25 x0 x1 x2 x3 (t0 + t1) (x5 + 1) h
set_option maxRecDepth 20000 in
theorem w_X11_loudest_68 (X : wx G p s m args meth c cX11_loudest 6 RX11 (some .int)) (k11 : Nat → Int32 → Int32 → Int32 → hp_H → Option (Int32 × hp_H)) (hk11 : ∀ (x0 : Nat) (x1 : Int32) (x2 : Int32) (x3 : Int32) (h : hp_H), k11 x0 x1 x2 x3 h = some o → wq p l e (mt_R (1) 0 0) s m args below meth c (MQ below (mt_Q G (some (.int o.1)) o.2) args s 0 0 (hp_A G)) G 6 0 0 11 [(0, .ref x0), (1, .int x1), (2, .int x2), (3, .int x3)] [] h) (k25 : Nat → Int32 → Int32 → Int32 → Int32 → Int32 → hp_H → Option (Int32 × hp_H)) (hk25 : ∀ (x0 : Nat) (x1 : Int32) (x2 : Int32) (x3 : Int32) (x4 : Int32) (x5 : Int32) (h : hp_H), k25 x0 x1 x2 x3 x4 x5 h = some o → wq p l e (mt_R (1) 0 0) s m args below meth c (MQ below (mt_Q G (some (.int o.1)) o.2) args s 0 0 (hp_A G)) G 6 0 0 25 [(0, .ref x0), (1, .int x1), (2, .int x2), (3, .int x3), (4, .int x4), (5, .int x5)] [] h) (x0 : Nat) (x1 : Int32) (x2 : Int32) (x3 : Int32) (x5 : Int32) (t0 : Int32) (t1 : Int32) (h : hp_H) (hf : f_X11_loudest_68 k11 k25 x0 x1 x2 x3 x5 t0 t1 h = some o) : wq p l e (mt_R (1) 0 0) s m args below meth c (MQ below (mt_Q G (some (.int o.1)) o.2) args s 0 0 (hp_A G)) G 6 0 0 68 [(0, .ref x0), (1, .int x1), (2, .int x2), (3, .int x3), (5, .int x5)] [.int t1, .int t0] h := by
  unfold f_X11_loudest_68 at hf
  refine wk_iadd X dX11_loudest_68 ?_
  refine wk_istore (lv' := [(4, .int (t0 + t1)), (0, .ref x0), (1, .int x1), (2, .int x2), (3, .int x3), (5, .int x5)]) X dX11_loudest_69 (by decide) rfl ?_
  refine wk_iinc (lv' := [(5, .int (x5 + 1)), (4, .int (t0 + t1)), (0, .ref x0), (1, .int x1), (2, .int x2), (3, .int x3)]) X dX11_loudest_71 5 rfl ic_1 (by decide) rfl ?_
  refine wk_goto X 25 dX11_loudest_74 (by decide) ?_
  exact wq_sub [2, 3, 4, 5, 1, 0] rfl (hk25 _ _ _ _ _ _ _ hf)
def f_X11_loudest_25 (k11 : Nat → Int32 → Int32 → Int32 → hp_H → Option (Int32 × hp_H)) (k25 : Nat → Int32 → Int32 → Int32 → Int32 → Int32 → hp_H → Option (Int32 × hp_H)) (x0 : Nat) (x1 : Int32) (x2 : Int32) (x3 : Int32) (x4 : Int32) (x5 : Int32) (h : hp_H) : Option (Int32 × hp_H) := (rd_I h x0 11 2).bind fun v1 => if v1 ≤ x5 then (f_X11_loudest_77 k11 x0 x1 x2 x3 x4 h) else ((rd_R h x0 11 36).bind fun v2 => (rd_A h 0 v2 (25 + x3)).bind fun v3 => if ((v3 >>> (x5 &&& 31)) &&& (1 : Int32)) = 1 then ((rd_R h x0 11 36).bind fun v4 => (rd_A h 0 v4 (9 + x5)).bind fun v5 => f_X11_loudest_68 k11 k25 x0 x1 x2 x3 x5 x4 v5 h) else (f_X11_loudest_68 k11 k25 x0 x1 x2 x3 x5 x4 0 h))
set_option maxRecDepth 20000 in
theorem w_X11_loudest_25 (X : wx G p s m args meth c cX11_loudest 6 RX11 (some .int)) (k11 : Nat → Int32 → Int32 → Int32 → hp_H → Option (Int32 × hp_H)) (hk11 : ∀ (x0 : Nat) (x1 : Int32) (x2 : Int32) (x3 : Int32) (h : hp_H), k11 x0 x1 x2 x3 h = some o → wq p l e (mt_R (1) 0 0) s m args below meth c (MQ below (mt_Q G (some (.int o.1)) o.2) args s 0 0 (hp_A G)) G 6 0 0 11 [(0, .ref x0), (1, .int x1), (2, .int x2), (3, .int x3)] [] h) (k25 : Nat → Int32 → Int32 → Int32 → Int32 → Int32 → hp_H → Option (Int32 × hp_H)) (hk25 : ∀ (x0 : Nat) (x1 : Int32) (x2 : Int32) (x3 : Int32) (x4 : Int32) (x5 : Int32) (h : hp_H), k25 x0 x1 x2 x3 x4 x5 h = some o → wq p l e (mt_R (1) 0 0) s m args below meth c (MQ below (mt_Q G (some (.int o.1)) o.2) args s 0 0 (hp_A G)) G 6 0 0 25 [(0, .ref x0), (1, .int x1), (2, .int x2), (3, .int x3), (4, .int x4), (5, .int x5)] [] h) (x0 : Nat) (x1 : Int32) (x2 : Int32) (x3 : Int32) (x4 : Int32) (x5 : Int32) (h : hp_H) (hf : f_X11_loudest_25 k11 k25 x0 x1 x2 x3 x4 x5 h = some o) : wq p l e (mt_R (1) 0 0) s m args below meth c (MQ below (mt_Q G (some (.int o.1)) o.2) args s 0 0 (hp_A G)) G 6 0 0 25 [(0, .ref x0), (1, .int x1), (2, .int x2), (3, .int x3), (4, .int x4), (5, .int x5)] [] h := by
  unfold f_X11_loudest_25 at hf
  refine wk_iload X dX11_loudest_25 5 rfl ?_
  refine wk_aload_n X dX11_loudest_27 0 rfl ?_
  refine wk_getI X dX11_loudest_28 fo_X11_251 hf (fun v1 hf => ?_)
  refine wk_icmp_ge X 77 dX11_loudest_31 (by decide) hf (fun hf => ?_) (fun hf => ?_)
  · exact wq_sub [0, 1, 2, 3, 4] rfl (w_X11_loudest_77 X k11 hk11 _ _ _ _ _ _ hf)
  · refine wk_iload X dX11_loudest_34 4 rfl ?_
    refine wk_aload_n X dX11_loudest_36 0 rfl ?_
    refine wk_getR X dX11_loudest_37 fo_X11_51 hf (fun v2 hf => ?_)
    refine wk_bipush X dX11_loudest_40 ib_25 ?_
    refine wk_iload_n X dX11_loudest_42 3 rfl ?_
    refine wk_iadd X dX11_loudest_43 ?_
    refine wk_iald X dX11_loudest_44 hf (fun v3 hf => ?_)
    refine wk_iload X dX11_loudest_45 5 rfl ?_
    refine wk_ishr X dX11_loudest_47 ?_
    refine wk_iconst X dX11_loudest_48 ic_1 ?_
    refine wk_iand X dX11_loudest_49 ?_
    refine wk_iconst X dX11_loudest_50 ic_1 ?_
    refine wk_icmp_ne X 67 dX11_loudest_51 (by decide) hf (fun hf => ?_) (fun hf => ?_)
    · refine wk_iconst X dX11_loudest_67 ic_0 ?_
      exact wq_sub [0, 1, 2, 3, 5] rfl (w_X11_loudest_68 X k11 hk11 k25 hk25 _ _ _ _ _ _ _ _ hf)
    · refine wk_aload_n X dX11_loudest_54 0 rfl ?_
      refine wk_getR X dX11_loudest_55 fo_X11_51 hf (fun v4 hf => ?_)
      refine wk_bipush X dX11_loudest_58 ib_9 ?_
      refine wk_iload X dX11_loudest_60 5 rfl ?_
      refine wk_iadd X dX11_loudest_62 ?_
      refine wk_iald X dX11_loudest_63 hf (fun v5 hf => ?_)
      refine wk_goto X 68 dX11_loudest_64 (by decide) ?_
      exact wq_sub [0, 1, 2, 3, 5] rfl (w_X11_loudest_68 X k11 hk11 k25 hk25 _ _ _ _ _ _ _ _ hf)
def l_X11_loudest_25 (k11 : Nat → Int32 → Int32 → Int32 → hp_H → Option (Int32 × hp_H)) (x0 : Nat) (x1 : Int32) (x2 : Int32) (x3 : Int32) (x4 : Int32) (x5 : Int32) (h : hp_H) : Option (Int32 × hp_H) := lp (fun k (s : Nat × Int32 × Int32 × Int32 × Int32 × Int32 × hp_H) => f_X11_loudest_25 k11 (fun a0 a1 a2 a3 a4 a5 a6 => k (a0, a1, a2, a3, a4, a5, a6)) s.1 s.2.1 s.2.2.1 s.2.2.2.1 s.2.2.2.2.1 s.2.2.2.2.2.1 s.2.2.2.2.2.2) 100000 (x0, x1, x2, x3, x4, x5, h)
theorem wl_X11_loudest_25 (X : wx G p s m args meth c cX11_loudest 6 RX11 (some .int)) (k11 : Nat → Int32 → Int32 → Int32 → hp_H → Option (Int32 × hp_H)) (hk11 : ∀ (x0 : Nat) (x1 : Int32) (x2 : Int32) (x3 : Int32) (h : hp_H), k11 x0 x1 x2 x3 h = some o → wq p l e (mt_R (1) 0 0) s m args below meth c (MQ below (mt_Q G (some (.int o.1)) o.2) args s 0 0 (hp_A G)) G 6 0 0 11 [(0, .ref x0), (1, .int x1), (2, .int x2), (3, .int x3)] [] h) (x0 : Nat) (x1 : Int32) (x2 : Int32) (x3 : Int32) (x4 : Int32) (x5 : Int32) (h : hp_H) (hf : l_X11_loudest_25 k11 x0 x1 x2 x3 x4 x5 h = some o) : wq p l e (mt_R (1) 0 0) s m args below meth c (MQ below (mt_Q G (some (.int o.1)) o.2) args s 0 0 (hp_A G)) G 6 0 0 25 [(0, .ref x0), (1, .int x1), (2, .int x2), (3, .int x3), (4, .int x4), (5, .int x5)] [] h :=
  lp_ind (P := fun (s_ : Nat × Int32 × Int32 × Int32 × Int32 × Int32 × hp_H) => wq p l e (mt_R (1) 0 0) s m args below meth c (MQ below (mt_Q G (some (.int o.1)) o.2) args s 0 0 (hp_A G)) G 6 0 0 25 [(0, .ref s_.1), (1, .int s_.2.1), (2, .int s_.2.2.1), (3, .int s_.2.2.2.1), (4, .int s_.2.2.2.2.1), (5, .int s_.2.2.2.2.2.1)] [] s_.2.2.2.2.2.2) (fun k s hk hf => w_X11_loudest_25 X k11 hk11 (fun a0 a1 a2 a3 a4 a5 a6 => k (a0, a1, a2, a3, a4, a5, a6)) (fun a0 a1 a2 a3 a4 a5 a6 hf => hk (a0, a1, a2, a3, a4, a5, a6) hf) s.1 s.2.1 s.2.2.1 s.2.2.2.1 s.2.2.2.2.1 s.2.2.2.2.2.1 s.2.2.2.2.2.2 hf) 100000 (x0, x1, x2, x3, x4, x5, h) hf
def f_X11_loudest_11 (k11 : Nat → Int32 → Int32 → Int32 → hp_H → Option (Int32 × hp_H)) (x0 : Nat) (x1 : Int32) (x2 : Int32) (x3 : Int32) (h : hp_H) : Option (Int32 × hp_H) := (rd_I h x0 11 3).bind fun v1 => if v1 ≤ x3 then (f_X11_loudest_97 x1 h) else (l_X11_loudest_25 k11 x0 x1 x2 x3 0 0 h)
set_option maxRecDepth 20000 in
theorem w_X11_loudest_11 (X : wx G p s m args meth c cX11_loudest 6 RX11 (some .int)) (k11 : Nat → Int32 → Int32 → Int32 → hp_H → Option (Int32 × hp_H)) (hk11 : ∀ (x0 : Nat) (x1 : Int32) (x2 : Int32) (x3 : Int32) (h : hp_H), k11 x0 x1 x2 x3 h = some o → wq p l e (mt_R (1) 0 0) s m args below meth c (MQ below (mt_Q G (some (.int o.1)) o.2) args s 0 0 (hp_A G)) G 6 0 0 11 [(0, .ref x0), (1, .int x1), (2, .int x2), (3, .int x3)] [] h) (x0 : Nat) (x1 : Int32) (x2 : Int32) (x3 : Int32) (h : hp_H) (hf : f_X11_loudest_11 k11 x0 x1 x2 x3 h = some o) : wq p l e (mt_R (1) 0 0) s m args below meth c (MQ below (mt_Q G (some (.int o.1)) o.2) args s 0 0 (hp_A G)) G 6 0 0 11 [(0, .ref x0), (1, .int x1), (2, .int x2), (3, .int x3)] [] h := by
  unfold f_X11_loudest_11 at hf
  refine wk_iload_n X dX11_loudest_11 3 rfl ?_
  refine wk_aload_n X dX11_loudest_12 0 rfl ?_
  refine wk_getI X dX11_loudest_13 fo_X11_254 hf (fun v1 hf => ?_)
  refine wk_icmp_ge X 97 dX11_loudest_16 (by decide) hf (fun hf => ?_) (fun hf => ?_)
  · exact wq_sub [1] rfl (w_X11_loudest_97 X _ _ hf)
  · refine wk_iconst X dX11_loudest_19 ic_0 ?_
    refine wk_istore (lv' := [(4, .int 0), (0, .ref x0), (1, .int x1), (2, .int x2), (3, .int x3)]) X dX11_loudest_20 (by decide) rfl ?_
    refine wk_iconst X dX11_loudest_22 ic_0 ?_
    refine wk_istore (lv' := [(5, .int 0), (4, .int 0), (0, .ref x0), (1, .int x1), (2, .int x2), (3, .int x3)]) X dX11_loudest_23 (by decide) rfl ?_
    exact wq_sub [2, 3, 4, 5, 1, 0] rfl (wl_X11_loudest_25 X k11 hk11 _ _ _ _ _ _ _ hf)
def l_X11_loudest_11 (x0 : Nat) (x1 : Int32) (x2 : Int32) (x3 : Int32) (h : hp_H) : Option (Int32 × hp_H) := lp (fun k (s : Nat × Int32 × Int32 × Int32 × hp_H) => f_X11_loudest_11  (fun a0 a1 a2 a3 a4 => k (a0, a1, a2, a3, a4)) s.1 s.2.1 s.2.2.1 s.2.2.2.1 s.2.2.2.2) 100000 (x0, x1, x2, x3, h)
theorem wl_X11_loudest_11 (X : wx G p s m args meth c cX11_loudest 6 RX11 (some .int)) (x0 : Nat) (x1 : Int32) (x2 : Int32) (x3 : Int32) (h : hp_H) (hf : l_X11_loudest_11 x0 x1 x2 x3 h = some o) : wq p l e (mt_R (1) 0 0) s m args below meth c (MQ below (mt_Q G (some (.int o.1)) o.2) args s 0 0 (hp_A G)) G 6 0 0 11 [(0, .ref x0), (1, .int x1), (2, .int x2), (3, .int x3)] [] h :=
  lp_ind (P := fun (s_ : Nat × Int32 × Int32 × Int32 × hp_H) => wq p l e (mt_R (1) 0 0) s m args below meth c (MQ below (mt_Q G (some (.int o.1)) o.2) args s 0 0 (hp_A G)) G 6 0 0 11 [(0, .ref s_.1), (1, .int s_.2.1), (2, .int s_.2.2.1), (3, .int s_.2.2.2.1)] [] s_.2.2.2.2) (fun k s hk hf => w_X11_loudest_11 X  (fun a0 a1 a2 a3 a4 => k (a0, a1, a2, a3, a4)) (fun a0 a1 a2 a3 a4 hf => hk (a0, a1, a2, a3, a4) hf) s.1 s.2.1 s.2.2.1 s.2.2.2.1 s.2.2.2.2 hf) 100000 (x0, x1, x2, x3, h) hf
end Sf_X11_loudest
def f_X11_loudest (x0 : Nat) (h : hp_H) : Option (Int32 × hp_H) := gd h x0 11 ((wr_I h x0 11 0 0).bind fun h1 => l_X11_loudest_11 x0 (-1) (-1) 0 h1)
set_option maxRecDepth 20000 in
theorem c_X11_loudest (l : Launch) (x0 : Nat) (h : hp_H) (r : Int32 × hp_H) (hf : f_X11_loudest x0 h = some r) : cv l (1) yX11_loudest cX11_loudest 6 (some .int) 11 x0 [] h (some (.int r.1)) r.2 := by
  unfold f_X11_loudest at hf
  refine cv_of (lv := [(0, .ref x0)]) hf (by decide +kernel) (Nat.le_of_ble_eq_true rfl) rfl (fun hf p e s m args below meth c G X => ?_)
  refine wk_aload_n X dX11_loudest_0 0 rfl ?_
  refine wk_iconst X dX11_loudest_1 ic_0 ?_
  refine wk_putI X dX11_loudest_2 fo_X11_84 hf (fun h1 hf => ?_)
  refine wk_iconst X dX11_loudest_5 ic_m1 ?_
  refine wk_istore_n (lv' := [(1, .int (-1)), (0, .ref x0)]) X dX11_loudest_6 (by decide) rfl ?_
  refine wk_iconst X dX11_loudest_7 ic_m1 ?_
  refine wk_istore_n (lv' := [(2, .int (-1)), (1, .int (-1)), (0, .ref x0)]) X dX11_loudest_8 (by decide) rfl ?_
  refine wk_iconst X dX11_loudest_9 ic_0 ?_
  refine wk_istore_n (lv' := [(3, .int 0), (2, .int (-1)), (1, .int (-1)), (0, .ref x0)]) X dX11_loudest_10 (by decide) rfl ?_
  exact wq_sub [3, 2, 1, 0] rfl (wl_X11_loudest_11 X _ _ _ _ _ hf)
section Sf_X11_run
variable {p : Program} {l : Launch} {e : Env} {s : State} {m : MethodId} {args : Array Value} {below : List Frame} {meth : Method} {c : Code} {G : hp_G} {o : Int32 × hp_H}
def f_X11_run_73 (x2 : Int32) (h : hp_H) : Option (Int32 × hp_H) := some (x2, h)
set_option maxRecDepth 20000 in
theorem w_X11_run_73 (X : wx G p s m args meth c cX11_run 5 RX11 (some .int)) (x2 : Int32) (h : hp_H) (hf : f_X11_run_73 x2 h = some o) : wq p l e (mt_R (3) 0 0) s m args below meth c (MQ below (mt_Q G (some (.int o.1)) o.2) args s 0 0 (hp_A G)) G 5 0 0 73 [(2, .int x2)] [] h := by
  unfold f_X11_run_73 at hf
  refine wk_iload_n X dX11_run_73 0 rfl ?_
  exact wk_ireturn X dX11_run_74 hf
def f_X11_run_66 (k22 : Nat → Int32 → Int32 → Int32 → Int32 → hp_H → Option (Int32 × hp_H)) (x0 : Nat) (x1 : Int32) (x3 : Int32) (x4 : Int32) (t0 : Int32) (h : hp_H) : Option (Int32 × hp_H) := k22 x0 x1 t0 x3 (x4 + 1) h
set_option maxRecDepth 20000 in
theorem w_X11_run_66 (X : wx G p s m args meth c cX11_run 5 RX11 (some .int)) (k22 : Nat → Int32 → Int32 → Int32 → Int32 → hp_H → Option (Int32 × hp_H)) (hk22 : ∀ (x0 : Nat) (x1 : Int32) (x2 : Int32) (x3 : Int32) (x4 : Int32) (h : hp_H), k22 x0 x1 x2 x3 x4 h = some o → wq p l e (mt_R (3) 0 0) s m args below meth c (MQ below (mt_Q G (some (.int o.1)) o.2) args s 0 0 (hp_A G)) G 5 0 0 22 [(0, .ref x0), (1, .int x1), (2, .int x2), (3, .int x3), (4, .int x4)] [] h) (x0 : Nat) (x1 : Int32) (x3 : Int32) (x4 : Int32) (t0 : Int32) (h : hp_H) (hf : f_X11_run_66 k22 x0 x1 x3 x4 t0 h = some o) : wq p l e (mt_R (3) 0 0) s m args below meth c (MQ below (mt_Q G (some (.int o.1)) o.2) args s 0 0 (hp_A G)) G 5 0 0 66 [(0, .ref x0), (1, .int x1), (3, .int x3), (4, .int x4)] [.int t0] h := by
  unfold f_X11_run_66 at hf
  refine wk_istore_n (lv' := [(2, .int t0), (0, .ref x0), (1, .int x1), (3, .int x3), (4, .int x4)]) X dX11_run_66 (by decide) rfl ?_
  refine wk_iinc (lv' := [(4, .int (x4 + 1)), (2, .int t0), (0, .ref x0), (1, .int x1), (3, .int x3)]) X dX11_run_67 4 rfl ic_1 (by decide) rfl ?_
  refine wk_goto X 22 dX11_run_70 (by decide) ?_
  exact wq_sub [2, 3, 1, 4, 0] rfl (hk22 _ _ _ _ _ _ hf)
def f_X11_run_55 (k22 : Nat → Int32 → Int32 → Int32 → Int32 → hp_H → Option (Int32 × hp_H)) (x0 : Nat) (x1 : Int32) (x2 : Int32) (x4 : Int32) (t0 : Int32) (h : hp_H) : Option (Int32 × hp_H) := if t0 ≤ x2 then (f_X11_run_66 k22 x0 x1 t0 x4 x2 h) else (f_X11_run_66 k22 x0 x1 t0 x4 t0 h)
set_option maxRecDepth 20000 in
theorem w_X11_run_55 (X : wx G p s m args meth c cX11_run 5 RX11 (some .int)) (k22 : Nat → Int32 → Int32 → Int32 → Int32 → hp_H → Option (Int32 × hp_H)) (hk22 : ∀ (x0 : Nat) (x1 : Int32) (x2 : Int32) (x3 : Int32) (x4 : Int32) (h : hp_H), k22 x0 x1 x2 x3 x4 h = some o → wq p l e (mt_R (3) 0 0) s m args below meth c (MQ below (mt_Q G (some (.int o.1)) o.2) args s 0 0 (hp_A G)) G 5 0 0 22 [(0, .ref x0), (1, .int x1), (2, .int x2), (3, .int x3), (4, .int x4)] [] h) (x0 : Nat) (x1 : Int32) (x2 : Int32) (x4 : Int32) (t0 : Int32) (h : hp_H) (hf : f_X11_run_55 k22 x0 x1 x2 x4 t0 h = some o) : wq p l e (mt_R (3) 0 0) s m args below meth c (MQ below (mt_Q G (some (.int o.1)) o.2) args s 0 0 (hp_A G)) G 5 0 0 55 [(0, .ref x0), (1, .int x1), (2, .int x2), (4, .int x4)] [.int t0] h := by
  unfold f_X11_run_55 at hf
  refine wk_istore_n (lv' := [(3, .int t0), (0, .ref x0), (1, .int x1), (2, .int x2), (4, .int x4)]) X dX11_run_55 (by decide) rfl ?_
  refine wk_iload_n X dX11_run_56 0 rfl ?_
  refine wk_iload_n X dX11_run_57 3 rfl ?_
  refine wk_icmp_le X 65 dX11_run_58 (by decide) hf (fun hf => ?_) (fun hf => ?_)
  · refine wk_iload_n X dX11_run_65 3 rfl ?_
    exact wq_sub [1, 2, 0, 4] rfl (w_X11_run_66 X k22 hk22 _ _ _ _ _ _ hf)
  · refine wk_iload_n X dX11_run_61 0 rfl ?_
    refine wk_goto X 66 dX11_run_62 (by decide) ?_
    exact wq_sub [1, 2, 0, 4] rfl (w_X11_run_66 X k22 hk22 _ _ _ _ _ _ hf)
def f_X11_run_22 (k22 : Nat → Int32 → Int32 → Int32 → Int32 → hp_H → Option (Int32 × hp_H)) (x0 : Nat) (x1 : Int32) (x2 : Int32) (x3 : Int32) (x4 : Int32) (h : hp_H) : Option (Int32 × hp_H) := (rd_I h x0 11 1).bind fun v1 => if v1 ≤ x4 then (f_X11_run_73 x2 h) else ((rd_R h x0 11 36).bind fun v2 => (rd_A h 0 v2 (1 + x1)).bind fun v3 => if ((v3 >>> (x4 &&& 31)) &&& (1 : Int32)) = 1 then (f_X11_run_55 k22 x0 x1 x2 x4 (x3 + 1) h) else (f_X11_run_55 k22 x0 x1 x2 x4 0 h))
set_option maxRecDepth 20000 in
theorem w_X11_run_22 (X : wx G p s m args meth c cX11_run 5 RX11 (some .int)) (k22 : Nat → Int32 → Int32 → Int32 → Int32 → hp_H → Option (Int32 × hp_H)) (hk22 : ∀ (x0 : Nat) (x1 : Int32) (x2 : Int32) (x3 : Int32) (x4 : Int32) (h : hp_H), k22 x0 x1 x2 x3 x4 h = some o → wq p l e (mt_R (3) 0 0) s m args below meth c (MQ below (mt_Q G (some (.int o.1)) o.2) args s 0 0 (hp_A G)) G 5 0 0 22 [(0, .ref x0), (1, .int x1), (2, .int x2), (3, .int x3), (4, .int x4)] [] h) (x0 : Nat) (x1 : Int32) (x2 : Int32) (x3 : Int32) (x4 : Int32) (h : hp_H) (hf : f_X11_run_22 k22 x0 x1 x2 x3 x4 h = some o) : wq p l e (mt_R (3) 0 0) s m args below meth c (MQ below (mt_Q G (some (.int o.1)) o.2) args s 0 0 (hp_A G)) G 5 0 0 22 [(0, .ref x0), (1, .int x1), (2, .int x2), (3, .int x3), (4, .int x4)] [] h := by
  unfold f_X11_run_22 at hf
  refine wk_iload X dX11_run_22 4 rfl ?_
  refine wk_aload_n X dX11_run_24 0 rfl ?_
  refine wk_getI X dX11_run_25 fo_X11_7 hf (fun v1 hf => ?_)
  refine wk_icmp_ge X 73 dX11_run_28 (by decide) hf (fun hf => ?_) (fun hf => ?_)
  · exact wq_sub [2] rfl (w_X11_run_73 X _ _ hf)
  · refine wk_aload_n X dX11_run_31 0 rfl ?_
    refine wk_getR X dX11_run_32 fo_X11_51 hf (fun v2 hf => ?_)
    refine wk_iconst X dX11_run_35 ic_1 ?_
    refine wk_iload_n X dX11_run_36 1 rfl ?_
    refine wk_iadd X dX11_run_37 ?_
    refine wk_iald X dX11_run_38 hf (fun v3 hf => ?_)
    refine wk_iload X dX11_run_39 4 rfl ?_
    refine wk_ishr X dX11_run_41 ?_
    refine wk_iconst X dX11_run_42 ic_1 ?_
    refine wk_iand X dX11_run_43 ?_
    refine wk_iconst X dX11_run_44 ic_1 ?_
    refine wk_icmp_ne X 54 dX11_run_45 (by decide) hf (fun hf => ?_) (fun hf => ?_)
    · refine wk_iconst X dX11_run_54 ic_0 ?_
      exact wq_sub [0, 1, 2, 4] rfl (w_X11_run_55 X k22 hk22 _ _ _ _ _ _ hf)
    · refine wk_iload_n X dX11_run_48 3 rfl ?_
      refine wk_iconst X dX11_run_49 ic_1 ?_
      refine wk_iadd X dX11_run_50 ?_
      refine wk_goto X 55 dX11_run_51 (by decide) ?_
      exact wq_sub [0, 1, 2, 4] rfl (w_X11_run_55 X k22 hk22 _ _ _ _ _ _ hf)
def l_X11_run_22 (x0 : Nat) (x1 : Int32) (x2 : Int32) (x3 : Int32) (x4 : Int32) (h : hp_H) : Option (Int32 × hp_H) := lp (fun k (s : Nat × Int32 × Int32 × Int32 × Int32 × hp_H) => f_X11_run_22  (fun a0 a1 a2 a3 a4 a5 => k (a0, a1, a2, a3, a4, a5)) s.1 s.2.1 s.2.2.1 s.2.2.2.1 s.2.2.2.2.1 s.2.2.2.2.2) 100000 (x0, x1, x2, x3, x4, h)
theorem wl_X11_run_22 (X : wx G p s m args meth c cX11_run 5 RX11 (some .int)) (x0 : Nat) (x1 : Int32) (x2 : Int32) (x3 : Int32) (x4 : Int32) (h : hp_H) (hf : l_X11_run_22 x0 x1 x2 x3 x4 h = some o) : wq p l e (mt_R (3) 0 0) s m args below meth c (MQ below (mt_Q G (some (.int o.1)) o.2) args s 0 0 (hp_A G)) G 5 0 0 22 [(0, .ref x0), (1, .int x1), (2, .int x2), (3, .int x3), (4, .int x4)] [] h :=
  lp_ind (P := fun (s_ : Nat × Int32 × Int32 × Int32 × Int32 × hp_H) => wq p l e (mt_R (3) 0 0) s m args below meth c (MQ below (mt_Q G (some (.int o.1)) o.2) args s 0 0 (hp_A G)) G 5 0 0 22 [(0, .ref s_.1), (1, .int s_.2.1), (2, .int s_.2.2.1), (3, .int s_.2.2.2.1), (4, .int s_.2.2.2.2.1)] [] s_.2.2.2.2.2) (fun k s hk hf => w_X11_run_22 X  (fun a0 a1 a2 a3 a4 a5 => k (a0, a1, a2, a3, a4, a5)) (fun a0 a1 a2 a3 a4 a5 hf => hk (a0, a1, a2, a3, a4, a5) hf) s.1 s.2.1 s.2.2.1 s.2.2.2.1 s.2.2.2.2.1 s.2.2.2.2.2 hf) 100000 (x0, x1, x2, x3, x4, h) hf
end Sf_X11_run
def f_X11_run (x0 : Nat) (x1 : Int32) (h : hp_H) : Option (Int32 × hp_H) := gd h x0 11 ((wr_I h x0 11 0 0).bind fun h1 => (f_X11_isMan x0 x1 h1).bind fun r2 => if r2.1 = 0 then (some (0, r2.2)) else (l_X11_run_22 x0 x1 0 0 0 r2.2))
set_option maxRecDepth 20000 in
theorem c_X11_run (l : Launch) (x0 : Nat) (x1 : Int32) (h : hp_H) (r : Int32 × hp_H) (hf : f_X11_run x0 x1 h = some r) : cv l (3) yX11_run cX11_run 5 (some .int) 11 x0 [.int x1] h (some (.int r.1)) r.2 := by
  unfold f_X11_run at hf
  refine cv_of (lv := [(0, .ref x0), (1, .int x1)]) hf (by decide +kernel) (Nat.le_of_ble_eq_true rfl) rfl (fun hf p e s m args below meth c G X => ?_)
  refine wk_aload_n X dX11_run_0 0 rfl ?_
  refine wk_iconst X dX11_run_1 ic_0 ?_
  refine wk_putI X dX11_run_2 fo_X11_84 hf (fun h1 hf => ?_)
  refine wk_aload_n X dX11_run_5 0 rfl ?_
  refine wk_iload_n X dX11_run_6 1 rfl ?_
  refine wk_callVi X [.int x1] [] dX11_run_7 rfl vo_X11_327 rfl (by decide) (Nat.le_of_ble_eq_true rfl) hf (c_X11_isMan l _ _ _) (fun r2 hf => ?_)
  refine wk_if_ne X 15 dX11_run_10 (by decide) hf (fun hf => ?_) (fun hf => ?_)
  · refine wk_iconst X dX11_run_15 ic_0 ?_
    refine wk_istore_n (lv' := [(2, .int 0), (0, .ref x0), (1, .int x1)]) X dX11_run_16 (by decide) rfl ?_
    refine wk_iconst X dX11_run_17 ic_0 ?_
    refine wk_istore_n (lv' := [(3, .int 0), (2, .int 0), (0, .ref x0), (1, .int x1)]) X dX11_run_18 (by decide) rfl ?_
    refine wk_iconst X dX11_run_19 ic_0 ?_
    refine wk_istore (lv' := [(4, .int 0), (3, .int 0), (2, .int 0), (0, .ref x0), (1, .int x1)]) X dX11_run_20 (by decide) rfl ?_
    exact wq_sub [3, 4, 2, 1, 0] rfl (wl_X11_run_22 X _ _ _ _ _ _ hf)
  · refine wk_iconst X dX11_run_13 ic_0 ?_
    exact wk_ireturn X dX11_run_14 hf
section Sf_X11_rarest
variable {p : Program} {l : Launch} {e : Env} {s : State} {m : MethodId} {args : Array Value} {below : List Frame} {meth : Method} {c : Code} {G : hp_G} {o : Int32 × hp_H}
def f_X11_rarest_80 (x1 : Int32) (h : hp_H) : Option (Int32 × hp_H) := some (x1, h)
set_option maxRecDepth 20000 in
theorem w_X11_rarest_80 (X : wx G p s m args meth c cX11_rarest 6 RX11 (some .int)) (x1 : Int32) (h : hp_H) (hf : f_X11_rarest_80 x1 h = some o) : wq p l e (mt_R (1) 0 0) s m args below meth c (MQ below (mt_Q G (some (.int o.1)) o.2) args s 0 0 (hp_A G)) G 6 0 0 80 [(1, .int x1)] [] h := by
  unfold f_X11_rarest_80 at hf
  refine wk_iload_n X dX11_rarest_80 0 rfl ?_
  exact wk_ireturn X dX11_rarest_81 hf
def f_X11_rarest_74 (k13 : Nat → Int32 → Int32 → Int32 → hp_H → Option (Int32 × hp_H)) (x0 : Nat) (x1 : Int32) (x2 : Int32) (x3 : Int32) (h : hp_H) : Option (Int32 × hp_H) := k13 x0 x1 x2 (x3 + 1) h
set_option maxRecDepth 20000 in
theorem w_X11_rarest_74 (X : wx G p s m args meth c cX11_rarest 6 RX11 (some .int)) (k13 : Nat → Int32 → Int32 → Int32 → hp_H → Option (Int32 × hp_H)) (hk13 : ∀ (x0 : Nat) (x1 : Int32) (x2 : Int32) (x3 : Int32) (h : hp_H), k13 x0 x1 x2 x3 h = some o → wq p l e (mt_R (1) 0 0) s m args below meth c (MQ below (mt_Q G (some (.int o.1)) o.2) args s 0 0 (hp_A G)) G 6 0 0 13 [(0, .ref x0), (1, .int x1), (2, .int x2), (3, .int x3)] [] h) (x0 : Nat) (x1 : Int32) (x2 : Int32) (x3 : Int32) (h : hp_H) (hf : f_X11_rarest_74 k13 x0 x1 x2 x3 h = some o) : wq p l e (mt_R (1) 0 0) s m args below meth c (MQ below (mt_Q G (some (.int o.1)) o.2) args s 0 0 (hp_A G)) G 6 0 0 74 [(0, .ref x0), (1, .int x1), (2, .int x2), (3, .int x3)] [] h := by
  unfold f_X11_rarest_74 at hf
  refine wk_iinc (lv' := [(3, .int (x3 + 1)), (0, .ref x0), (1, .int x1), (2, .int x2)]) X dX11_rarest_74 3 rfl ic_1 (by decide) rfl ?_
  refine wk_goto X 13 dX11_rarest_77 (by decide) ?_
  exact wq_sub [1, 2, 3, 0] rfl (hk13 _ _ _ _ _ hf)
def f_X11_rarest_60 (k13 : Nat → Int32 → Int32 → Int32 → hp_H → Option (Int32 × hp_H)) (x0 : Nat) (x1 : Int32) (x2 : Int32) (x3 : Int32) (x4 : Int32) (h : hp_H) : Option (Int32 × hp_H) := if x4 < x2 then (f_X11_rarest_74 k13 x0 x3 x4 x3 h) else (f_X11_rarest_74 k13 x0 x1 x2 x3 h)
set_option maxRecDepth 20000 in
theorem w_X11_rarest_60 (X : wx G p s m args meth c cX11_rarest 6 RX11 (some .int)) (k13 : Nat → Int32 → Int32 → Int32 → hp_H → Option (Int32 × hp_H)) (hk13 : ∀ (x0 : Nat) (x1 : Int32) (x2 : Int32) (x3 : Int32) (h : hp_H), k13 x0 x1 x2 x3 h = some o → wq p l e (mt_R (1) 0 0) s m args below meth c (MQ below (mt_Q G (some (.int o.1)) o.2) args s 0 0 (hp_A G)) G 6 0 0 13 [(0, .ref x0), (1, .int x1), (2, .int x2), (3, .int x3)] [] h) (x0 : Nat) (x1 : Int32) (x2 : Int32) (x3 : Int32) (x4 : Int32) (h : hp_H) (hf : f_X11_rarest_60 k13 x0 x1 x2 x3 x4 h = some o) : wq p l e (mt_R (1) 0 0) s m args below meth c (MQ below (mt_Q G (some (.int o.1)) o.2) args s 0 0 (hp_A G)) G 6 0 0 60 [(0, .ref x0), (1, .int x1), (2, .int x2), (3, .int x3), (4, .int x4)] [] h := by
  unfold f_X11_rarest_60 at hf
  refine wk_iload X dX11_rarest_60 4 rfl ?_
  refine wk_iload_n X dX11_rarest_62 2 rfl ?_
  refine wk_icmp_lt X 69 dX11_rarest_63 (by decide) hf (fun hf => ?_) (fun hf => ?_)
  · refine wk_iload_n X dX11_rarest_69 3 rfl ?_
    refine wk_istore_n (lv' := [(1, .int x3), (0, .ref x0), (2, .int x2), (3, .int x3), (4, .int x4)]) X dX11_rarest_70 (by decide) rfl ?_
    refine wk_iload X dX11_rarest_71 4 rfl ?_
    refine wk_istore_n (lv' := [(2, .int x4), (1, .int x3), (0, .ref x0), (3, .int x3), (4, .int x4)]) X dX11_rarest_73 (by decide) rfl ?_
    exact wq_sub [2, 1, 0, 3] rfl (w_X11_rarest_74 X k13 hk13 _ _ _ _ _ hf)
  · refine wk_goto X 74 dX11_rarest_66 (by decide) ?_
    exact wq_sub [0, 1, 2, 3] rfl (w_X11_rarest_74 X k13 hk13 _ _ _ _ _ hf)
def f_X11_rarest_27 (k13 : Nat → Int32 → Int32 → Int32 → hp_H → Option (Int32 × hp_H)) (k27 : Nat → Int32 → Int32 → Int32 → Int32 → Int32 → hp_H → Option (Int32 × hp_H)) (x0 : Nat) (x1 : Int32) (x2 : Int32) (x3 : Int32) (x4 : Int32) (x5 : Int32) (h : hp_H) : Option (Int32 × hp_H) := (rd_I h x0 11 2).bind fun v1 => if v1 ≤ x5 then (f_X11_rarest_60 k13 x0 x1 x2 x3 x4 h) else ((rd_R h x0 11 36).bind fun v2 => (rd_A h 0 v2 (1 + x5)).bind fun v3 => k27 x0 x1 x2 x3 (x4 + ((v3 >>> (x3 &&& 31)) &&& (1 : Int32))) (x5 + 1) h)
set_option maxRecDepth 20000 in
theorem w_X11_rarest_27 (X : wx G p s m args meth c cX11_rarest 6 RX11 (some .int)) (k13 : Nat → Int32 → Int32 → Int32 → hp_H → Option (Int32 × hp_H)) (hk13 : ∀ (x0 : Nat) (x1 : Int32) (x2 : Int32) (x3 : Int32) (h : hp_H), k13 x0 x1 x2 x3 h = some o → wq p l e (mt_R (1) 0 0) s m args below meth c (MQ below (mt_Q G (some (.int o.1)) o.2) args s 0 0 (hp_A G)) G 6 0 0 13 [(0, .ref x0), (1, .int x1), (2, .int x2), (3, .int x3)] [] h) (k27 : Nat → Int32 → Int32 → Int32 → Int32 → Int32 → hp_H → Option (Int32 × hp_H)) (hk27 : ∀ (x0 : Nat) (x1 : Int32) (x2 : Int32) (x3 : Int32) (x4 : Int32) (x5 : Int32) (h : hp_H), k27 x0 x1 x2 x3 x4 x5 h = some o → wq p l e (mt_R (1) 0 0) s m args below meth c (MQ below (mt_Q G (some (.int o.1)) o.2) args s 0 0 (hp_A G)) G 6 0 0 27 [(0, .ref x0), (1, .int x1), (2, .int x2), (3, .int x3), (4, .int x4), (5, .int x5)] [] h) (x0 : Nat) (x1 : Int32) (x2 : Int32) (x3 : Int32) (x4 : Int32) (x5 : Int32) (h : hp_H) (hf : f_X11_rarest_27 k13 k27 x0 x1 x2 x3 x4 x5 h = some o) : wq p l e (mt_R (1) 0 0) s m args below meth c (MQ below (mt_Q G (some (.int o.1)) o.2) args s 0 0 (hp_A G)) G 6 0 0 27 [(0, .ref x0), (1, .int x1), (2, .int x2), (3, .int x3), (4, .int x4), (5, .int x5)] [] h := by
  unfold f_X11_rarest_27 at hf
  refine wk_iload X dX11_rarest_27 5 rfl ?_
  refine wk_aload_n X dX11_rarest_29 0 rfl ?_
  refine wk_getI X dX11_rarest_30 fo_X11_251 hf (fun v1 hf => ?_)
  refine wk_icmp_ge X 60 dX11_rarest_33 (by decide) hf (fun hf => ?_) (fun hf => ?_)
  · exact wq_sub [0, 1, 2, 3, 4] rfl (w_X11_rarest_60 X k13 hk13 _ _ _ _ _ _ hf)
  · refine wk_iload X dX11_rarest_36 4 rfl ?_
    refine wk_aload_n X dX11_rarest_38 0 rfl ?_
    refine wk_getR X dX11_rarest_39 fo_X11_51 hf (fun v2 hf => ?_)
    refine wk_iconst X dX11_rarest_42 ic_1 ?_
    refine wk_iload X dX11_rarest_43 5 rfl ?_
    refine wk_iadd X dX11_rarest_45 ?_
    refine wk_iald X dX11_rarest_46 hf (fun v3 hf => ?_)
    refine wk_iload_n X dX11_rarest_47 3 rfl ?_
    refine wk_ishr X dX11_rarest_48 ?_
    refine wk_iconst X dX11_rarest_49 ic_1 ?_
    refine wk_iand X dX11_rarest_50 ?_
    refine wk_iadd X dX11_rarest_51 ?_
    refine wk_istore (lv' := [(4, .int (x4 + ((v3 >>> (x3 &&& 31)) &&& (1 : Int32)))), (0, .ref x0), (1, .int x1), (2, .int x2), (3, .int x3), (5, .int x5)]) X dX11_rarest_52 (by decide) rfl ?_
    refine wk_iinc (lv' := [(5, .int (x5 + 1)), (4, .int (x4 + ((v3 >>> (x3 &&& 31)) &&& (1 : Int32)))), (0, .ref x0), (1, .int x1), (2, .int x2), (3, .int x3)]) X dX11_rarest_54 5 rfl ic_1 (by decide) rfl ?_
    refine wk_goto X 27 dX11_rarest_57 (by decide) ?_
    exact wq_sub [2, 3, 4, 5, 1, 0] rfl (hk27 _ _ _ _ _ _ _ hf)
def l_X11_rarest_27 (k13 : Nat → Int32 → Int32 → Int32 → hp_H → Option (Int32 × hp_H)) (x0 : Nat) (x1 : Int32) (x2 : Int32) (x3 : Int32) (x4 : Int32) (x5 : Int32) (h : hp_H) : Option (Int32 × hp_H) := lp (fun k (s : Nat × Int32 × Int32 × Int32 × Int32 × Int32 × hp_H) => f_X11_rarest_27 k13 (fun a0 a1 a2 a3 a4 a5 a6 => k (a0, a1, a2, a3, a4, a5, a6)) s.1 s.2.1 s.2.2.1 s.2.2.2.1 s.2.2.2.2.1 s.2.2.2.2.2.1 s.2.2.2.2.2.2) 100000 (x0, x1, x2, x3, x4, x5, h)
theorem wl_X11_rarest_27 (X : wx G p s m args meth c cX11_rarest 6 RX11 (some .int)) (k13 : Nat → Int32 → Int32 → Int32 → hp_H → Option (Int32 × hp_H)) (hk13 : ∀ (x0 : Nat) (x1 : Int32) (x2 : Int32) (x3 : Int32) (h : hp_H), k13 x0 x1 x2 x3 h = some o → wq p l e (mt_R (1) 0 0) s m args below meth c (MQ below (mt_Q G (some (.int o.1)) o.2) args s 0 0 (hp_A G)) G 6 0 0 13 [(0, .ref x0), (1, .int x1), (2, .int x2), (3, .int x3)] [] h) (x0 : Nat) (x1 : Int32) (x2 : Int32) (x3 : Int32) (x4 : Int32) (x5 : Int32) (h : hp_H) (hf : l_X11_rarest_27 k13 x0 x1 x2 x3 x4 x5 h = some o) : wq p l e (mt_R (1) 0 0) s m args below meth c (MQ below (mt_Q G (some (.int o.1)) o.2) args s 0 0 (hp_A G)) G 6 0 0 27 [(0, .ref x0), (1, .int x1), (2, .int x2), (3, .int x3), (4, .int x4), (5, .int x5)] [] h :=
  lp_ind (P := fun (s_ : Nat × Int32 × Int32 × Int32 × Int32 × Int32 × hp_H) => wq p l e (mt_R (1) 0 0) s m args below meth c (MQ below (mt_Q G (some (.int o.1)) o.2) args s 0 0 (hp_A G)) G 6 0 0 27 [(0, .ref s_.1), (1, .int s_.2.1), (2, .int s_.2.2.1), (3, .int s_.2.2.2.1), (4, .int s_.2.2.2.2.1), (5, .int s_.2.2.2.2.2.1)] [] s_.2.2.2.2.2.2) (fun k s hk hf => w_X11_rarest_27 X k13 hk13 (fun a0 a1 a2 a3 a4 a5 a6 => k (a0, a1, a2, a3, a4, a5, a6)) (fun a0 a1 a2 a3 a4 a5 a6 hf => hk (a0, a1, a2, a3, a4, a5, a6) hf) s.1 s.2.1 s.2.2.1 s.2.2.2.1 s.2.2.2.2.1 s.2.2.2.2.2.1 s.2.2.2.2.2.2 hf) 100000 (x0, x1, x2, x3, x4, x5, h) hf
def f_X11_rarest_13 (k13 : Nat → Int32 → Int32 → Int32 → hp_H → Option (Int32 × hp_H)) (x0 : Nat) (x1 : Int32) (x2 : Int32) (x3 : Int32) (h : hp_H) : Option (Int32 × hp_H) := (rd_I h x0 11 1).bind fun v1 => if v1 ≤ x3 then (f_X11_rarest_80 x1 h) else (l_X11_rarest_27 k13 x0 x1 x2 x3 0 0 h)
set_option maxRecDepth 20000 in
theorem w_X11_rarest_13 (X : wx G p s m args meth c cX11_rarest 6 RX11 (some .int)) (k13 : Nat → Int32 → Int32 → Int32 → hp_H → Option (Int32 × hp_H)) (hk13 : ∀ (x0 : Nat) (x1 : Int32) (x2 : Int32) (x3 : Int32) (h : hp_H), k13 x0 x1 x2 x3 h = some o → wq p l e (mt_R (1) 0 0) s m args below meth c (MQ below (mt_Q G (some (.int o.1)) o.2) args s 0 0 (hp_A G)) G 6 0 0 13 [(0, .ref x0), (1, .int x1), (2, .int x2), (3, .int x3)] [] h) (x0 : Nat) (x1 : Int32) (x2 : Int32) (x3 : Int32) (h : hp_H) (hf : f_X11_rarest_13 k13 x0 x1 x2 x3 h = some o) : wq p l e (mt_R (1) 0 0) s m args below meth c (MQ below (mt_Q G (some (.int o.1)) o.2) args s 0 0 (hp_A G)) G 6 0 0 13 [(0, .ref x0), (1, .int x1), (2, .int x2), (3, .int x3)] [] h := by
  unfold f_X11_rarest_13 at hf
  refine wk_iload_n X dX11_rarest_13 3 rfl ?_
  refine wk_aload_n X dX11_rarest_14 0 rfl ?_
  refine wk_getI X dX11_rarest_15 fo_X11_7 hf (fun v1 hf => ?_)
  refine wk_icmp_ge X 80 dX11_rarest_18 (by decide) hf (fun hf => ?_) (fun hf => ?_)
  · exact wq_sub [1] rfl (w_X11_rarest_80 X _ _ hf)
  · refine wk_iconst X dX11_rarest_21 ic_0 ?_
    refine wk_istore (lv' := [(4, .int 0), (0, .ref x0), (1, .int x1), (2, .int x2), (3, .int x3)]) X dX11_rarest_22 (by decide) rfl ?_
    refine wk_iconst X dX11_rarest_24 ic_0 ?_
    refine wk_istore (lv' := [(5, .int 0), (4, .int 0), (0, .ref x0), (1, .int x1), (2, .int x2), (3, .int x3)]) X dX11_rarest_25 (by decide) rfl ?_
    exact wq_sub [2, 3, 4, 5, 1, 0] rfl (wl_X11_rarest_27 X k13 hk13 _ _ _ _ _ _ _ hf)
def l_X11_rarest_13 (x0 : Nat) (x1 : Int32) (x2 : Int32) (x3 : Int32) (h : hp_H) : Option (Int32 × hp_H) := lp (fun k (s : Nat × Int32 × Int32 × Int32 × hp_H) => f_X11_rarest_13  (fun a0 a1 a2 a3 a4 => k (a0, a1, a2, a3, a4)) s.1 s.2.1 s.2.2.1 s.2.2.2.1 s.2.2.2.2) 100000 (x0, x1, x2, x3, h)
theorem wl_X11_rarest_13 (X : wx G p s m args meth c cX11_rarest 6 RX11 (some .int)) (x0 : Nat) (x1 : Int32) (x2 : Int32) (x3 : Int32) (h : hp_H) (hf : l_X11_rarest_13 x0 x1 x2 x3 h = some o) : wq p l e (mt_R (1) 0 0) s m args below meth c (MQ below (mt_Q G (some (.int o.1)) o.2) args s 0 0 (hp_A G)) G 6 0 0 13 [(0, .ref x0), (1, .int x1), (2, .int x2), (3, .int x3)] [] h :=
  lp_ind (P := fun (s_ : Nat × Int32 × Int32 × Int32 × hp_H) => wq p l e (mt_R (1) 0 0) s m args below meth c (MQ below (mt_Q G (some (.int o.1)) o.2) args s 0 0 (hp_A G)) G 6 0 0 13 [(0, .ref s_.1), (1, .int s_.2.1), (2, .int s_.2.2.1), (3, .int s_.2.2.2.1)] [] s_.2.2.2.2) (fun k s hk hf => w_X11_rarest_13 X  (fun a0 a1 a2 a3 a4 => k (a0, a1, a2, a3, a4)) (fun a0 a1 a2 a3 a4 hf => hk (a0, a1, a2, a3, a4) hf) s.1 s.2.1 s.2.2.1 s.2.2.2.1 s.2.2.2.2 hf) 100000 (x0, x1, x2, x3, h) hf
end Sf_X11_rarest
def f_X11_rarest (x0 : Nat) (h : hp_H) : Option (Int32 × hp_H) := gd h x0 11 ((wr_I h x0 11 0 0).bind fun h1 => l_X11_rarest_13 x0 0 99999 0 h1)
set_option maxRecDepth 20000 in
theorem c_X11_rarest (l : Launch) (x0 : Nat) (h : hp_H) (r : Int32 × hp_H) (hf : f_X11_rarest x0 h = some r) : cv l (1) yX11_rarest cX11_rarest 6 (some .int) 11 x0 [] h (some (.int r.1)) r.2 := by
  unfold f_X11_rarest at hf
  refine cv_of (lv := [(0, .ref x0)]) hf (by decide +kernel) (Nat.le_of_ble_eq_true rfl) rfl (fun hf p e s m args below meth c G X => ?_)
  refine wk_aload_n X dX11_rarest_0 0 rfl ?_
  refine wk_iconst X dX11_rarest_1 ic_0 ?_
  refine wk_putI X dX11_rarest_2 fo_X11_84 hf (fun h1 hf => ?_)
  refine wk_iconst X dX11_rarest_5 ic_0 ?_
  refine wk_istore_n (lv' := [(1, .int 0), (0, .ref x0)]) X dX11_rarest_6 (by decide) rfl ?_
  refine wk_ldcw X dX11_rarest_7 mt_X11_362 ?_
  refine wk_istore_n (lv' := [(2, .int 99999), (1, .int 0), (0, .ref x0)]) X dX11_rarest_10 (by decide) rfl ?_
  refine wk_iconst X dX11_rarest_11 ic_0 ?_
  refine wk_istore_n (lv' := [(3, .int 0), (2, .int 99999), (1, .int 0), (0, .ref x0)]) X dX11_rarest_12 (by decide) rfl ?_
  exact wq_sub [3, 2, 1, 0] rfl (wl_X11_rarest_13 X _ _ _ _ _ hf)
section Sf_X11_image
variable {p : Program} {l : Launch} {e : Env} {s : State} {m : MethodId} {args : Array Value} {below : List Frame} {meth : Method} {c : Code} {G : hp_G} {o : hp_H}
def f_X11_image_52 (x0 : Nat) (h : hp_H) : Option (hp_H) := (rd_R h x0 11 37).bind fun v1 => (rd_R h x0 11 53).bind fun v2 => (f_X11_copies x0 v1 v2 h).bind fun r3 => (rd_R r3 x0 11 46).bind fun v4 => (rd_R r3 x0 11 54).bind fun v5 => (f_X11_copies x0 v4 v5 r3).bind fun r6 => some r6
set_option maxRecDepth 20000 in
theorem w_X11_image_52 (X : wx G p s m args meth c cX11_image 2 RX11 none) (x0 : Nat) (h : hp_H) (hf : f_X11_image_52 x0 h = some o) : wq p l e (mt_R (2) 0 0) s m args below meth c (MQ below (mt_Q G none o) args s 0 0 (hp_A G)) G 2 0 0 52 [(0, .ref x0)] [] h := by
  unfold f_X11_image_52 at hf
  refine wk_aload_n X dX11_image_52 0 rfl ?_
  refine wk_aload_n X dX11_image_53 0 rfl ?_
  refine wk_getR X dX11_image_54 fo_X11_54 hf (fun v1 hf => ?_)
  refine wk_aload_n X dX11_image_57 0 rfl ?_
  refine wk_getR X dX11_image_58 fo_X11_78 hf (fun v2 hf => ?_)
  refine wk_callVv X [.ref v1, .ref v2] [] dX11_image_61 rfl vo_X11_260 rfl (by decide) (Nat.le_of_ble_eq_true rfl) hf (c_X11_copies l _ _ _ _) (fun r3 hf => ?_)
  refine wk_aload_n X dX11_image_64 0 rfl ?_
  refine wk_aload_n X dX11_image_65 0 rfl ?_
  refine wk_getR X dX11_image_66 fo_X11_69 hf (fun v4 hf => ?_)
  refine wk_aload_n X dX11_image_69 0 rfl ?_
  refine wk_getR X dX11_image_70 fo_X11_81 hf (fun v5 hf => ?_)
  refine wk_callVv X [.ref v4, .ref v5] [] dX11_image_73 rfl vo_X11_260 rfl (by decide) (Nat.le_of_ble_eq_true rfl) hf (c_X11_copies l _ _ _ _) (fun r6 hf => ?_)
  exact wk_return X dX11_image_76 hf
def f_X11_image_28 (k28 : Nat → Int32 → hp_H → Option (hp_H)) (x0 : Nat) (x1 : Int32) (h : hp_H) : Option (hp_H) := if 33 ≤ x1 then (f_X11_image_52 x0 h) else ((rd_R h x0 11 52).bind fun v1 => (rd_R h x0 11 36).bind fun v2 => (rd_A h 0 v2 x1).bind fun v3 => (wr_A h v1 x1 v3).bind fun h4 => k28 x0 (x1 + 1) h4)
set_option maxRecDepth 20000 in
theorem w_X11_image_28 (X : wx G p s m args meth c cX11_image 2 RX11 none) (k28 : Nat → Int32 → hp_H → Option (hp_H)) (hk28 : ∀ (x0 : Nat) (x1 : Int32) (h : hp_H), k28 x0 x1 h = some o → wq p l e (mt_R (2) 0 0) s m args below meth c (MQ below (mt_Q G none o) args s 0 0 (hp_A G)) G 2 0 0 28 [(0, .ref x0), (1, .int x1)] [] h) (x0 : Nat) (x1 : Int32) (h : hp_H) (hf : f_X11_image_28 k28 x0 x1 h = some o) : wq p l e (mt_R (2) 0 0) s m args below meth c (MQ below (mt_Q G none o) args s 0 0 (hp_A G)) G 2 0 0 28 [(0, .ref x0), (1, .int x1)] [] h := by
  unfold f_X11_image_28 at hf
  refine wk_iload_n X dX11_image_28 1 rfl ?_
  refine wk_bipush X dX11_image_29 ib_33 ?_
  refine wk_icmp_ge X 52 dX11_image_31 (by decide) hf (fun hf => ?_) (fun hf => ?_)
  · exact wq_sub [0] rfl (w_X11_image_52 X _ _ hf)
  · refine wk_aload_n X dX11_image_34 0 rfl ?_
    refine wk_getR X dX11_image_35 fo_X11_75 hf (fun v1 hf => ?_)
    refine wk_iload_n X dX11_image_38 1 rfl ?_
    refine wk_aload_n X dX11_image_39 0 rfl ?_
    refine wk_getR X dX11_image_40 fo_X11_51 hf (fun v2 hf => ?_)
    refine wk_iload_n X dX11_image_43 1 rfl ?_
    refine wk_iald X dX11_image_44 hf (fun v3 hf => ?_)
    refine wk_iast X dX11_image_45 hf (fun h4 hf => ?_)
    refine wk_iinc (lv' := [(1, .int (x1 + 1)), (0, .ref x0)]) X dX11_image_46 1 rfl ic_1 (by decide) rfl ?_
    refine wk_goto X 28 dX11_image_49 (by decide) ?_
    exact wq_sub [1, 0] rfl (hk28 _ _ _ hf)
def l_X11_image_28 (x0 : Nat) (x1 : Int32) (h : hp_H) : Option (hp_H) := lp (fun k (s : Nat × Int32 × hp_H) => f_X11_image_28  (fun a0 a1 a2 => k (a0, a1, a2)) s.1 s.2.1 s.2.2) 100000 (x0, x1, h)
theorem wl_X11_image_28 (X : wx G p s m args meth c cX11_image 2 RX11 none) (x0 : Nat) (x1 : Int32) (h : hp_H) (hf : l_X11_image_28 x0 x1 h = some o) : wq p l e (mt_R (2) 0 0) s m args below meth c (MQ below (mt_Q G none o) args s 0 0 (hp_A G)) G 2 0 0 28 [(0, .ref x0), (1, .int x1)] [] h :=
  lp_ind (P := fun (s_ : Nat × Int32 × hp_H) => wq p l e (mt_R (2) 0 0) s m args below meth c (MQ below (mt_Q G none o) args s 0 0 (hp_A G)) G 2 0 0 28 [(0, .ref s_.1), (1, .int s_.2.1)] [] s_.2.2) (fun k s hk hf => w_X11_image_28 X  (fun a0 a1 a2 => k (a0, a1, a2)) (fun a0 a1 a2 hf => hk (a0, a1, a2) hf) s.1 s.2.1 s.2.2 hf) 100000 (x0, x1, h) hf
end Sf_X11_image
def f_X11_image (x0 : Nat) (h : hp_H) : Option (hp_H) := gd h x0 11 ((wr_I h x0 11 0 0).bind fun h1 => (wr_Z h1 x0 11 49 1).bind fun h2 => (rd_I h2 x0 11 38).bind fun v3 => (wr_I h2 x0 11 50 v3).bind fun h4 => (rd_I h4 x0 11 45).bind fun v5 => (wr_I h4 x0 11 51 v5).bind fun h6 => l_X11_image_28 x0 0 h6)
set_option maxRecDepth 20000 in
theorem c_X11_image (l : Launch) (x0 : Nat) (h : hp_H) (r : hp_H) (hf : f_X11_image x0 h = some r) : cv l (2) yX11_image cX11_image 2 none 11 x0 [] h none r := by
  unfold f_X11_image at hf
  refine cv_of (lv := [(0, .ref x0)]) hf (by decide +kernel) (Nat.le_of_ble_eq_true rfl) rfl (fun hf p e s m args below meth c G X => ?_)
  refine wk_aload_n X dX11_image_0 0 rfl ?_
  refine wk_iconst X dX11_image_1 ic_0 ?_
  refine wk_putI X dX11_image_2 fo_X11_84 hf (fun h1 hf => ?_)
  refine wk_aload_n X dX11_image_5 0 rfl ?_
  refine wk_iconst X dX11_image_6 ic_1 ?_
  refine wk_putZ X dX11_image_7 fo_X11_270 hf (fun h2 hf => ?_)
  refine wk_aload_n X dX11_image_10 0 rfl ?_
  refine wk_aload_n X dX11_image_11 0 rfl ?_
  refine wk_getI X dX11_image_12 fo_X11_264 hf (fun v3 hf => ?_)
  refine wk_putI X dX11_image_15 fo_X11_401 hf (fun h4 hf => ?_)
  refine wk_aload_n X dX11_image_18 0 rfl ?_
  refine wk_aload_n X dX11_image_19 0 rfl ?_
  refine wk_getI X dX11_image_20 fo_X11_267 hf (fun v5 hf => ?_)
  refine wk_putI X dX11_image_23 fo_X11_404 hf (fun h6 hf => ?_)
  refine wk_iconst X dX11_image_26 ic_0 ?_
  refine wk_istore_n (lv' := [(1, .int 0), (0, .ref x0)]) X dX11_image_27 (by decide) rfl ?_
  exact wq_sub [1, 0] rfl (wl_X11_image_28 X _ _ _ hf)
section Sf_X11_restore
variable {p : Program} {l : Launch} {e : Env} {s : State} {m : MethodId} {args : Array Value} {below : List Frame} {meth : Method} {c : Code} {G : hp_G} {o : Int32 × hp_H}
def f_X11_restore_56 (x0 : Nat) (h : hp_H) : Option (Int32 × hp_H) := (rd_R h x0 11 53).bind fun v1 => (rd_R h x0 11 37).bind fun v2 => (f_X11_copies x0 v1 v2 h).bind fun r3 => (rd_R r3 x0 11 54).bind fun v4 => (rd_R r3 x0 11 46).bind fun v5 => (f_X11_copies x0 v4 v5 r3).bind fun r6 => if 1 = 0 ∨ 1 = 1 then some (1, r6) else none
set_option maxRecDepth 20000 in
theorem w_X11_restore_56 (X : wx G p s m args meth c cX11_restore 2 RX11 (some .boolean)) (x0 : Nat) (h : hp_H) (hf : f_X11_restore_56 x0 h = some o) : wq p l e (mt_R (2) 0 0) s m args below meth c (MQ below (mt_Q G (some (.int o.1)) o.2) args s 0 0 (hp_A G)) G 2 0 0 56 [(0, .ref x0)] [] h := by
  unfold f_X11_restore_56 at hf
  refine wk_aload_n X dX11_restore_56 0 rfl ?_
  refine wk_aload_n X dX11_restore_57 0 rfl ?_
  refine wk_getR X dX11_restore_58 fo_X11_78 hf (fun v1 hf => ?_)
  refine wk_aload_n X dX11_restore_61 0 rfl ?_
  refine wk_getR X dX11_restore_62 fo_X11_54 hf (fun v2 hf => ?_)
  refine wk_callVv X [.ref v1, .ref v2] [] dX11_restore_65 rfl vo_X11_260 rfl (by decide) (Nat.le_of_ble_eq_true rfl) hf (c_X11_copies l _ _ _ _) (fun r3 hf => ?_)
  refine wk_aload_n X dX11_restore_68 0 rfl ?_
  refine wk_aload_n X dX11_restore_69 0 rfl ?_
  refine wk_getR X dX11_restore_70 fo_X11_81 hf (fun v4 hf => ?_)
  refine wk_aload_n X dX11_restore_73 0 rfl ?_
  refine wk_getR X dX11_restore_74 fo_X11_69 hf (fun v5 hf => ?_)
  refine wk_callVv X [.ref v4, .ref v5] [] dX11_restore_77 rfl vo_X11_260 rfl (by decide) (Nat.le_of_ble_eq_true rfl) hf (c_X11_copies l _ _ _ _) (fun r6 hf => ?_)
  refine wk_iconst X dX11_restore_80 ic_1 ?_
  exact wk_zreturn X dX11_restore_81 hf
def f_X11_restore_32 (k32 : Nat → Int32 → hp_H → Option (Int32 × hp_H)) (x0 : Nat) (x1 : Int32) (h : hp_H) : Option (Int32 × hp_H) := if 33 ≤ x1 then (f_X11_restore_56 x0 h) else ((rd_R h x0 11 36).bind fun v1 => (rd_R h x0 11 52).bind fun v2 => (rd_A h 0 v2 x1).bind fun v3 => (wr_A h v1 x1 v3).bind fun h4 => k32 x0 (x1 + 1) h4)
set_option maxRecDepth 20000 in
theorem w_X11_restore_32 (X : wx G p s m args meth c cX11_restore 2 RX11 (some .boolean)) (k32 : Nat → Int32 → hp_H → Option (Int32 × hp_H)) (hk32 : ∀ (x0 : Nat) (x1 : Int32) (h : hp_H), k32 x0 x1 h = some o → wq p l e (mt_R (2) 0 0) s m args below meth c (MQ below (mt_Q G (some (.int o.1)) o.2) args s 0 0 (hp_A G)) G 2 0 0 32 [(0, .ref x0), (1, .int x1)] [] h) (x0 : Nat) (x1 : Int32) (h : hp_H) (hf : f_X11_restore_32 k32 x0 x1 h = some o) : wq p l e (mt_R (2) 0 0) s m args below meth c (MQ below (mt_Q G (some (.int o.1)) o.2) args s 0 0 (hp_A G)) G 2 0 0 32 [(0, .ref x0), (1, .int x1)] [] h := by
  unfold f_X11_restore_32 at hf
  refine wk_iload_n X dX11_restore_32 1 rfl ?_
  refine wk_bipush X dX11_restore_33 ib_33 ?_
  refine wk_icmp_ge X 56 dX11_restore_35 (by decide) hf (fun hf => ?_) (fun hf => ?_)
  · exact wq_sub [0] rfl (w_X11_restore_56 X _ _ hf)
  · refine wk_aload_n X dX11_restore_38 0 rfl ?_
    refine wk_getR X dX11_restore_39 fo_X11_51 hf (fun v1 hf => ?_)
    refine wk_iload_n X dX11_restore_42 1 rfl ?_
    refine wk_aload_n X dX11_restore_43 0 rfl ?_
    refine wk_getR X dX11_restore_44 fo_X11_75 hf (fun v2 hf => ?_)
    refine wk_iload_n X dX11_restore_47 1 rfl ?_
    refine wk_iald X dX11_restore_48 hf (fun v3 hf => ?_)
    refine wk_iast X dX11_restore_49 hf (fun h4 hf => ?_)
    refine wk_iinc (lv' := [(1, .int (x1 + 1)), (0, .ref x0)]) X dX11_restore_50 1 rfl ic_1 (by decide) rfl ?_
    refine wk_goto X 32 dX11_restore_53 (by decide) ?_
    exact wq_sub [1, 0] rfl (hk32 _ _ _ hf)
def l_X11_restore_32 (x0 : Nat) (x1 : Int32) (h : hp_H) : Option (Int32 × hp_H) := lp (fun k (s : Nat × Int32 × hp_H) => f_X11_restore_32  (fun a0 a1 a2 => k (a0, a1, a2)) s.1 s.2.1 s.2.2) 100000 (x0, x1, h)
theorem wl_X11_restore_32 (X : wx G p s m args meth c cX11_restore 2 RX11 (some .boolean)) (x0 : Nat) (x1 : Int32) (h : hp_H) (hf : l_X11_restore_32 x0 x1 h = some o) : wq p l e (mt_R (2) 0 0) s m args below meth c (MQ below (mt_Q G (some (.int o.1)) o.2) args s 0 0 (hp_A G)) G 2 0 0 32 [(0, .ref x0), (1, .int x1)] [] h :=
  lp_ind (P := fun (s_ : Nat × Int32 × hp_H) => wq p l e (mt_R (2) 0 0) s m args below meth c (MQ below (mt_Q G (some (.int o.1)) o.2) args s 0 0 (hp_A G)) G 2 0 0 32 [(0, .ref s_.1), (1, .int s_.2.1)] [] s_.2.2) (fun k s hk hf => w_X11_restore_32 X  (fun a0 a1 a2 => k (a0, a1, a2)) (fun a0 a1 a2 hf => hk (a0, a1, a2) hf) s.1 s.2.1 s.2.2 hf) 100000 (x0, x1, h) hf
end Sf_X11_restore
def f_X11_restore (x0 : Nat) (h : hp_H) : Option (Int32 × hp_H) := gd h x0 11 ((wr_I h x0 11 0 0).bind fun h1 => (rd_I h1 x0 11 49).bind fun v2 => if v2 = 0 then (if 0 = 0 ∨ 0 = 1 then some (0, h1) else none) else ((rd_I h1 x0 11 50).bind fun v3 => (wr_I h1 x0 11 38 v3).bind fun h4 => (rd_I h4 x0 11 51).bind fun v5 => (wr_I h4 x0 11 45 v5).bind fun h6 => l_X11_restore_32 x0 0 h6))
set_option maxRecDepth 20000 in
theorem c_X11_restore (l : Launch) (x0 : Nat) (h : hp_H) (r : Int32 × hp_H) (hf : f_X11_restore x0 h = some r) : cv l (2) yX11_restore cX11_restore 2 (some .boolean) 11 x0 [] h (some (.int r.1)) r.2 := by
  unfold f_X11_restore at hf
  refine cv_of (lv := [(0, .ref x0)]) hf (by decide +kernel) (Nat.le_of_ble_eq_true rfl) rfl (fun hf p e s m args below meth c G X => ?_)
  refine wk_aload_n X dX11_restore_0 0 rfl ?_
  refine wk_iconst X dX11_restore_1 ic_0 ?_
  refine wk_putI X dX11_restore_2 fo_X11_84 hf (fun h1 hf => ?_)
  refine wk_aload_n X dX11_restore_5 0 rfl ?_
  refine wk_getI X dX11_restore_6 fo_X11_270 hf (fun v2 hf => ?_)
  refine wk_if_ne X 14 dX11_restore_9 (by decide) hf (fun hf => ?_) (fun hf => ?_)
  · refine wk_aload_n X dX11_restore_14 0 rfl ?_
    refine wk_aload_n X dX11_restore_15 0 rfl ?_
    refine wk_getI X dX11_restore_16 fo_X11_401 hf (fun v3 hf => ?_)
    refine wk_putI X dX11_restore_19 fo_X11_264 hf (fun h4 hf => ?_)
    refine wk_aload_n X dX11_restore_22 0 rfl ?_
    refine wk_aload_n X dX11_restore_23 0 rfl ?_
    refine wk_getI X dX11_restore_24 fo_X11_404 hf (fun v5 hf => ?_)
    refine wk_putI X dX11_restore_27 fo_X11_267 hf (fun h6 hf => ?_)
    refine wk_iconst X dX11_restore_30 ic_0 ?_
    refine wk_istore_n (lv' := [(1, .int 0), (0, .ref x0)]) X dX11_restore_31 (by decide) rfl ?_
    exact wq_sub [1, 0] rfl (wl_X11_restore_32 X _ _ _ hf)
  · refine wk_iconst X dX11_restore_12 ic_0 ?_
    exact wk_zreturn X dX11_restore_13 hf
