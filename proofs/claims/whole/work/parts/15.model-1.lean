section Sf_X11_fault
variable {p : Program} {l : Launch} {e : Env} {s : State} {m : MethodId} {args : Array Value} {below : List Frame} {meth : Method} {c : Code} {G : hp_G} {o : Int32 × hp_H}
end Sf_X11_fault
def f_X11_fault (x0 : Nat) (h : hp_H) : Option (Int32 × hp_H) := gd h x0 11 ((wr_I h x0 11 0 0).bind fun h1 => (rd_I h1 x0 11 12).bind fun v2 => some (v2, h1))
set_option maxRecDepth 20000 in
theorem c_X11_fault (l : Launch) (x0 : Nat) (h : hp_H) (r : Int32 × hp_H) (hf : f_X11_fault x0 h = some r) : cv l (1) yX11_fault cX11_fault 1 (some .int) 11 x0 [] h (some (.int r.1)) r.2 := by
  unfold f_X11_fault at hf
  refine cv_of (lv := [(0, .ref x0)]) hf (by decide +kernel) (Nat.le_of_ble_eq_true rfl) rfl (fun hf p e s m args below meth c G X => ?_)
  refine wk_aload_n X dX11_fault_0 0 rfl ?_
  refine wk_iconst X dX11_fault_1 ic_0 ?_
  refine wk_putI X dX11_fault_2 fo_X11_84 hf (fun h1 hf => ?_)
  refine wk_aload_n X dX11_fault_5 0 rfl ?_
  refine wk_getI X dX11_fault_6 fo_X11_29 hf (fun v2 hf => ?_)
  exact wk_ireturn X dX11_fault_9 hf
section Sf_X11_keeps
variable {p : Program} {l : Launch} {e : Env} {s : State} {m : MethodId} {args : Array Value} {below : List Frame} {meth : Method} {c : Code} {G : hp_G} {o : hp_H}
def f_X11_keeps_84 (x0 : Nat) (h : hp_H) : Option (hp_H) := (rd_I h x0 11 38).bind fun v1 => (wr_I h x0 11 38 (v1 + 1)).bind fun h2 => some h2
set_option maxRecDepth 20000 in
theorem w_X11_keeps_84 (X : wx G p s m args meth c cX11_keeps 2 RX11 none) (x0 : Nat) (h : hp_H) (hf : f_X11_keeps_84 x0 h = some o) : wq p l e (mt_R (1) 0 0) s m args below meth c (MQ below (mt_Q G none o) args s 0 0 (hp_A G)) G 2 0 0 84 [(0, .ref x0)] [] h := by
  unfold f_X11_keeps_84 at hf
  refine wk_aload_n X dX11_keeps_84 0 rfl ?_
  refine wk_dup X dX11_keeps_85 rfl ?_
  refine wk_getI X dX11_keeps_86 fo_X11_264 hf (fun v1 hf => ?_)
  refine wk_iconst X dX11_keeps_89 ic_1 ?_
  refine wk_iadd X dX11_keeps_90 ?_
  refine wk_putI X dX11_keeps_91 fo_X11_264 hf (fun h2 hf => ?_)
  exact wk_return X dX11_keeps_94 hf
def f_X11_keeps_52 (k52 : Nat → Int32 → hp_H → Option (hp_H)) (x0 : Nat) (x1 : Int32) (h : hp_H) : Option (hp_H) := if 33 ≤ x1 then (f_X11_keeps_84 x0 h) else ((rd_R h x0 11 37).bind fun v1 => (rd_I h x0 11 38).bind fun v2 => (rd_R h x0 11 36).bind fun v3 => (rd_A h 0 v3 x1).bind fun v4 => (wr_A h v1 ((33 * v2) + x1) v4).bind fun h5 => k52 x0 (x1 + 1) h5)
set_option maxRecDepth 20000 in
theorem w_X11_keeps_52 (X : wx G p s m args meth c cX11_keeps 2 RX11 none) (k52 : Nat → Int32 → hp_H → Option (hp_H)) (hk52 : ∀ (x0 : Nat) (x1 : Int32) (h : hp_H), k52 x0 x1 h = some o → wq p l e (mt_R (1) 0 0) s m args below meth c (MQ below (mt_Q G none o) args s 0 0 (hp_A G)) G 2 0 0 52 [(0, .ref x0), (1, .int x1)] [] h) (x0 : Nat) (x1 : Int32) (h : hp_H) (hf : f_X11_keeps_52 k52 x0 x1 h = some o) : wq p l e (mt_R (1) 0 0) s m args below meth c (MQ below (mt_Q G none o) args s 0 0 (hp_A G)) G 2 0 0 52 [(0, .ref x0), (1, .int x1)] [] h := by
  unfold f_X11_keeps_52 at hf
  refine wk_iload_n X dX11_keeps_52 1 rfl ?_
  refine wk_bipush X dX11_keeps_53 ib_33 ?_
  refine wk_icmp_ge X 84 dX11_keeps_55 (by decide) hf (fun hf => ?_) (fun hf => ?_)
  · exact wq_sub [0] rfl (w_X11_keeps_84 X _ _ hf)
  · refine wk_aload_n X dX11_keeps_58 0 rfl ?_
    refine wk_getR X dX11_keeps_59 fo_X11_54 hf (fun v1 hf => ?_)
    refine wk_bipush X dX11_keeps_62 ib_33 ?_
    refine wk_aload_n X dX11_keeps_64 0 rfl ?_
    refine wk_getI X dX11_keeps_65 fo_X11_264 hf (fun v2 hf => ?_)
    refine wk_imul X dX11_keeps_68 ?_
    refine wk_iload_n X dX11_keeps_69 1 rfl ?_
    refine wk_iadd X dX11_keeps_70 ?_
    refine wk_aload_n X dX11_keeps_71 0 rfl ?_
    refine wk_getR X dX11_keeps_72 fo_X11_51 hf (fun v3 hf => ?_)
    refine wk_iload_n X dX11_keeps_75 1 rfl ?_
    refine wk_iald X dX11_keeps_76 hf (fun v4 hf => ?_)
    refine wk_iast X dX11_keeps_77 hf (fun h5 hf => ?_)
    refine wk_iinc (lv' := [(1, .int (x1 + 1)), (0, .ref x0)]) X dX11_keeps_78 1 rfl ic_1 (by decide) rfl ?_
    refine wk_goto X 52 dX11_keeps_81 (by decide) ?_
    exact wq_sub [1, 0] rfl (hk52 _ _ _ hf)
def l_X11_keeps_52 (x0 : Nat) (x1 : Int32) (h : hp_H) : Option (hp_H) := lp (fun k (s : Nat × Int32 × hp_H) => f_X11_keeps_52  (fun a0 a1 a2 => k (a0, a1, a2)) s.1 s.2.1 s.2.2) 100000 (x0, x1, h)
theorem wl_X11_keeps_52 (X : wx G p s m args meth c cX11_keeps 2 RX11 none) (x0 : Nat) (x1 : Int32) (h : hp_H) (hf : l_X11_keeps_52 x0 x1 h = some o) : wq p l e (mt_R (1) 0 0) s m args below meth c (MQ below (mt_Q G none o) args s 0 0 (hp_A G)) G 2 0 0 52 [(0, .ref x0), (1, .int x1)] [] h :=
  lp_ind (P := fun (s_ : Nat × Int32 × hp_H) => wq p l e (mt_R (1) 0 0) s m args below meth c (MQ below (mt_Q G none o) args s 0 0 (hp_A G)) G 2 0 0 52 [(0, .ref s_.1), (1, .int s_.2.1)] [] s_.2.2) (fun k s hk hf => w_X11_keeps_52 X  (fun a0 a1 a2 => k (a0, a1, a2)) (fun a0 a1 a2 hf => hk (a0, a1, a2) hf) s.1 s.2.1 s.2.2 hf) 100000 (x0, x1, h) hf
def f_X11_keeps_50 (x0 : Nat) (h : hp_H) : Option (hp_H) := l_X11_keeps_52 x0 0 h
set_option maxRecDepth 20000 in
theorem w_X11_keeps_50 (X : wx G p s m args meth c cX11_keeps 2 RX11 none) (x0 : Nat) (h : hp_H) (hf : f_X11_keeps_50 x0 h = some o) : wq p l e (mt_R (1) 0 0) s m args below meth c (MQ below (mt_Q G none o) args s 0 0 (hp_A G)) G 2 0 0 50 [(0, .ref x0)] [] h := by
  unfold f_X11_keeps_50 at hf
  refine wk_iconst X dX11_keeps_50 ic_0 ?_
  refine wk_istore_n (lv' := [(1, .int 0), (0, .ref x0)]) X dX11_keeps_51 (by decide) rfl ?_
  exact wq_sub [1, 0] rfl (wl_X11_keeps_52 X _ _ _ hf)
def f_X11_keeps_40 (x0 : Nat) (h : hp_H) : Option (hp_H) := (rd_I h x0 11 38).bind fun v1 => (wr_I h x0 11 38 (v1 - 1)).bind fun h2 => f_X11_keeps_50 x0 h2
set_option maxRecDepth 20000 in
theorem w_X11_keeps_40 (X : wx G p s m args meth c cX11_keeps 2 RX11 none) (x0 : Nat) (h : hp_H) (hf : f_X11_keeps_40 x0 h = some o) : wq p l e (mt_R (1) 0 0) s m args below meth c (MQ below (mt_Q G none o) args s 0 0 (hp_A G)) G 2 0 0 40 [(0, .ref x0)] [] h := by
  unfold f_X11_keeps_40 at hf
  refine wk_aload_n X dX11_keeps_40 0 rfl ?_
  refine wk_dup X dX11_keeps_41 rfl ?_
  refine wk_getI X dX11_keeps_42 fo_X11_264 hf (fun v1 hf => ?_)
  refine wk_iconst X dX11_keeps_45 ic_1 ?_
  refine wk_isub X dX11_keeps_46 ?_
  refine wk_putI X dX11_keeps_47 fo_X11_264 hf (fun h2 hf => ?_)
  exact wq_sub [0] rfl (w_X11_keeps_50 X _ _ hf)
def f_X11_keeps_12 (k12 : Nat → Int32 → hp_H → Option (hp_H)) (x0 : Nat) (x1 : Int32) (h : hp_H) : Option (hp_H) := if 1320 ≤ x1 then (f_X11_keeps_40 x0 h) else ((rd_R h x0 11 37).bind fun v1 => (rd_R h x0 11 37).bind fun v2 => (rd_A h 0 v2 x1).bind fun v3 => (wr_A h v1 (x1 - 33) v3).bind fun h4 => k12 x0 (x1 + 1) h4)
set_option maxRecDepth 20000 in
theorem w_X11_keeps_12 (X : wx G p s m args meth c cX11_keeps 2 RX11 none) (k12 : Nat → Int32 → hp_H → Option (hp_H)) (hk12 : ∀ (x0 : Nat) (x1 : Int32) (h : hp_H), k12 x0 x1 h = some o → wq p l e (mt_R (1) 0 0) s m args below meth c (MQ below (mt_Q G none o) args s 0 0 (hp_A G)) G 2 0 0 12 [(0, .ref x0), (1, .int x1)] [] h) (x0 : Nat) (x1 : Int32) (h : hp_H) (hf : f_X11_keeps_12 k12 x0 x1 h = some o) : wq p l e (mt_R (1) 0 0) s m args below meth c (MQ below (mt_Q G none o) args s 0 0 (hp_A G)) G 2 0 0 12 [(0, .ref x0), (1, .int x1)] [] h := by
  unfold f_X11_keeps_12 at hf
  refine wk_iload_n X dX11_keeps_12 1 rfl ?_
  refine wk_sipush X dX11_keeps_13 is_1320 ?_
  refine wk_icmp_ge X 40 dX11_keeps_16 (by decide) hf (fun hf => ?_) (fun hf => ?_)
  · exact wq_sub [0] rfl (w_X11_keeps_40 X _ _ hf)
  · refine wk_aload_n X dX11_keeps_19 0 rfl ?_
    refine wk_getR X dX11_keeps_20 fo_X11_54 hf (fun v1 hf => ?_)
    refine wk_iload_n X dX11_keeps_23 1 rfl ?_
    refine wk_bipush X dX11_keeps_24 ib_33 ?_
    refine wk_isub X dX11_keeps_26 ?_
    refine wk_aload_n X dX11_keeps_27 0 rfl ?_
    refine wk_getR X dX11_keeps_28 fo_X11_54 hf (fun v2 hf => ?_)
    refine wk_iload_n X dX11_keeps_31 1 rfl ?_
    refine wk_iald X dX11_keeps_32 hf (fun v3 hf => ?_)
    refine wk_iast X dX11_keeps_33 hf (fun h4 hf => ?_)
    refine wk_iinc (lv' := [(1, .int (x1 + 1)), (0, .ref x0)]) X dX11_keeps_34 1 rfl ic_1 (by decide) rfl ?_
    refine wk_goto X 12 dX11_keeps_37 (by decide) ?_
    exact wq_sub [1, 0] rfl (hk12 _ _ _ hf)
def l_X11_keeps_12 (x0 : Nat) (x1 : Int32) (h : hp_H) : Option (hp_H) := lp (fun k (s : Nat × Int32 × hp_H) => f_X11_keeps_12  (fun a0 a1 a2 => k (a0, a1, a2)) s.1 s.2.1 s.2.2) 100000 (x0, x1, h)
theorem wl_X11_keeps_12 (X : wx G p s m args meth c cX11_keeps 2 RX11 none) (x0 : Nat) (x1 : Int32) (h : hp_H) (hf : l_X11_keeps_12 x0 x1 h = some o) : wq p l e (mt_R (1) 0 0) s m args below meth c (MQ below (mt_Q G none o) args s 0 0 (hp_A G)) G 2 0 0 12 [(0, .ref x0), (1, .int x1)] [] h :=
  lp_ind (P := fun (s_ : Nat × Int32 × hp_H) => wq p l e (mt_R (1) 0 0) s m args below meth c (MQ below (mt_Q G none o) args s 0 0 (hp_A G)) G 2 0 0 12 [(0, .ref s_.1), (1, .int s_.2.1)] [] s_.2.2) (fun k s hk hf => w_X11_keeps_12 X  (fun a0 a1 a2 => k (a0, a1, a2)) (fun a0 a1 a2 hf => hk (a0, a1, a2) hf) s.1 s.2.1 s.2.2 hf) 100000 (x0, x1, h) hf
end Sf_X11_keeps
def f_X11_keeps (x0 : Nat) (h : hp_H) : Option (hp_H) := gd h x0 11 ((rd_I h x0 11 38).bind fun v1 => if v1 = 40 then (l_X11_keeps_12 x0 33 h) else (f_X11_keeps_50 x0 h))
set_option maxRecDepth 20000 in
theorem c_X11_keeps (l : Launch) (x0 : Nat) (h : hp_H) (r : hp_H) (hf : f_X11_keeps x0 h = some r) : cv l (1) yX11_keeps cX11_keeps 2 none 11 x0 [] h none r := by
  unfold f_X11_keeps at hf
  refine cv_of (lv := [(0, .ref x0)]) hf (by decide +kernel) (Nat.le_of_ble_eq_true rfl) rfl (fun hf p e s m args below meth c G X => ?_)
  refine wk_aload_n X dX11_keeps_0 0 rfl ?_
  refine wk_getI X dX11_keeps_1 fo_X11_264 hf (fun v1 hf => ?_)
  refine wk_bipush X dX11_keeps_4 ib_40 ?_
  refine wk_icmp_ne X 50 dX11_keeps_6 (by decide) hf (fun hf => ?_) (fun hf => ?_)
  · exact wq_sub [0] rfl (w_X11_keeps_50 X _ _ hf)
  · refine wk_bipush X dX11_keeps_9 ib_33 ?_
    refine wk_istore_n (lv' := [(1, .int 33), (0, .ref x0)]) X dX11_keeps_11 (by decide) rfl ?_
    exact wq_sub [1, 0] rfl (wl_X11_keeps_12 X _ _ _ hf)
section Sf_X11_refuses
variable {p : Program} {l : Launch} {e : Env} {s : State} {m : MethodId} {args : Array Value} {below : List Frame} {meth : Method} {c : Code} {G : hp_G} {o : Int32 × hp_H}
end Sf_X11_refuses
def f_X11_refuses (x0 : Nat) (x1 : Int32) (h : hp_H) : Option (Int32 × hp_H) := gd h x0 11 ((rd_R h x0 11 13).bind fun v1 => (rd_A h 0 v1 x1).bind fun v2 => (wr_A h v1 x1 (v2 + 1)).bind fun h3 => some ((-1), h3))
set_option maxRecDepth 20000 in
theorem c_X11_refuses (l : Launch) (x0 : Nat) (x1 : Int32) (h : hp_H) (r : Int32 × hp_H) (hf : f_X11_refuses x0 x1 h = some r) : cv l (1) yX11_refuses cX11_refuses 2 (some .int) 11 x0 [.int x1] h (some (.int r.1)) r.2 := by
  unfold f_X11_refuses at hf
  refine cv_of (lv := [(0, .ref x0), (1, .int x1)]) hf (by decide +kernel) (Nat.le_of_ble_eq_true rfl) rfl (fun hf p e s m args below meth c G X => ?_)
  refine wk_aload_n X dX11_refuses_0 0 rfl ?_
  refine wk_getR X dX11_refuses_1 fo_X11_32 hf (fun v1 hf => ?_)
  refine wk_iload_n X dX11_refuses_4 1 rfl ?_
  refine wk_dup2 X dX11_refuses_5 rfl rfl ?_
  refine wk_iald X dX11_refuses_6 hf (fun v2 hf => ?_)
  refine wk_iconst X dX11_refuses_7 ic_1 ?_
  refine wk_iadd X dX11_refuses_8 ?_
  refine wk_iast X dX11_refuses_9 hf (fun h3 hf => ?_)
  refine wk_iconst X dX11_refuses_10 ic_m1 ?_
  exact wk_ireturn X dX11_refuses_11 hf
section Sf_X11_undo
variable {p : Program} {l : Launch} {e : Env} {s : State} {m : MethodId} {args : Array Value} {below : List Frame} {meth : Method} {c : Code} {G : hp_G} {o : Int32 × hp_H}
def f_X11_undo_58 (x0 : Nat) (h : hp_H) : Option (Int32 × hp_H) := (rd_I h x0 11 38).bind fun v1 => some (v1, h)
set_option maxRecDepth 20000 in
theorem w_X11_undo_58 (X : wx G p s m args meth c cX11_undo 2 RX11 (some .int)) (x0 : Nat) (h : hp_H) (hf : f_X11_undo_58 x0 h = some o) : wq p l e (mt_R (1) 0 0) s m args below meth c (MQ below (mt_Q G (some (.int o.1)) o.2) args s 0 0 (hp_A G)) G 2 0 0 58 [(0, .ref x0)] [] h := by
  unfold f_X11_undo_58 at hf
  refine wk_aload_n X dX11_undo_58 0 rfl ?_
  refine wk_getI X dX11_undo_59 fo_X11_264 hf (fun v1 hf => ?_)
  exact wk_ireturn X dX11_undo_62 hf
def f_X11_undo_26 (k26 : Nat → Int32 → hp_H → Option (Int32 × hp_H)) (x0 : Nat) (x1 : Int32) (h : hp_H) : Option (Int32 × hp_H) := if 33 ≤ x1 then (f_X11_undo_58 x0 h) else ((rd_R h x0 11 36).bind fun v1 => (rd_R h x0 11 37).bind fun v2 => (rd_I h x0 11 38).bind fun v3 => (rd_A h 0 v2 ((33 * v3) + x1)).bind fun v4 => (wr_A h v1 x1 v4).bind fun h5 => k26 x0 (x1 + 1) h5)
set_option maxRecDepth 20000 in
theorem w_X11_undo_26 (X : wx G p s m args meth c cX11_undo 2 RX11 (some .int)) (k26 : Nat → Int32 → hp_H → Option (Int32 × hp_H)) (hk26 : ∀ (x0 : Nat) (x1 : Int32) (h : hp_H), k26 x0 x1 h = some o → wq p l e (mt_R (1) 0 0) s m args below meth c (MQ below (mt_Q G (some (.int o.1)) o.2) args s 0 0 (hp_A G)) G 2 0 0 26 [(0, .ref x0), (1, .int x1)] [] h) (x0 : Nat) (x1 : Int32) (h : hp_H) (hf : f_X11_undo_26 k26 x0 x1 h = some o) : wq p l e (mt_R (1) 0 0) s m args below meth c (MQ below (mt_Q G (some (.int o.1)) o.2) args s 0 0 (hp_A G)) G 2 0 0 26 [(0, .ref x0), (1, .int x1)] [] h := by
  unfold f_X11_undo_26 at hf
  refine wk_iload_n X dX11_undo_26 1 rfl ?_
  refine wk_bipush X dX11_undo_27 ib_33 ?_
  refine wk_icmp_ge X 58 dX11_undo_29 (by decide) hf (fun hf => ?_) (fun hf => ?_)
  · exact wq_sub [0] rfl (w_X11_undo_58 X _ _ hf)
  · refine wk_aload_n X dX11_undo_32 0 rfl ?_
    refine wk_getR X dX11_undo_33 fo_X11_51 hf (fun v1 hf => ?_)
    refine wk_iload_n X dX11_undo_36 1 rfl ?_
    refine wk_aload_n X dX11_undo_37 0 rfl ?_
    refine wk_getR X dX11_undo_38 fo_X11_54 hf (fun v2 hf => ?_)
    refine wk_bipush X dX11_undo_41 ib_33 ?_
    refine wk_aload_n X dX11_undo_43 0 rfl ?_
    refine wk_getI X dX11_undo_44 fo_X11_264 hf (fun v3 hf => ?_)
    refine wk_imul X dX11_undo_47 ?_
    refine wk_iload_n X dX11_undo_48 1 rfl ?_
    refine wk_iadd X dX11_undo_49 ?_
    refine wk_iald X dX11_undo_50 hf (fun v4 hf => ?_)
    refine wk_iast X dX11_undo_51 hf (fun h5 hf => ?_)
    refine wk_iinc (lv' := [(1, .int (x1 + 1)), (0, .ref x0)]) X dX11_undo_52 1 rfl ic_1 (by decide) rfl ?_
    refine wk_goto X 26 dX11_undo_55 (by decide) ?_
    exact wq_sub [1, 0] rfl (hk26 _ _ _ hf)
def l_X11_undo_26 (x0 : Nat) (x1 : Int32) (h : hp_H) : Option (Int32 × hp_H) := lp (fun k (s : Nat × Int32 × hp_H) => f_X11_undo_26  (fun a0 a1 a2 => k (a0, a1, a2)) s.1 s.2.1 s.2.2) 100000 (x0, x1, h)
theorem wl_X11_undo_26 (X : wx G p s m args meth c cX11_undo 2 RX11 (some .int)) (x0 : Nat) (x1 : Int32) (h : hp_H) (hf : l_X11_undo_26 x0 x1 h = some o) : wq p l e (mt_R (1) 0 0) s m args below meth c (MQ below (mt_Q G (some (.int o.1)) o.2) args s 0 0 (hp_A G)) G 2 0 0 26 [(0, .ref x0), (1, .int x1)] [] h :=
  lp_ind (P := fun (s_ : Nat × Int32 × hp_H) => wq p l e (mt_R (1) 0 0) s m args below meth c (MQ below (mt_Q G (some (.int o.1)) o.2) args s 0 0 (hp_A G)) G 2 0 0 26 [(0, .ref s_.1), (1, .int s_.2.1)] [] s_.2.2) (fun k s hk hf => w_X11_undo_26 X  (fun a0 a1 a2 => k (a0, a1, a2)) (fun a0 a1 a2 hf => hk (a0, a1, a2) hf) s.1 s.2.1 s.2.2 hf) 100000 (x0, x1, h) hf
end Sf_X11_undo
def f_X11_undo (x0 : Nat) (h : hp_H) : Option (Int32 × hp_H) := gd h x0 11 ((wr_I h x0 11 0 0).bind fun h1 => (rd_I h1 x0 11 38).bind fun v2 => if v2 = 0 then (some ((-1), h1)) else ((rd_I h1 x0 11 38).bind fun v3 => (wr_I h1 x0 11 38 (v3 - 1)).bind fun h4 => l_X11_undo_26 x0 0 h4))
set_option maxRecDepth 20000 in
theorem c_X11_undo (l : Launch) (x0 : Nat) (h : hp_H) (r : Int32 × hp_H) (hf : f_X11_undo x0 h = some r) : cv l (1) yX11_undo cX11_undo 2 (some .int) 11 x0 [] h (some (.int r.1)) r.2 := by
  unfold f_X11_undo at hf
  refine cv_of (lv := [(0, .ref x0)]) hf (by decide +kernel) (Nat.le_of_ble_eq_true rfl) rfl (fun hf p e s m args below meth c G X => ?_)
  refine wk_aload_n X dX11_undo_0 0 rfl ?_
  refine wk_iconst X dX11_undo_1 ic_0 ?_
  refine wk_putI X dX11_undo_2 fo_X11_84 hf (fun h1 hf => ?_)
  refine wk_aload_n X dX11_undo_5 0 rfl ?_
  refine wk_getI X dX11_undo_6 fo_X11_264 hf (fun v2 hf => ?_)
  refine wk_if_ne X 14 dX11_undo_9 (by decide) hf (fun hf => ?_) (fun hf => ?_)
  · refine wk_aload_n X dX11_undo_14 0 rfl ?_
    refine wk_dup X dX11_undo_15 rfl ?_
    refine wk_getI X dX11_undo_16 fo_X11_264 hf (fun v3 hf => ?_)
    refine wk_iconst X dX11_undo_19 ic_1 ?_
    refine wk_isub X dX11_undo_20 ?_
    refine wk_putI X dX11_undo_21 fo_X11_264 hf (fun h4 hf => ?_)
    refine wk_iconst X dX11_undo_24 ic_0 ?_
    refine wk_istore_n (lv' := [(1, .int 0), (0, .ref x0)]) X dX11_undo_25 (by decide) rfl ?_
    exact wq_sub [1, 0] rfl (wl_X11_undo_26 X _ _ _ hf)
  · refine wk_iconst X dX11_undo_12 ic_m1 ?_
    exact wk_ireturn X dX11_undo_13 hf
section Sf_X11_tries
variable {p : Program} {l : Launch} {e : Env} {s : State} {m : MethodId} {args : Array Value} {below : List Frame} {meth : Method} {c : Code} {G : hp_G} {o : hp_H}
def f_X11_tries_2 (k2 : Nat → Int32 → hp_H → Option (hp_H)) (x0 : Nat) (x1 : Int32) (h : hp_H) : Option (hp_H) := if 33 ≤ x1 then (some h) else ((rd_R h x0 11 36).bind fun v1 => (rd_R h x0 11 36).bind fun v2 => (rd_A h 0 v2 x1).bind fun v3 => (wr_A h v1 (33 + x1) v3).bind fun h4 => k2 x0 (x1 + 1) h4)
set_option maxRecDepth 20000 in
theorem w_X11_tries_2 (X : wx G p s m args meth c cX11_tries 2 RX11 none) (k2 : Nat → Int32 → hp_H → Option (hp_H)) (hk2 : ∀ (x0 : Nat) (x1 : Int32) (h : hp_H), k2 x0 x1 h = some o → wq p l e (mt_R (1) 0 0) s m args below meth c (MQ below (mt_Q G none o) args s 0 0 (hp_A G)) G 2 0 0 2 [(0, .ref x0), (1, .int x1)] [] h) (x0 : Nat) (x1 : Int32) (h : hp_H) (hf : f_X11_tries_2 k2 x0 x1 h = some o) : wq p l e (mt_R (1) 0 0) s m args below meth c (MQ below (mt_Q G none o) args s 0 0 (hp_A G)) G 2 0 0 2 [(0, .ref x0), (1, .int x1)] [] h := by
  unfold f_X11_tries_2 at hf
  refine wk_iload_n X dX11_tries_2 1 rfl ?_
  refine wk_bipush X dX11_tries_3 ib_33 ?_
  refine wk_icmp_ge X 29 dX11_tries_5 (by decide) hf (fun hf => ?_) (fun hf => ?_)
  · exact wk_return X dX11_tries_29 hf
  · refine wk_aload_n X dX11_tries_8 0 rfl ?_
    refine wk_getR X dX11_tries_9 fo_X11_51 hf (fun v1 hf => ?_)
    refine wk_bipush X dX11_tries_12 ib_33 ?_
    refine wk_iload_n X dX11_tries_14 1 rfl ?_
    refine wk_iadd X dX11_tries_15 ?_
    refine wk_aload_n X dX11_tries_16 0 rfl ?_
    refine wk_getR X dX11_tries_17 fo_X11_51 hf (fun v2 hf => ?_)
    refine wk_iload_n X dX11_tries_20 1 rfl ?_
    refine wk_iald X dX11_tries_21 hf (fun v3 hf => ?_)
    refine wk_iast X dX11_tries_22 hf (fun h4 hf => ?_)
    refine wk_iinc (lv' := [(1, .int (x1 + 1)), (0, .ref x0)]) X dX11_tries_23 1 rfl ic_1 (by decide) rfl ?_
    refine wk_goto X 2 dX11_tries_26 (by decide) ?_
    exact wq_sub [1, 0] rfl (hk2 _ _ _ hf)
def l_X11_tries_2 (x0 : Nat) (x1 : Int32) (h : hp_H) : Option (hp_H) := lp (fun k (s : Nat × Int32 × hp_H) => f_X11_tries_2  (fun a0 a1 a2 => k (a0, a1, a2)) s.1 s.2.1 s.2.2) 100000 (x0, x1, h)
theorem wl_X11_tries_2 (X : wx G p s m args meth c cX11_tries 2 RX11 none) (x0 : Nat) (x1 : Int32) (h : hp_H) (hf : l_X11_tries_2 x0 x1 h = some o) : wq p l e (mt_R (1) 0 0) s m args below meth c (MQ below (mt_Q G none o) args s 0 0 (hp_A G)) G 2 0 0 2 [(0, .ref x0), (1, .int x1)] [] h :=
  lp_ind (P := fun (s_ : Nat × Int32 × hp_H) => wq p l e (mt_R (1) 0 0) s m args below meth c (MQ below (mt_Q G none o) args s 0 0 (hp_A G)) G 2 0 0 2 [(0, .ref s_.1), (1, .int s_.2.1)] [] s_.2.2) (fun k s hk hf => w_X11_tries_2 X  (fun a0 a1 a2 => k (a0, a1, a2)) (fun a0 a1 a2 hf => hk (a0, a1, a2) hf) s.1 s.2.1 s.2.2 hf) 100000 (x0, x1, h) hf
end Sf_X11_tries
def f_X11_tries (x0 : Nat) (h : hp_H) : Option (hp_H) := gd h x0 11 (l_X11_tries_2 x0 0 h)
set_option maxRecDepth 20000 in
theorem c_X11_tries (l : Launch) (x0 : Nat) (h : hp_H) (r : hp_H) (hf : f_X11_tries x0 h = some r) : cv l (1) yX11_tries cX11_tries 2 none 11 x0 [] h none r := by
  unfold f_X11_tries at hf
  refine cv_of (lv := [(0, .ref x0)]) hf (by decide +kernel) (Nat.le_of_ble_eq_true rfl) rfl (fun hf p e s m args below meth c G X => ?_)
  refine wk_iconst X dX11_tries_0 ic_0 ?_
  refine wk_istore_n (lv' := [(1, .int 0), (0, .ref x0)]) X dX11_tries_1 (by decide) rfl ?_
  exact wq_sub [1, 0] rfl (wl_X11_tries_2 X _ _ _ hf)
section Sf_X11_works
variable {p : Program} {l : Launch} {e : Env} {s : State} {m : MethodId} {args : Array Value} {below : List Frame} {meth : Method} {c : Code} {G : hp_G} {o : Int32 × hp_H}
def f_X11_works_117 (t0 : Int32) (h : hp_H) : Option (Int32 × hp_H) := some (t0, h)
set_option maxRecDepth 20000 in
theorem w_X11_works_117 (X : wx G p s m args meth c cX11_works 3 RX11 (some .int)) (t0 : Int32) (h : hp_H) (hf : f_X11_works_117 t0 h = some o) : wq p l e (mt_R (1) 0 0) s m args below meth c (MQ below (mt_Q G (some (.int o.1)) o.2) args s 0 0 (hp_A G)) G 3 0 0 117 [] [.int t0] h := by
  unfold f_X11_works_117 at hf
  exact wk_ireturn X dX11_works_117 hf
def f_X11_works_57 (t0 : Int32) (h : hp_H) : Option (Int32 × hp_H) := some (t0, h)
set_option maxRecDepth 20000 in
theorem w_X11_works_57 (X : wx G p s m args meth c cX11_works 3 RX11 (some .int)) (t0 : Int32) (h : hp_H) (hf : f_X11_works_57 t0 h = some o) : wq p l e (mt_R (1) 0 0) s m args below meth c (MQ below (mt_Q G (some (.int o.1)) o.2) args s 0 0 (hp_A G)) G 3 0 0 57 [] [.int t0] h := by
  unfold f_X11_works_57 at hf
  exact wk_ireturn X dX11_works_57 hf
def f_X11_works_56  (h : hp_H) : Option (Int32 × hp_H) := f_X11_works_57 0 h
set_option maxRecDepth 20000 in
theorem w_X11_works_56 (X : wx G p s m args meth c cX11_works 3 RX11 (some .int))  (h : hp_H) (hf : f_X11_works_56 h = some o) : wq p l e (mt_R (1) 0 0) s m args below meth c (MQ below (mt_Q G (some (.int o.1)) o.2) args s 0 0 (hp_A G)) G 3 0 0 56 [] [] h := by
  unfold f_X11_works_56 at hf
  refine wk_iconst X dX11_works_56 ic_0 ?_
  exact wq_sub [] rfl (w_X11_works_57 X _ _ hf)
def f_X11_works_71 (t0 : Int32) (h : hp_H) : Option (Int32 × hp_H) := some (t0, h)
set_option maxRecDepth 20000 in
theorem w_X11_works_71 (X : wx G p s m args meth c cX11_works 3 RX11 (some .int)) (t0 : Int32) (h : hp_H) (hf : f_X11_works_71 t0 h = some o) : wq p l e (mt_R (1) 0 0) s m args below meth c (MQ below (mt_Q G (some (.int o.1)) o.2) args s 0 0 (hp_A G)) G 3 0 0 71 [] [.int t0] h := by
  unfold f_X11_works_71 at hf
  exact wk_ireturn X dX11_works_71 hf
def f_X11_works_66  (h : hp_H) : Option (Int32 × hp_H) := f_X11_works_71 1 h
set_option maxRecDepth 20000 in
theorem w_X11_works_66 (X : wx G p s m args meth c cX11_works 3 RX11 (some .int))  (h : hp_H) (hf : f_X11_works_66 h = some o) : wq p l e (mt_R (1) 0 0) s m args below meth c (MQ below (mt_Q G (some (.int o.1)) o.2) args s 0 0 (hp_A G)) G 3 0 0 66 [] [] h := by
  unfold f_X11_works_66 at hf
  refine wk_iconst X dX11_works_66 ic_1 ?_
  refine wk_goto X 71 dX11_works_67 (by decide) ?_
  exact wq_sub [] rfl (w_X11_works_71 X _ _ hf)
def f_X11_works_82 (t0 : Int32) (h : hp_H) : Option (Int32 × hp_H) := some (t0, h)
set_option maxRecDepth 20000 in
theorem w_X11_works_82 (X : wx G p s m args meth c cX11_works 3 RX11 (some .int)) (t0 : Int32) (h : hp_H) (hf : f_X11_works_82 t0 h = some o) : wq p l e (mt_R (1) 0 0) s m args below meth c (MQ below (mt_Q G (some (.int o.1)) o.2) args s 0 0 (hp_A G)) G 3 0 0 82 [] [.int t0] h := by
  unfold f_X11_works_82 at hf
  exact wk_ireturn X dX11_works_82 hf
def f_X11_works_93 (t0 : Int32) (h : hp_H) : Option (Int32 × hp_H) := some (t0, h)
set_option maxRecDepth 20000 in
theorem w_X11_works_93 (X : wx G p s m args meth c cX11_works 3 RX11 (some .int)) (t0 : Int32) (h : hp_H) (hf : f_X11_works_93 t0 h = some o) : wq p l e (mt_R (1) 0 0) s m args below meth c (MQ below (mt_Q G (some (.int o.1)) o.2) args s 0 0 (hp_A G)) G 3 0 0 93 [] [.int t0] h := by
  unfold f_X11_works_93 at hf
  exact wk_ireturn X dX11_works_93 hf
end Sf_X11_works
def f_X11_works (x0 : Int32) (x1 : Int32) (x2 : Int32) (h : hp_H) : Option (Int32 × hp_H) := if x0 = 4 then (if x1 = 0 then (f_X11_works_56 h) else (if x2 = 0 then (f_X11_works_56 h) else (f_X11_works_57 1 h))) else (if x0 = 5 then (if x1 = 0 then (if x2 = 0 then (f_X11_works_71 0 h) else (f_X11_works_66 h)) else (f_X11_works_66 h)) else (if x0 = 6 then (if x2 ≤ x1 then (f_X11_works_82 0 h) else (f_X11_works_82 1 h)) else (if x0 = 7 then (if x1 = x2 then (f_X11_works_93 1 h) else (f_X11_works_93 0 h)) else (if x0 = 8 then (some (x1 + x2, h)) else (if x0 = 9 then (some (x1 - x2, h)) else (if x0 = 10 then (some (x1 * x2, h)) else (if x2 = 0 then (f_X11_works_117 0 h) else ((hp_div x1 x2).bind fun v1 => f_X11_works_117 v1 h))))))))
set_option maxRecDepth 20000 in
theorem c_X11_works (l : Launch) (x0 : Int32) (x1 : Int32) (x2 : Int32) (h : hp_H) (r : Int32 × hp_H) (hf : f_X11_works x0 x1 x2 h = some r) : cs l 1 yX11_works cX11_works 3 (some .int) [.int x0, .int x1, .int x2] h (some (.int r.1)) r.2 := by
  unfold f_X11_works at hf
  refine mt_of (lv := [(0, .int x0), (1, .int x1), (2, .int x2)]) (by decide +kernel) (Nat.le_of_ble_eq_true rfl) rfl (fun p e s m args below meth c G X => ?_)
  refine wk_iload_n X dX11_works_0 0 rfl ?_
  refine wk_ts_in X 44 0 dX11_works_1 (by decide) (by decide) (by decide) rfl (by decide) hf (fun hf => ?_) (fun n0 hf => ?_)
  · refine wk_iload_n X dX11_works_44 1 rfl ?_
    refine wk_if_eq X 56 dX11_works_45 (by decide) hf (fun hf => ?_) (fun hf => ?_)
    · exact wq_sub [] rfl (w_X11_works_56 X _ hf)
    · refine wk_iload_n X dX11_works_48 2 rfl ?_
      refine wk_if_eq X 56 dX11_works_49 (by decide) hf (fun hf => ?_) (fun hf => ?_)
      · exact wq_sub [] rfl (w_X11_works_56 X _ hf)
      · refine wk_iconst X dX11_works_52 ic_1 ?_
        refine wk_goto X 57 dX11_works_53 (by decide) ?_
        exact wq_sub [] rfl (w_X11_works_57 X _ _ hf)
  refine wk_ts_in X 58 1 dX11_works_1 (by decide) (by decide) (by decide) rfl (by decide) hf (fun hf => ?_) (fun n1 hf => ?_)
  · refine wk_iload_n X dX11_works_58 1 rfl ?_
    refine wk_if_ne X 66 dX11_works_59 (by decide) hf (fun hf => ?_) (fun hf => ?_)
    · exact wq_sub [] rfl (w_X11_works_66 X _ hf)
    · refine wk_iload_n X dX11_works_62 2 rfl ?_
      refine wk_if_eq X 70 dX11_works_63 (by decide) hf (fun hf => ?_) (fun hf => ?_)
      · refine wk_iconst X dX11_works_70 ic_0 ?_
        exact wq_sub [] rfl (w_X11_works_71 X _ _ hf)
      · exact wq_sub [] rfl (w_X11_works_66 X _ hf)
  refine wk_ts_in X 72 2 dX11_works_1 (by decide) (by decide) (by decide) rfl (by decide) hf (fun hf => ?_) (fun n2 hf => ?_)
  · refine wk_iload_n X dX11_works_72 1 rfl ?_
    refine wk_iload_n X dX11_works_73 2 rfl ?_
    refine wk_icmp_ge X 81 dX11_works_74 (by decide) hf (fun hf => ?_) (fun hf => ?_)
    · refine wk_iconst X dX11_works_81 ic_0 ?_
      exact wq_sub [] rfl (w_X11_works_82 X _ _ hf)
    · refine wk_iconst X dX11_works_77 ic_1 ?_
      refine wk_goto X 82 dX11_works_78 (by decide) ?_
      exact wq_sub [] rfl (w_X11_works_82 X _ _ hf)
  refine wk_ts_in X 83 3 dX11_works_1 (by decide) (by decide) (by decide) rfl (by decide) hf (fun hf => ?_) (fun n3 hf => ?_)
  · refine wk_iload_n X dX11_works_83 1 rfl ?_
    refine wk_iload_n X dX11_works_84 2 rfl ?_
    refine wk_icmp_ne X 92 dX11_works_85 (by decide) hf (fun hf => ?_) (fun hf => ?_)
    · refine wk_iconst X dX11_works_92 ic_0 ?_
      exact wq_sub [] rfl (w_X11_works_93 X _ _ hf)
    · refine wk_iconst X dX11_works_88 ic_1 ?_
      refine wk_goto X 93 dX11_works_89 (by decide) ?_
      exact wq_sub [] rfl (w_X11_works_93 X _ _ hf)
  refine wk_ts_in X 94 4 dX11_works_1 (by decide) (by decide) (by decide) rfl (by decide) hf (fun hf => ?_) (fun n4 hf => ?_)
  · refine wk_iload_n X dX11_works_94 1 rfl ?_
    refine wk_iload_n X dX11_works_95 2 rfl ?_
    refine wk_iadd X dX11_works_96 ?_
    exact wk_ireturn X dX11_works_97 hf
  refine wk_ts_in X 98 5 dX11_works_1 (by decide) (by decide) (by decide) rfl (by decide) hf (fun hf => ?_) (fun n5 hf => ?_)
  · refine wk_iload_n X dX11_works_98 1 rfl ?_
    refine wk_iload_n X dX11_works_99 2 rfl ?_
    refine wk_isub X dX11_works_100 ?_
    exact wk_ireturn X dX11_works_101 hf
  refine wk_ts_in X 102 6 dX11_works_1 (by decide) (by decide) (by decide) rfl (by decide) hf (fun hf => ?_) (fun n6 hf => ?_)
  · refine wk_iload_n X dX11_works_102 1 rfl ?_
    refine wk_iload_n X dX11_works_103 2 rfl ?_
    refine wk_imul X dX11_works_104 ?_
    exact wk_ireturn X dX11_works_105 hf
  refine wk_ts_out X 106 dX11_works_1 (fc_c n0 (fc_c n1 (fc_c n2 (fc_c n3 (fc_c n4 (fc_c n5 (fc_c n6 fc_n))))))) (by decide) (by decide) (by decide) ?_
  refine wk_iload_n X dX11_works_106 2 rfl ?_
  refine wk_if_ne X 114 dX11_works_107 (by decide) hf (fun hf => ?_) (fun hf => ?_)
  · refine wk_iload_n X dX11_works_114 1 rfl ?_
    refine wk_iload_n X dX11_works_115 2 rfl ?_
    refine wk_idiv X dX11_works_116 hf (fun v1 hf => ?_)
    exact wq_sub [] rfl (w_X11_works_117 X _ _ hf)
  · refine wk_iconst X dX11_works_110 ic_0 ?_
    refine wk_goto X 117 dX11_works_111 (by decide) ?_
    exact wq_sub [] rfl (w_X11_works_117 X _ _ hf)
section Sf_X11_reckons
variable {p : Program} {l : Launch} {e : Env} {s : State} {m : MethodId} {args : Array Value} {below : List Frame} {meth : Method} {c : Code} {G : hp_G} {o : Int32 × hp_H}
def f_X11_reckons_143 (x0 : Nat) (h : hp_H) : Option (Int32 × hp_H) := (rd_R h x0 11 40).bind fun v1 => (rd_A h 0 v1 0).bind fun v2 => some (v2, h)
set_option maxRecDepth 20000 in
theorem w_X11_reckons_143 (X : wx G p s m args meth c cX11_reckons 5 RX11 (some .int)) (x0 : Nat) (h : hp_H) (hf : f_X11_reckons_143 x0 h = some o) : wq p l e (mt_R (2) 0 0) s m args below meth c (MQ below (mt_Q G (some (.int o.1)) o.2) args s 0 0 (hp_A G)) G 5 0 0 143 [(0, .ref x0)] [] h := by
  unfold f_X11_reckons_143 at hf
  refine wk_aload_n X dX11_reckons_143 0 rfl ?_
  refine wk_getR X dX11_reckons_144 fo_X11_60 hf (fun v1 hf => ?_)
  refine wk_iconst X dX11_reckons_147 ic_0 ?_
  refine wk_iald X dX11_reckons_148 hf (fun v2 hf => ?_)
  exact wk_ireturn X dX11_reckons_149 hf
def f_X11_reckons_140 (k4 : Nat → Int32 → Int32 → hp_H → Option (Int32 × hp_H)) (x0 : Nat) (x2 : Int32) (x3 : Int32) (h : hp_H) : Option (Int32 × hp_H) := k4 x0 x2 x3 h
set_option maxRecDepth 20000 in
theorem w_X11_reckons_140 (X : wx G p s m args meth c cX11_reckons 5 RX11 (some .int)) (k4 : Nat → Int32 → Int32 → hp_H → Option (Int32 × hp_H)) (hk4 : ∀ (x0 : Nat) (x2 : Int32) (x3 : Int32) (h : hp_H), k4 x0 x2 x3 h = some o → wq p l e (mt_R (2) 0 0) s m args below meth c (MQ below (mt_Q G (some (.int o.1)) o.2) args s 0 0 (hp_A G)) G 5 0 0 4 [(0, .ref x0), (2, .int x2), (3, .int x3)] [] h) (x0 : Nat) (x2 : Int32) (x3 : Int32) (h : hp_H) (hf : f_X11_reckons_140 k4 x0 x2 x3 h = some o) : wq p l e (mt_R (2) 0 0) s m args below meth c (MQ below (mt_Q G (some (.int o.1)) o.2) args s 0 0 (hp_A G)) G 5 0 0 140 [(0, .ref x0), (2, .int x2), (3, .int x3)] [] h := by
  unfold f_X11_reckons_140 at hf
  refine wk_goto X 4 dX11_reckons_140 (by decide) ?_
  exact wq_sub [0, 1, 2] rfl (hk4 _ _ _ _ hf)
def f_X11_reckons_67 (k4 : Nat → Int32 → Int32 → hp_H → Option (Int32 × hp_H)) (x0 : Nat) (x2 : Int32) (x3 : Int32) (t0 : Nat) (t1 : Int32) (t2 : Int32) (h : hp_H) : Option (Int32 × hp_H) := (wr_A h t0 t1 t2).bind fun h1 => f_X11_reckons_140 k4 x0 (x2 + 1) (x3 + 1) h1
set_option maxRecDepth 20000 in
theorem w_X11_reckons_67 (X : wx G p s m args meth c cX11_reckons 5 RX11 (some .int)) (k4 : Nat → Int32 → Int32 → hp_H → Option (Int32 × hp_H)) (hk4 : ∀ (x0 : Nat) (x2 : Int32) (x3 : Int32) (h : hp_H), k4 x0 x2 x3 h = some o → wq p l e (mt_R (2) 0 0) s m args below meth c (MQ below (mt_Q G (some (.int o.1)) o.2) args s 0 0 (hp_A G)) G 5 0 0 4 [(0, .ref x0), (2, .int x2), (3, .int x3)] [] h) (x0 : Nat) (x2 : Int32) (x3 : Int32) (t0 : Nat) (t1 : Int32) (t2 : Int32) (h : hp_H) (hf : f_X11_reckons_67 k4 x0 x2 x3 t0 t1 t2 h = some o) : wq p l e (mt_R (2) 0 0) s m args below meth c (MQ below (mt_Q G (some (.int o.1)) o.2) args s 0 0 (hp_A G)) G 5 0 0 67 [(0, .ref x0), (2, .int x2), (3, .int x3)] [.int t2, .int t1, .ref t0] h := by
  unfold f_X11_reckons_67 at hf
  refine wk_iast X dX11_reckons_67 hf (fun h1 hf => ?_)
  refine wk_iinc (lv' := [(3, .int (x3 + 1)), (0, .ref x0), (2, .int x2)]) X dX11_reckons_68 2 rfl ic_1 (by decide) rfl ?_
  refine wk_iinc (lv' := [(2, .int (x2 + 1)), (3, .int (x3 + 1)), (0, .ref x0)]) X dX11_reckons_71 2 rfl ic_1 (by decide) rfl ?_
  refine wk_goto X 140 dX11_reckons_74 (by decide) ?_
  exact wq_sub [2, 0, 1] rfl (w_X11_reckons_140 X k4 hk4 _ _ _ _ hf)
def f_X11_reckons_36 (k4 : Nat → Int32 → Int32 → hp_H → Option (Int32 × hp_H)) (x0 : Nat) (x2 : Int32) (x3 : Int32) (x4 : Int32) (h : hp_H) : Option (Int32 × hp_H) := (rd_R h x0 11 40).bind fun v1 => if x4 = 1 then ((rd_R h x0 11 8).bind fun v6 => (rd_A h 0 v6 x3).bind fun v7 => f_X11_reckons_67 k4 x0 x2 x3 v1 x2 v7 h) else ((rd_R h x0 11 39).bind fun v2 => (rd_R h x0 11 8).bind fun v3 => (rd_A h 0 v3 x3).bind fun v4 => (rd_A h 0 v2 v4).bind fun v5 => f_X11_reckons_67 k4 x0 x2 x3 v1 x2 v5 h)
set_option maxRecDepth 20000 in
theorem w_X11_reckons_36 (X : wx G p s m args meth c cX11_reckons 5 RX11 (some .int)) (k4 : Nat → Int32 → Int32 → hp_H → Option (Int32 × hp_H)) (hk4 : ∀ (x0 : Nat) (x2 : Int32) (x3 : Int32) (h : hp_H), k4 x0 x2 x3 h = some o → wq p l e (mt_R (2) 0 0) s m args below meth c (MQ below (mt_Q G (some (.int o.1)) o.2) args s 0 0 (hp_A G)) G 5 0 0 4 [(0, .ref x0), (2, .int x2), (3, .int x3)] [] h) (x0 : Nat) (x2 : Int32) (x3 : Int32) (x4 : Int32) (h : hp_H) (hf : f_X11_reckons_36 k4 x0 x2 x3 x4 h = some o) : wq p l e (mt_R (2) 0 0) s m args below meth c (MQ below (mt_Q G (some (.int o.1)) o.2) args s 0 0 (hp_A G)) G 5 0 0 36 [(0, .ref x0), (2, .int x2), (3, .int x3), (4, .int x4)] [] h := by
  unfold f_X11_reckons_36 at hf
  refine wk_aload_n X dX11_reckons_36 0 rfl ?_
  refine wk_getR X dX11_reckons_37 fo_X11_60 hf (fun v1 hf => ?_)
  refine wk_iload_n X dX11_reckons_40 1 rfl ?_
  refine wk_iload X dX11_reckons_41 3 rfl ?_
  refine wk_iconst X dX11_reckons_43 ic_1 ?_
  refine wk_icmp_ne X 56 dX11_reckons_44 (by decide) hf (fun hf => ?_) (fun hf => ?_)
  · refine wk_aload_n X dX11_reckons_56 0 rfl ?_
    refine wk_getR X dX11_reckons_57 fo_X11_57 hf (fun v2 hf => ?_)
    refine wk_aload_n X dX11_reckons_60 0 rfl ?_
    refine wk_getR X dX11_reckons_61 fo_X11_23 hf (fun v3 hf => ?_)
    refine wk_iload_n X dX11_reckons_64 2 rfl ?_
    refine wk_iald X dX11_reckons_65 hf (fun v4 hf => ?_)
    refine wk_iald X dX11_reckons_66 hf (fun v5 hf => ?_)
    exact wq_sub [0, 1, 2] rfl (w_X11_reckons_67 X k4 hk4 _ _ _ _ _ _ _ hf)
  · refine wk_aload_n X dX11_reckons_47 0 rfl ?_
    refine wk_getR X dX11_reckons_48 fo_X11_23 hf (fun v6 hf => ?_)
    refine wk_iload_n X dX11_reckons_51 2 rfl ?_
    refine wk_iald X dX11_reckons_52 hf (fun v7 hf => ?_)
    refine wk_goto X 67 dX11_reckons_53 (by decide) ?_
    exact wq_sub [0, 1, 2] rfl (w_X11_reckons_67 X k4 hk4 _ _ _ _ _ _ _ hf)
def f_X11_reckons_106 (k4 : Nat → Int32 → Int32 → hp_H → Option (Int32 × hp_H)) (x0 : Nat) (x2 : Int32) (x3 : Int32) (t0 : Nat) (t1 : Int32) (t2 : Int32) (h : hp_H) : Option (Int32 × hp_H) := (wr_A h t0 t1 t2).bind fun h1 => f_X11_reckons_140 k4 x0 x2 x3 h1
set_option maxRecDepth 20000 in
theorem w_X11_reckons_106 (X : wx G p s m args meth c cX11_reckons 5 RX11 (some .int)) (k4 : Nat → Int32 → Int32 → hp_H → Option (Int32 × hp_H)) (hk4 : ∀ (x0 : Nat) (x2 : Int32) (x3 : Int32) (h : hp_H), k4 x0 x2 x3 h = some o → wq p l e (mt_R (2) 0 0) s m args below meth c (MQ below (mt_Q G (some (.int o.1)) o.2) args s 0 0 (hp_A G)) G 5 0 0 4 [(0, .ref x0), (2, .int x2), (3, .int x3)] [] h) (x0 : Nat) (x2 : Int32) (x3 : Int32) (t0 : Nat) (t1 : Int32) (t2 : Int32) (h : hp_H) (hf : f_X11_reckons_106 k4 x0 x2 x3 t0 t1 t2 h = some o) : wq p l e (mt_R (2) 0 0) s m args below meth c (MQ below (mt_Q G (some (.int o.1)) o.2) args s 0 0 (hp_A G)) G 5 0 0 106 [(0, .ref x0), (2, .int x2), (3, .int x3)] [.int t2, .int t1, .ref t0] h := by
  unfold f_X11_reckons_106 at hf
  refine wk_iast X dX11_reckons_106 hf (fun h1 hf => ?_)
  refine wk_goto X 140 dX11_reckons_107 (by decide) ?_
  exact wq_sub [0, 1, 2] rfl (w_X11_reckons_140 X k4 hk4 _ _ _ _ hf)
def f_X11_reckons_4 (k4 : Nat → Int32 → Int32 → hp_H → Option (Int32 × hp_H)) (x0 : Nat) (x2 : Int32) (x3 : Int32) (h : hp_H) : Option (Int32 × hp_H) := (rd_R h x0 11 8).bind fun v1 => (rd_A h 0 v1 x3).bind fun v2 => if v2 = 0 then (f_X11_reckons_143 x0 h) else ((rd_R h x0 11 8).bind fun v3 => (rd_A h 0 v3 x3).bind fun v4 => if v4 = 1 then (f_X11_reckons_36 k4 x0 x2 (x3 + 1) v4 h) else (if v4 = 2 then (f_X11_reckons_36 k4 x0 x2 (x3 + 1) v4 h) else (if v4 = 3 then ((rd_R h x0 11 40).bind fun v12 => (rd_R h x0 11 40).bind fun v13 => (rd_A h 0 v13 (x2 - 1)).bind fun v14 => if v14 = 0 then (f_X11_reckons_106 k4 x0 x2 (x3 + 1) v12 (x2 - 1) 1 h) else (f_X11_reckons_106 k4 x0 x2 (x3 + 1) v12 (x2 - 1) 0 h)) else ((rd_R h x0 11 40).bind fun v5 => (rd_R h x0 11 40).bind fun v6 => (rd_A h 0 v6 ((x2 + (-1)) - 1)).bind fun v7 => (rd_R h x0 11 40).bind fun v8 => (rd_A h 0 v8 (x2 + (-1))).bind fun v9 => (f_X11_works v4 v7 v9 h).bind fun r10 => (wr_A r10.2 v5 ((x2 + (-1)) - 1) r10.1).bind fun h11 => f_X11_reckons_140 k4 x0 (x2 + (-1)) (x3 + 1) h11))))
set_option maxRecDepth 20000 in
theorem w_X11_reckons_4 (X : wx G p s m args meth c cX11_reckons 5 RX11 (some .int)) (k4 : Nat → Int32 → Int32 → hp_H → Option (Int32 × hp_H)) (hk4 : ∀ (x0 : Nat) (x2 : Int32) (x3 : Int32) (h : hp_H), k4 x0 x2 x3 h = some o → wq p l e (mt_R (2) 0 0) s m args below meth c (MQ below (mt_Q G (some (.int o.1)) o.2) args s 0 0 (hp_A G)) G 5 0 0 4 [(0, .ref x0), (2, .int x2), (3, .int x3)] [] h) (x0 : Nat) (x2 : Int32) (x3 : Int32) (h : hp_H) (hf : f_X11_reckons_4 k4 x0 x2 x3 h = some o) : wq p l e (mt_R (2) 0 0) s m args below meth c (MQ below (mt_Q G (some (.int o.1)) o.2) args s 0 0 (hp_A G)) G 5 0 0 4 [(0, .ref x0), (2, .int x2), (3, .int x3)] [] h := by
  unfold f_X11_reckons_4 at hf
  refine wk_aload_n X dX11_reckons_4 0 rfl ?_
  refine wk_getR X dX11_reckons_5 fo_X11_23 hf (fun v1 hf => ?_)
  refine wk_iload_n X dX11_reckons_8 2 rfl ?_
  refine wk_iald X dX11_reckons_9 hf (fun v2 hf => ?_)
  refine wk_if_eq X 143 dX11_reckons_10 (by decide) hf (fun hf => ?_) (fun hf => ?_)
  · exact wq_sub [0] rfl (w_X11_reckons_143 X _ _ hf)
  · refine wk_aload_n X dX11_reckons_13 0 rfl ?_
    refine wk_getR X dX11_reckons_14 fo_X11_23 hf (fun v3 hf => ?_)
    refine wk_iload_n X dX11_reckons_17 2 rfl ?_
    refine wk_iald X dX11_reckons_18 hf (fun v4 hf => ?_)
    refine wk_istore (lv' := [(4, .int v4), (0, .ref x0), (2, .int x2), (3, .int x3)]) X dX11_reckons_19 (by decide) rfl ?_
    refine wk_iinc (lv' := [(3, .int (x3 + 1)), (4, .int v4), (0, .ref x0), (2, .int x2)]) X dX11_reckons_21 3 rfl ic_1 (by decide) rfl ?_
    refine wk_iload X dX11_reckons_24 1 rfl ?_
    refine wk_iconst X dX11_reckons_26 ic_1 ?_
    refine wk_icmp_eq X 36 dX11_reckons_27 (by decide) hf (fun hf => ?_) (fun hf => ?_)
    · exact wq_sub [2, 3, 0, 1] rfl (w_X11_reckons_36 X k4 hk4 _ _ _ _ _ hf)
    · refine wk_iload X dX11_reckons_30 1 rfl ?_
      refine wk_iconst X dX11_reckons_32 ic_2 ?_
      refine wk_icmp_ne X 77 dX11_reckons_33 (by decide) hf (fun hf => ?_) (fun hf => ?_)
      · refine wk_iload X dX11_reckons_77 1 rfl ?_
        refine wk_iconst X dX11_reckons_79 ic_3 ?_
        refine wk_icmp_ne X 110 dX11_reckons_80 (by decide) hf (fun hf => ?_) (fun hf => ?_)
        · refine wk_iinc (lv' := [(2, .int (x2 + (-1))), (3, .int (x3 + 1)), (4, .int v4), (0, .ref x0)]) X dX11_reckons_110 3 rfl ic_m1 (by decide) rfl ?_
          refine wk_aload_n X dX11_reckons_113 3 rfl ?_
          refine wk_getR X dX11_reckons_114 fo_X11_60 hf (fun v5 hf => ?_)
          refine wk_iload_n X dX11_reckons_117 0 rfl ?_
          refine wk_iconst X dX11_reckons_118 ic_1 ?_
          refine wk_isub X dX11_reckons_119 ?_
          refine wk_iload X dX11_reckons_120 2 rfl ?_
          refine wk_aload_n X dX11_reckons_122 3 rfl ?_
          refine wk_getR X dX11_reckons_123 fo_X11_60 hf (fun v6 hf => ?_)
          refine wk_iload_n X dX11_reckons_126 0 rfl ?_
          refine wk_iconst X dX11_reckons_127 ic_1 ?_
          refine wk_isub X dX11_reckons_128 ?_
          refine wk_iald X dX11_reckons_129 hf (fun v7 hf => ?_)
          refine wk_aload_n X dX11_reckons_130 3 rfl ?_
          refine wk_getR X dX11_reckons_131 fo_X11_60 hf (fun v8 hf => ?_)
          refine wk_iload_n X dX11_reckons_134 0 rfl ?_
          refine wk_iald X dX11_reckons_135 hf (fun v9 hf => ?_)
          refine wk_callSi X [.int v4, .int v7, .int v9] [.int ((x2 + (-1)) - 1), .ref v5] dX11_reckons_136 rfl vo_X11_274 rfl (by decide) (Nat.le_of_ble_eq_true rfl) hf (c_X11_works l _ _ _ _) (fun r10 hf => ?_)
          refine wk_iast X dX11_reckons_139 hf (fun h11 hf => ?_)
          exact wq_sub [3, 0, 1] rfl (w_X11_reckons_140 X k4 hk4 _ _ _ _ hf)
        · refine wk_aload_n X dX11_reckons_83 2 rfl ?_
          refine wk_getR X dX11_reckons_84 fo_X11_60 hf (fun v12 hf => ?_)
          refine wk_iload_n X dX11_reckons_87 3 rfl ?_
          refine wk_iconst X dX11_reckons_88 ic_1 ?_
          refine wk_isub X dX11_reckons_89 ?_
          refine wk_aload_n X dX11_reckons_90 2 rfl ?_
          refine wk_getR X dX11_reckons_91 fo_X11_60 hf (fun v13 hf => ?_)
          refine wk_iload_n X dX11_reckons_94 3 rfl ?_
          refine wk_iconst X dX11_reckons_95 ic_1 ?_
          refine wk_isub X dX11_reckons_96 ?_
          refine wk_iald X dX11_reckons_97 hf (fun v14 hf => ?_)
          refine wk_if_ne X 105 dX11_reckons_98 (by decide) hf (fun hf => ?_) (fun hf => ?_)
          · refine wk_iconst X dX11_reckons_105 ic_0 ?_
            exact wq_sub [2, 3, 0] rfl (w_X11_reckons_106 X k4 hk4 _ _ _ _ _ _ _ hf)
          · refine wk_iconst X dX11_reckons_101 ic_1 ?_
            refine wk_goto X 106 dX11_reckons_102 (by decide) ?_
            exact wq_sub [2, 3, 0] rfl (w_X11_reckons_106 X k4 hk4 _ _ _ _ _ _ _ hf)
      · exact wq_sub [2, 3, 0, 1] rfl (w_X11_reckons_36 X k4 hk4 _ _ _ _ _ hf)
def l_X11_reckons_4 (x0 : Nat) (x2 : Int32) (x3 : Int32) (h : hp_H) : Option (Int32 × hp_H) := lp (fun k (s : Nat × Int32 × Int32 × hp_H) => f_X11_reckons_4  (fun a0 a1 a2 a3 => k (a0, a1, a2, a3)) s.1 s.2.1 s.2.2.1 s.2.2.2) 100000 (x0, x2, x3, h)
theorem wl_X11_reckons_4 (X : wx G p s m args meth c cX11_reckons 5 RX11 (some .int)) (x0 : Nat) (x2 : Int32) (x3 : Int32) (h : hp_H) (hf : l_X11_reckons_4 x0 x2 x3 h = some o) : wq p l e (mt_R (2) 0 0) s m args below meth c (MQ below (mt_Q G (some (.int o.1)) o.2) args s 0 0 (hp_A G)) G 5 0 0 4 [(0, .ref x0), (2, .int x2), (3, .int x3)] [] h :=
  lp_ind (P := fun (s_ : Nat × Int32 × Int32 × hp_H) => wq p l e (mt_R (2) 0 0) s m args below meth c (MQ below (mt_Q G (some (.int o.1)) o.2) args s 0 0 (hp_A G)) G 5 0 0 4 [(0, .ref s_.1), (2, .int s_.2.1), (3, .int s_.2.2.1)] [] s_.2.2.2) (fun k s hk hf => w_X11_reckons_4 X  (fun a0 a1 a2 a3 => k (a0, a1, a2, a3)) (fun a0 a1 a2 a3 hf => hk (a0, a1, a2, a3) hf) s.1 s.2.1 s.2.2.1 s.2.2.2 hf) 100000 (x0, x2, x3, h) hf
end Sf_X11_reckons
def f_X11_reckons (x0 : Nat) (x1 : Int32) (h : hp_H) : Option (Int32 × hp_H) := gd h x0 11 (l_X11_reckons_4 x0 0 x1 h)
set_option maxRecDepth 20000 in
theorem c_X11_reckons (l : Launch) (x0 : Nat) (x1 : Int32) (h : hp_H) (r : Int32 × hp_H) (hf : f_X11_reckons x0 x1 h = some r) : cv l (2) yX11_reckons cX11_reckons 5 (some .int) 11 x0 [.int x1] h (some (.int r.1)) r.2 := by
  unfold f_X11_reckons at hf
  refine cv_of (lv := [(0, .ref x0), (1, .int x1)]) hf (by decide +kernel) (Nat.le_of_ble_eq_true rfl) rfl (fun hf p e s m args below meth c G X => ?_)
  refine wk_iconst X dX11_reckons_0 ic_0 ?_
  refine wk_istore_n (lv' := [(2, .int 0), (0, .ref x0), (1, .int x1)]) X dX11_reckons_1 (by decide) rfl ?_
  refine wk_iload_n X dX11_reckons_2 2 rfl ?_
  refine wk_istore_n (lv' := [(3, .int x1), (2, .int 0), (0, .ref x0), (1, .int x1)]) X dX11_reckons_3 (by decide) rfl ?_
  exact wq_sub [2, 1, 0] rfl (wl_X11_reckons_4 X _ _ _ _ hf)
section Sf_X11_mudOf
variable {p : Program} {l : Launch} {e : Env} {s : State} {m : MethodId} {args : Array Value} {below : List Frame} {meth : Method} {c : Code} {G : hp_G} {o : Int32 × hp_H}
def f_X11_mudOf_35 (t0 : Int32) (h : hp_H) : Option (Int32 × hp_H) := some (t0, h)
set_option maxRecDepth 20000 in
theorem w_X11_mudOf_35 (X : wx G p s m args meth c cX11_mudOf 2 RX11 (some .int)) (t0 : Int32) (h : hp_H) (hf : f_X11_mudOf_35 t0 h = some o) : wq p l e (mt_R (1) 0 0) s m args below meth c (MQ below (mt_Q G (some (.int o.1)) o.2) args s 0 0 (hp_A G)) G 2 0 0 35 [] [.int t0] h := by
  unfold f_X11_mudOf_35 at hf
  exact wk_ireturn X dX11_mudOf_35 hf
end Sf_X11_mudOf
def f_X11_mudOf (x0 : Nat) (x1 : Int32) (h : hp_H) : Option (Int32 × hp_H) := gd h x0 11 ((rd_I h x0 11 41).bind fun v1 => if v1 = (-1) then ((rd_I h x0 11 4).bind fun v2 => if v2 = 0 then (f_X11_mudOf_35 2 h) else ((rd_R h x0 11 7).bind fun v3 => (rd_I h x0 11 4).bind fun v4 => (hp_rem x1 v4).bind fun v5 => (rd_A h 0 v3 v5).bind fun v6 => f_X11_mudOf_35 v6 h)) else ((rd_I h x0 11 41).bind fun v7 => some (v7, h)))
set_option maxRecDepth 20000 in
theorem c_X11_mudOf (l : Launch) (x0 : Nat) (x1 : Int32) (h : hp_H) (r : Int32 × hp_H) (hf : f_X11_mudOf x0 x1 h = some r) : cv l (1) yX11_mudOf cX11_mudOf 2 (some .int) 11 x0 [.int x1] h (some (.int r.1)) r.2 := by
  unfold f_X11_mudOf at hf
  refine cv_of (lv := [(0, .ref x0), (1, .int x1)]) hf (by decide +kernel) (Nat.le_of_ble_eq_true rfl) rfl (fun hf p e s m args below meth c G X => ?_)
  refine wk_aload_n X dX11_mudOf_0 0 rfl ?_
  refine wk_getI X dX11_mudOf_1 fo_X11_63 hf (fun v1 hf => ?_)
  refine wk_iconst X dX11_mudOf_4 ic_m1 ?_
  refine wk_icmp_eq X 13 dX11_mudOf_5 (by decide) hf (fun hf => ?_) (fun hf => ?_)
  · refine wk_aload_n X dX11_mudOf_13 0 rfl ?_
    refine wk_getI X dX11_mudOf_14 fo_X11_257 hf (fun v2 hf => ?_)
    refine wk_if_ne X 24 dX11_mudOf_17 (by decide) hf (fun hf => ?_) (fun hf => ?_)
    · refine wk_aload_n X dX11_mudOf_24 0 rfl ?_
      refine wk_getR X dX11_mudOf_25 fo_X11_19 hf (fun v3 hf => ?_)
      refine wk_iload_n X dX11_mudOf_28 1 rfl ?_
      refine wk_aload_n X dX11_mudOf_29 0 rfl ?_
      refine wk_getI X dX11_mudOf_30 fo_X11_257 hf (fun v4 hf => ?_)
      refine wk_irem X dX11_mudOf_33 hf (fun v5 hf => ?_)
      refine wk_iald X dX11_mudOf_34 hf (fun v6 hf => ?_)
      exact wq_sub [] rfl (w_X11_mudOf_35 X _ _ hf)
    · refine wk_iconst X dX11_mudOf_20 ic_2 ?_
      refine wk_goto X 35 dX11_mudOf_21 (by decide) ?_
      exact wq_sub [] rfl (w_X11_mudOf_35 X _ _ hf)
  · refine wk_aload_n X dX11_mudOf_8 0 rfl ?_
    refine wk_getI X dX11_mudOf_9 fo_X11_63 hf (fun v7 hf => ?_)
    exact wk_ireturn X dX11_mudOf_12 hf
section Sf_X11_loudOf
variable {p : Program} {l : Launch} {e : Env} {s : State} {m : MethodId} {args : Array Value} {below : List Frame} {meth : Method} {c : Code} {G : hp_G} {o : Int32 × hp_H}
def f_X11_loudOf_12  (h : hp_H) : Option (Int32 × hp_H) := some (0, h)
set_option maxRecDepth 20000 in
theorem w_X11_loudOf_12 (X : wx G p s m args meth c cX11_loudOf 6 RX11 (some .int))  (h : hp_H) (hf : f_X11_loudOf_12 h = some o) : wq p l e (mt_R (1) 0 0) s m args below meth c (MQ below (mt_Q G (some (.int o.1)) o.2) args s 0 0 (hp_A G)) G 6 0 0 12 [] [] h := by
  unfold f_X11_loudOf_12 at hf
  refine wk_iconst X dX11_loudOf_12 ic_0 ?_
  exact wk_ireturn X dX11_loudOf_13 hf
def f_X11_loudOf_95 (x4 : Int32) (h : hp_H) : Option (Int32 × hp_H) := some (x4, h)
set_option maxRecDepth 20000 in
theorem w_X11_loudOf_95 (X : wx G p s m args meth c cX11_loudOf 6 RX11 (some .int)) (x4 : Int32) (h : hp_H) (hf : f_X11_loudOf_95 x4 h = some o) : wq p l e (mt_R (1) 0 0) s m args below meth c (MQ below (mt_Q G (some (.int o.1)) o.2) args s 0 0 (hp_A G)) G 6 0 0 95 [(4, .int x4)] [] h := by
  unfold f_X11_loudOf_95 at hf
  refine wk_iload X dX11_loudOf_95 0 rfl ?_
  exact wk_ireturn X dX11_loudOf_97 hf
def f_X11_loudOf_86 (k20 : Nat → Int32 → Int32 → Int32 → Int32 → Int32 → hp_H → Option (Int32 × hp_H)) (x0 : Nat) (x1 : Int32) (x2 : Int32) (x3 : Int32) (x5 : Int32) (t0 : Int32) (t1 : Int32) (h : hp_H) : Option (Int32 × hp_H) := k20 x0 x1 x2 x3 (t0 + t1) (x5 + 1) h
set_option maxRecDepth 20000 in
theorem w_X11_loudOf_86 (X : wx G p s m args meth c cX11_loudOf 6 RX11 (some .int)) (k20 : Nat → Int32 → Int32 → Int32 → Int32 → Int32 → hp_H → Option (Int32 × hp_H)) (hk20 : ∀ (x0 : Nat) (x1 : Int32) (x2 : Int32) (x3 : Int32) (x4 : Int32) (x5 : Int32) (h : hp_H), k20 x0 x1 x2 x3 x4 x5 h = some o → wq p l e (mt_R (1) 0 0) s m args below meth c (MQ below (mt_Q G (some (.int o.1)) o.2) args s 0 0 (hp_A G)) G 6 0 0 20 [(0, .ref x0), (1, .int x1), (2, .int x2), (3, .int x3), (4, .int x4), (5, .int x5)] [] h) (x0 : Nat) (x1 : Int32) (x2 : Int32) (x3 : Int32) (x5 : Int32) (t0 : Int32) (t1 : Int32) (h : hp_H) (hf : f_X11_loudOf_86 k20 x0 x1 x2 x3 x5 t0 t1 h = some o) : wq p l e (mt_R (1) 0 0) s m args below meth c (MQ below (mt_Q G (some (.int o.1)) o.2) args s 0 0 (hp_A G)) G 6 0 0 86 [(0, .ref x0), (1, .int x1), (2, .int x2), (3, .int x3), (5, .int x5)] [.int t1, .int t0] h := by
  unfold f_X11_loudOf_86 at hf
  refine wk_iadd X dX11_loudOf_86 ?_
  refine wk_istore (lv' := [(4, .int (t0 + t1)), (0, .ref x0), (1, .int x1), (2, .int x2), (3, .int x3), (5, .int x5)]) X dX11_loudOf_87 (by decide) rfl ?_
  refine wk_iinc (lv' := [(5, .int (x5 + 1)), (4, .int (t0 + t1)), (0, .ref x0), (1, .int x1), (2, .int x2), (3, .int x3)]) X dX11_loudOf_89 5 rfl ic_1 (by decide) rfl ?_
  refine wk_goto X 20 dX11_loudOf_92 (by decide) ?_
  exact wq_sub [2, 3, 4, 5, 1, 0] rfl (hk20 _ _ _ _ _ _ _ hf)
def f_X11_loudOf_85 (k20 : Nat → Int32 → Int32 → Int32 → Int32 → Int32 → hp_H → Option (Int32 × hp_H)) (x0 : Nat) (x1 : Int32) (x2 : Int32) (x3 : Int32) (x5 : Int32) (t0 : Int32) (h : hp_H) : Option (Int32 × hp_H) := f_X11_loudOf_86 k20 x0 x1 x2 x3 x5 t0 0 h
set_option maxRecDepth 20000 in
theorem w_X11_loudOf_85 (X : wx G p s m args meth c cX11_loudOf 6 RX11 (some .int)) (k20 : Nat → Int32 → Int32 → Int32 → Int32 → Int32 → hp_H → Option (Int32 × hp_H)) (hk20 : ∀ (x0 : Nat) (x1 : Int32) (x2 : Int32) (x3 : Int32) (x4 : Int32) (x5 : Int32) (h : hp_H), k20 x0 x1 x2 x3 x4 x5 h = some o → wq p l e (mt_R (1) 0 0) s m args below meth c (MQ below (mt_Q G (some (.int o.1)) o.2) args s 0 0 (hp_A G)) G 6 0 0 20 [(0, .ref x0), (1, .int x1), (2, .int x2), (3, .int x3), (4, .int x4), (5, .int x5)] [] h) (x0 : Nat) (x1 : Int32) (x2 : Int32) (x3 : Int32) (x5 : Int32) (t0 : Int32) (h : hp_H) (hf : f_X11_loudOf_85 k20 x0 x1 x2 x3 x5 t0 h = some o) : wq p l e (mt_R (1) 0 0) s m args below meth c (MQ below (mt_Q G (some (.int o.1)) o.2) args s 0 0 (hp_A G)) G 6 0 0 85 [(0, .ref x0), (1, .int x1), (2, .int x2), (3, .int x3), (5, .int x5)] [.int t0] h := by
  unfold f_X11_loudOf_85 at hf
  refine wk_iconst X dX11_loudOf_85 ic_0 ?_
  exact wq_sub [0, 1, 2, 3, 4] rfl (w_X11_loudOf_86 X k20 hk20 _ _ _ _ _ _ _ _ hf)
def f_X11_loudOf_20 (k20 : Nat → Int32 → Int32 → Int32 → Int32 → Int32 → hp_H → Option (Int32 × hp_H)) (x0 : Nat) (x1 : Int32) (x2 : Int32) (x3 : Int32) (x4 : Int32) (x5 : Int32) (h : hp_H) : Option (Int32 × hp_H) := (rd_I h x0 11 2).bind fun v1 => if v1 ≤ x5 then (f_X11_loudOf_95 x4 h) else ((rd_R h x0 11 36).bind fun v2 => (rd_A h 0 v2 ((x1 + 25) + x2)).bind fun v3 => if ((v3 >>> (x5 &&& 31)) &&& (1 : Int32)) = 1 then ((rd_R h x0 11 36).bind fun v4 => (rd_A h 0 v4 ((x1 + 1) + x5)).bind fun v5 => if ((v5 >>> (x3 &&& 31)) &&& (1 : Int32)) = 1 then ((rd_R h x0 11 36).bind fun v6 => (rd_A h 0 v6 ((x1 + 9) + x5)).bind fun v7 => f_X11_loudOf_86 k20 x0 x1 x2 x3 x5 x4 v7 h) else (f_X11_loudOf_85 k20 x0 x1 x2 x3 x5 x4 h)) else (f_X11_loudOf_85 k20 x0 x1 x2 x3 x5 x4 h))
set_option maxRecDepth 20000 in
theorem w_X11_loudOf_20 (X : wx G p s m args meth c cX11_loudOf 6 RX11 (some .int)) (k20 : Nat → Int32 → Int32 → Int32 → Int32 → Int32 → hp_H → Option (Int32 × hp_H)) (hk20 : ∀ (x0 : Nat) (x1 : Int32) (x2 : Int32) (x3 : Int32) (x4 : Int32) (x5 : Int32) (h : hp_H), k20 x0 x1 x2 x3 x4 x5 h = some o → wq p l e (mt_R (1) 0 0) s m args below meth c (MQ below (mt_Q G (some (.int o.1)) o.2) args s 0 0 (hp_A G)) G 6 0 0 20 [(0, .ref x0), (1, .int x1), (2, .int x2), (3, .int x3), (4, .int x4), (5, .int x5)] [] h) (x0 : Nat) (x1 : Int32) (x2 : Int32) (x3 : Int32) (x4 : Int32) (x5 : Int32) (h : hp_H) (hf : f_X11_loudOf_20 k20 x0 x1 x2 x3 x4 x5 h = some o) : wq p l e (mt_R (1) 0 0) s m args below meth c (MQ below (mt_Q G (some (.int o.1)) o.2) args s 0 0 (hp_A G)) G 6 0 0 20 [(0, .ref x0), (1, .int x1), (2, .int x2), (3, .int x3), (4, .int x4), (5, .int x5)] [] h := by
  unfold f_X11_loudOf_20 at hf
  refine wk_iload X dX11_loudOf_20 5 rfl ?_
  refine wk_aload_n X dX11_loudOf_22 0 rfl ?_
  refine wk_getI X dX11_loudOf_23 fo_X11_251 hf (fun v1 hf => ?_)
  refine wk_icmp_ge X 95 dX11_loudOf_26 (by decide) hf (fun hf => ?_) (fun hf => ?_)
  · exact wq_sub [4] rfl (w_X11_loudOf_95 X _ _ hf)
  · refine wk_iload X dX11_loudOf_29 4 rfl ?_
    refine wk_aload_n X dX11_loudOf_31 0 rfl ?_
    refine wk_getR X dX11_loudOf_32 fo_X11_51 hf (fun v2 hf => ?_)
    refine wk_iload_n X dX11_loudOf_35 1 rfl ?_
    refine wk_bipush X dX11_loudOf_36 ib_25 ?_
    refine wk_iadd X dX11_loudOf_38 ?_
    refine wk_iload_n X dX11_loudOf_39 2 rfl ?_
    refine wk_iadd X dX11_loudOf_40 ?_
    refine wk_iald X dX11_loudOf_41 hf (fun v3 hf => ?_)
    refine wk_iload X dX11_loudOf_42 5 rfl ?_
    refine wk_ishr X dX11_loudOf_44 ?_
    refine wk_iconst X dX11_loudOf_45 ic_1 ?_
    refine wk_iand X dX11_loudOf_46 ?_
    refine wk_iconst X dX11_loudOf_47 ic_1 ?_
    refine wk_icmp_ne X 85 dX11_loudOf_48 (by decide) hf (fun hf => ?_) (fun hf => ?_)
    · exact wq_sub [0, 1, 2, 3, 5] rfl (w_X11_loudOf_85 X k20 hk20 _ _ _ _ _ _ _ hf)
    · refine wk_aload_n X dX11_loudOf_51 0 rfl ?_
      refine wk_getR X dX11_loudOf_52 fo_X11_51 hf (fun v4 hf => ?_)
      refine wk_iload_n X dX11_loudOf_55 1 rfl ?_
      refine wk_iconst X dX11_loudOf_56 ic_1 ?_
      refine wk_iadd X dX11_loudOf_57 ?_
      refine wk_iload X dX11_loudOf_58 5 rfl ?_
      refine wk_iadd X dX11_loudOf_60 ?_
      refine wk_iald X dX11_loudOf_61 hf (fun v5 hf => ?_)
      refine wk_iload_n X dX11_loudOf_62 3 rfl ?_
      refine wk_ishr X dX11_loudOf_63 ?_
      refine wk_iconst X dX11_loudOf_64 ic_1 ?_
      refine wk_iand X dX11_loudOf_65 ?_
      refine wk_iconst X dX11_loudOf_66 ic_1 ?_
      refine wk_icmp_ne X 85 dX11_loudOf_67 (by decide) hf (fun hf => ?_) (fun hf => ?_)
      · exact wq_sub [0, 1, 2, 3, 5] rfl (w_X11_loudOf_85 X k20 hk20 _ _ _ _ _ _ _ hf)
      · refine wk_aload_n X dX11_loudOf_70 0 rfl ?_
        refine wk_getR X dX11_loudOf_71 fo_X11_51 hf (fun v6 hf => ?_)
        refine wk_iload_n X dX11_loudOf_74 1 rfl ?_
        refine wk_bipush X dX11_loudOf_75 ib_9 ?_
        refine wk_iadd X dX11_loudOf_77 ?_
        refine wk_iload X dX11_loudOf_78 5 rfl ?_
        refine wk_iadd X dX11_loudOf_80 ?_
        refine wk_iald X dX11_loudOf_81 hf (fun v7 hf => ?_)
        refine wk_goto X 86 dX11_loudOf_82 (by decide) ?_
        exact wq_sub [0, 1, 2, 3, 5] rfl (w_X11_loudOf_86 X k20 hk20 _ _ _ _ _ _ _ _ hf)
def l_X11_loudOf_20 (x0 : Nat) (x1 : Int32) (x2 : Int32) (x3 : Int32) (x4 : Int32) (x5 : Int32) (h : hp_H) : Option (Int32 × hp_H) := lp (fun k (s : Nat × Int32 × Int32 × Int32 × Int32 × Int32 × hp_H) => f_X11_loudOf_20  (fun a0 a1 a2 a3 a4 a5 a6 => k (a0, a1, a2, a3, a4, a5, a6)) s.1 s.2.1 s.2.2.1 s.2.2.2.1 s.2.2.2.2.1 s.2.2.2.2.2.1 s.2.2.2.2.2.2) 100000 (x0, x1, x2, x3, x4, x5, h)
theorem wl_X11_loudOf_20 (X : wx G p s m args meth c cX11_loudOf 6 RX11 (some .int)) (x0 : Nat) (x1 : Int32) (x2 : Int32) (x3 : Int32) (x4 : Int32) (x5 : Int32) (h : hp_H) (hf : l_X11_loudOf_20 x0 x1 x2 x3 x4 x5 h = some o) : wq p l e (mt_R (1) 0 0) s m args below meth c (MQ below (mt_Q G (some (.int o.1)) o.2) args s 0 0 (hp_A G)) G 6 0 0 20 [(0, .ref x0), (1, .int x1), (2, .int x2), (3, .int x3), (4, .int x4), (5, .int x5)] [] h :=
  lp_ind (P := fun (s_ : Nat × Int32 × Int32 × Int32 × Int32 × Int32 × hp_H) => wq p l e (mt_R (1) 0 0) s m args below meth c (MQ below (mt_Q G (some (.int o.1)) o.2) args s 0 0 (hp_A G)) G 6 0 0 20 [(0, .ref s_.1), (1, .int s_.2.1), (2, .int s_.2.2.1), (3, .int s_.2.2.2.1), (4, .int s_.2.2.2.2.1), (5, .int s_.2.2.2.2.2.1)] [] s_.2.2.2.2.2.2) (fun k s hk hf => w_X11_loudOf_20 X  (fun a0 a1 a2 a3 a4 a5 a6 => k (a0, a1, a2, a3, a4, a5, a6)) (fun a0 a1 a2 a3 a4 a5 a6 hf => hk (a0, a1, a2, a3, a4, a5, a6) hf) s.1 s.2.1 s.2.2.1 s.2.2.2.1 s.2.2.2.2.1 s.2.2.2.2.2.1 s.2.2.2.2.2.2 hf) 100000 (x0, x1, x2, x3, x4, x5, h) hf
end Sf_X11_loudOf
def f_X11_loudOf (x0 : Nat) (x1 : Int32) (x2 : Int32) (x3 : Int32) (h : hp_H) : Option (Int32 × hp_H) := gd h x0 11 (if x2 < 0 then (f_X11_loudOf_12 h) else ((rd_I h x0 11 3).bind fun v1 => if x2 < v1 then (l_X11_loudOf_20 x0 x1 x2 x3 0 0 h) else (f_X11_loudOf_12 h)))
set_option maxRecDepth 20000 in
theorem c_X11_loudOf (l : Launch) (x0 : Nat) (x1 : Int32) (x2 : Int32) (x3 : Int32) (h : hp_H) (r : Int32 × hp_H) (hf : f_X11_loudOf x0 x1 x2 x3 h = some r) : cv l (1) yX11_loudOf cX11_loudOf 6 (some .int) 11 x0 [.int x1, .int x2, .int x3] h (some (.int r.1)) r.2 := by
  unfold f_X11_loudOf at hf
  refine cv_of (lv := [(0, .ref x0), (1, .int x1), (2, .int x2), (3, .int x3)]) hf (by decide +kernel) (Nat.le_of_ble_eq_true rfl) rfl (fun hf p e s m args below meth c G X => ?_)
  refine wk_iload_n X dX11_loudOf_0 2 rfl ?_
  refine wk_if_lt X 12 dX11_loudOf_1 (by decide) hf (fun hf => ?_) (fun hf => ?_)
  · exact wq_sub [] rfl (w_X11_loudOf_12 X _ hf)
  · refine wk_iload_n X dX11_loudOf_4 2 rfl ?_
    refine wk_aload_n X dX11_loudOf_5 0 rfl ?_
    refine wk_getI X dX11_loudOf_6 fo_X11_254 hf (fun v1 hf => ?_)
    refine wk_icmp_lt X 14 dX11_loudOf_9 (by decide) hf (fun hf => ?_) (fun hf => ?_)
    · refine wk_iconst X dX11_loudOf_14 ic_0 ?_
      refine wk_istore (lv' := [(4, .int 0), (0, .ref x0), (1, .int x1), (2, .int x2), (3, .int x3)]) X dX11_loudOf_15 (by decide) rfl ?_
      refine wk_iconst X dX11_loudOf_17 ic_0 ?_
      refine wk_istore (lv' := [(5, .int 0), (4, .int 0), (0, .ref x0), (1, .int x1), (2, .int x2), (3, .int x3)]) X dX11_loudOf_18 (by decide) rfl ?_
      exact wq_sub [2, 3, 4, 5, 1, 0] rfl (wl_X11_loudOf_20 X _ _ _ _ _ _ _ hf)
    · exact wq_sub [] rfl (w_X11_loudOf_12 X _ hf)
section Sf_X11_heardOf
variable {p : Program} {l : Launch} {e : Env} {s : State} {m : MethodId} {args : Array Value} {below : List Frame} {meth : Method} {c : Code} {G : hp_G} {o : Int32 × hp_H}
def f_X11_heardOf_186 (x4 : Int32) (h : hp_H) : Option (Int32 × hp_H) := some (x4, h)
set_option maxRecDepth 20000 in
theorem w_X11_heardOf_186 (X : wx G p s m args meth c cX11_heardOf 9 RX11 (some .int)) (x4 : Int32) (h : hp_H) (hf : f_X11_heardOf_186 x4 h = some o) : wq p l e (mt_R (3) 0 0) s m args below meth c (MQ below (mt_Q G (some (.int o.1)) o.2) args s 0 0 (hp_A G)) G 9 0 0 186 [(4, .int x4)] [] h := by
  unfold f_X11_heardOf_186 at hf
  refine wk_iload X dX11_heardOf_186 0 rfl ?_
  exact wk_ireturn X dX11_heardOf_188 hf
def f_X11_heardOf_168 (k22 : Nat → Int32 → Int32 → Int32 → Int32 → Int32 → Int32 → hp_H → Option (Int32 × hp_H)) (x0 : Nat) (x1 : Int32) (x2 : Int32) (x3 : Int32) (x4 : Int32) (x6 : Int32) (t0 : Int32) (h : hp_H) : Option (Int32 × hp_H) := k22 x0 x1 x2 x3 (x4 ||| (t0 <<< (x6 &&& 31))) t0 (x6 + 1) h
set_option maxRecDepth 20000 in
theorem w_X11_heardOf_168 (X : wx G p s m args meth c cX11_heardOf 9 RX11 (some .int)) (k22 : Nat → Int32 → Int32 → Int32 → Int32 → Int32 → Int32 → hp_H → Option (Int32 × hp_H)) (hk22 : ∀ (x0 : Nat) (x1 : Int32) (x2 : Int32) (x3 : Int32) (x4 : Int32) (x5 : Int32) (x6 : Int32) (h : hp_H), k22 x0 x1 x2 x3 x4 x5 x6 h = some o → wq p l e (mt_R (3) 0 0) s m args below meth c (MQ below (mt_Q G (some (.int o.1)) o.2) args s 0 0 (hp_A G)) G 9 0 0 22 [(0, .ref x0), (1, .int x1), (2, .int x2), (3, .int x3), (4, .int x4), (5, .int x5), (6, .int x6)] [] h) (x0 : Nat) (x1 : Int32) (x2 : Int32) (x3 : Int32) (x4 : Int32) (x6 : Int32) (t0 : Int32) (h : hp_H) (hf : f_X11_heardOf_168 k22 x0 x1 x2 x3 x4 x6 t0 h = some o) : wq p l e (mt_R (3) 0 0) s m args below meth c (MQ below (mt_Q G (some (.int o.1)) o.2) args s 0 0 (hp_A G)) G 9 0 0 168 [(0, .ref x0), (1, .int x1), (2, .int x2), (3, .int x3), (4, .int x4), (6, .int x6)] [.int t0] h := by
  unfold f_X11_heardOf_168 at hf
  refine wk_istore (lv' := [(5, .int t0), (0, .ref x0), (1, .int x1), (2, .int x2), (3, .int x3), (4, .int x4), (6, .int x6)]) X dX11_heardOf_168 (by decide) rfl ?_
  refine wk_iload X dX11_heardOf_170 5 rfl ?_
  refine wk_iload X dX11_heardOf_172 0 rfl ?_
  refine wk_iload X dX11_heardOf_174 6 rfl ?_
  refine wk_ishl X dX11_heardOf_176 ?_
  refine wk_ior X dX11_heardOf_177 ?_
  refine wk_istore (lv' := [(4, .int (x4 ||| (t0 <<< (x6 &&& 31)))), (5, .int t0), (0, .ref x0), (1, .int x1), (2, .int x2), (3, .int x3), (6, .int x6)]) X dX11_heardOf_178 (by decide) rfl ?_
  refine wk_iinc (lv' := [(6, .int (x6 + 1)), (4, .int (x4 ||| (t0 <<< (x6 &&& 31)))), (5, .int t0), (0, .ref x0), (1, .int x1), (2, .int x2), (3, .int x3)]) X dX11_heardOf_180 6 rfl ic_1 (by decide) rfl ?_
  refine wk_goto X 22 dX11_heardOf_183 (by decide) ?_
  exact wq_sub [3, 4, 5, 6, 1, 2, 0] rfl (hk22 _ _ _ _ _ _ _ _ hf)
def f_X11_heardOf_158 (k22 : Nat → Int32 → Int32 → Int32 → Int32 → Int32 → Int32 → hp_H → Option (Int32 × hp_H)) (x0 : Nat) (x1 : Int32) (x2 : Int32) (x3 : Int32) (x4 : Int32) (x6 : Int32) (x8 : Int32) (h : hp_H) : Option (Int32 × hp_H) := if x8 = 0 then (f_X11_heardOf_168 k22 x0 x1 x2 x3 x4 x6 0 h) else (f_X11_heardOf_168 k22 x0 x1 x2 x3 x4 x6 1 h)
set_option maxRecDepth 20000 in
theorem w_X11_heardOf_158 (X : wx G p s m args meth c cX11_heardOf 9 RX11 (some .int)) (k22 : Nat → Int32 → Int32 → Int32 → Int32 → Int32 → Int32 → hp_H → Option (Int32 × hp_H)) (hk22 : ∀ (x0 : Nat) (x1 : Int32) (x2 : Int32) (x3 : Int32) (x4 : Int32) (x5 : Int32) (x6 : Int32) (h : hp_H), k22 x0 x1 x2 x3 x4 x5 x6 h = some o → wq p l e (mt_R (3) 0 0) s m args below meth c (MQ below (mt_Q G (some (.int o.1)) o.2) args s 0 0 (hp_A G)) G 9 0 0 22 [(0, .ref x0), (1, .int x1), (2, .int x2), (3, .int x3), (4, .int x4), (5, .int x5), (6, .int x6)] [] h) (x0 : Nat) (x1 : Int32) (x2 : Int32) (x3 : Int32) (x4 : Int32) (x6 : Int32) (x8 : Int32) (h : hp_H) (hf : f_X11_heardOf_158 k22 x0 x1 x2 x3 x4 x6 x8 h = some o) : wq p l e (mt_R (3) 0 0) s m args below meth c (MQ below (mt_Q G (some (.int o.1)) o.2) args s 0 0 (hp_A G)) G 9 0 0 158 [(0, .ref x0), (1, .int x1), (2, .int x2), (3, .int x3), (4, .int x4), (6, .int x6), (8, .int x8)] [] h := by
  unfold f_X11_heardOf_158 at hf
  refine wk_iload X dX11_heardOf_158 6 rfl ?_
  refine wk_if_eq X 167 dX11_heardOf_160 (by decide) hf (fun hf => ?_) (fun hf => ?_)
  · refine wk_iconst X dX11_heardOf_167 ic_0 ?_
    exact wq_sub [0, 1, 2, 3, 4, 5] rfl (w_X11_heardOf_168 X k22 hk22 _ _ _ _ _ _ _ _ hf)
  · refine wk_iconst X dX11_heardOf_163 ic_1 ?_
    refine wk_goto X 168 dX11_heardOf_164 (by decide) ?_
    exact wq_sub [0, 1, 2, 3, 4, 5] rfl (w_X11_heardOf_168 X k22 hk22 _ _ _ _ _ _ _ _ hf)
def f_X11_heardOf_156 (k22 : Nat → Int32 → Int32 → Int32 → Int32 → Int32 → Int32 → hp_H → Option (Int32 × hp_H)) (x0 : Nat) (x1 : Int32) (x2 : Int32) (x3 : Int32) (x4 : Int32) (x6 : Int32) (t0 : Int32) (h : hp_H) : Option (Int32 × hp_H) := f_X11_heardOf_158 k22 x0 x1 x2 x3 x4 x6 t0 h
set_option maxRecDepth 20000 in
theorem w_X11_heardOf_156 (X : wx G p s m args meth c cX11_heardOf 9 RX11 (some .int)) (k22 : Nat → Int32 → Int32 → Int32 → Int32 → Int32 → Int32 → hp_H → Option (Int32 × hp_H)) (hk22 : ∀ (x0 : Nat) (x1 : Int32) (x2 : Int32) (x3 : Int32) (x4 : Int32) (x5 : Int32) (x6 : Int32) (h : hp_H), k22 x0 x1 x2 x3 x4 x5 x6 h = some o → wq p l e (mt_R (3) 0 0) s m args below meth c (MQ below (mt_Q G (some (.int o.1)) o.2) args s 0 0 (hp_A G)) G 9 0 0 22 [(0, .ref x0), (1, .int x1), (2, .int x2), (3, .int x3), (4, .int x4), (5, .int x5), (6, .int x6)] [] h) (x0 : Nat) (x1 : Int32) (x2 : Int32) (x3 : Int32) (x4 : Int32) (x6 : Int32) (t0 : Int32) (h : hp_H) (hf : f_X11_heardOf_156 k22 x0 x1 x2 x3 x4 x6 t0 h = some o) : wq p l e (mt_R (3) 0 0) s m args below meth c (MQ below (mt_Q G (some (.int o.1)) o.2) args s 0 0 (hp_A G)) G 9 0 0 156 [(0, .ref x0), (1, .int x1), (2, .int x2), (3, .int x3), (4, .int x4), (6, .int x6)] [.int t0] h := by
  unfold f_X11_heardOf_156 at hf
  refine wk_istore (lv' := [(8, .int t0), (0, .ref x0), (1, .int x1), (2, .int x2), (3, .int x3), (4, .int x4), (6, .int x6)]) X dX11_heardOf_156 (by decide) rfl ?_
  exact wq_sub [1, 2, 3, 4, 5, 6, 0] rfl (w_X11_heardOf_158 X k22 hk22 _ _ _ _ _ _ _ _ hf)
def f_X11_heardOf_52 (k22 : Nat → Int32 → Int32 → Int32 → Int32 → Int32 → Int32 → hp_H → Option (Int32 × hp_H)) (x0 : Nat) (x1 : Int32) (x2 : Int32) (x3 : Int32) (x4 : Int32) (x5 : Int32) (x6 : Int32) (x7 : Int32) (t0 : Int32) (h : hp_H) : Option (Int32 × hp_H) := (rd_I h x0 11 6).bind fun v1 => if v1 = (-1) then (f_X11_heardOf_158 k22 x0 x1 x2 x3 x4 x6 t0 h) else ((rd_R h x0 11 39).bind fun v2 => (wr_A h v2 0 x7).bind fun h3 => (rd_R h3 x0 11 39).bind fun v4 => (f_X11_loudOf x0 x1 (x2 - 1) x6 h3).bind fun r5 => (f_X11_loudOf x0 x1 (x2 + 1) x6 r5.2).bind fun r6 => (wr_A r6.2 v4 1 (r5.1 + r6.1)).bind fun h7 => (rd_R h7 x0 11 39).bind fun v8 => (wr_A h7 v8 2 x3).bind fun h9 => (rd_R h9 x0 11 39).bind fun v10 => (wr_A h9 v10 3 x6).bind fun h11 => (rd_R h11 x0 11 39).bind fun v12 => (rd_R h11 x0 11 36).bind fun v13 => (rd_A h11 0 v13 ((x1 + 25) + x2)).bind fun v14 => (f_X11_bits v14 h11).bind fun r15 => (wr_A r15.2 v12 4 r15.1).bind fun h16 => (rd_R h16 x0 11 39).bind fun v17 => (wr_A h16 v17 5 x5).bind fun h18 => (rd_I h18 x0 11 6).bind fun v19 => (f_X11_reckons x0 v19 h18).bind fun r20 => if r20.1 ≤ 0 then (f_X11_heardOf_156 k22 x0 x1 x2 x3 x4 x6 0 r20.2) else (f_X11_heardOf_156 k22 x0 x1 x2 x3 x4 x6 1 r20.2))
set_option maxRecDepth 20000 in
theorem w_X11_heardOf_52 (X : wx G p s m args meth c cX11_heardOf 9 RX11 (some .int)) (k22 : Nat → Int32 → Int32 → Int32 → Int32 → Int32 → Int32 → hp_H → Option (Int32 × hp_H)) (hk22 : ∀ (x0 : Nat) (x1 : Int32) (x2 : Int32) (x3 : Int32) (x4 : Int32) (x5 : Int32) (x6 : Int32) (h : hp_H), k22 x0 x1 x2 x3 x4 x5 x6 h = some o → wq p l e (mt_R (3) 0 0) s m args below meth c (MQ below (mt_Q G (some (.int o.1)) o.2) args s 0 0 (hp_A G)) G 9 0 0 22 [(0, .ref x0), (1, .int x1), (2, .int x2), (3, .int x3), (4, .int x4), (5, .int x5), (6, .int x6)] [] h) (x0 : Nat) (x1 : Int32) (x2 : Int32) (x3 : Int32) (x4 : Int32) (x5 : Int32) (x6 : Int32) (x7 : Int32) (t0 : Int32) (h : hp_H) (hf : f_X11_heardOf_52 k22 x0 x1 x2 x3 x4 x5 x6 x7 t0 h = some o) : wq p l e (mt_R (3) 0 0) s m args below meth c (MQ below (mt_Q G (some (.int o.1)) o.2) args s 0 0 (hp_A G)) G 9 0 0 52 [(0, .ref x0), (1, .int x1), (2, .int x2), (3, .int x3), (4, .int x4), (5, .int x5), (6, .int x6), (7, .int x7)] [.int t0] h := by
  unfold f_X11_heardOf_52 at hf
  refine wk_istore (lv' := [(8, .int t0), (0, .ref x0), (1, .int x1), (2, .int x2), (3, .int x3), (4, .int x4), (5, .int x5), (6, .int x6), (7, .int x7)]) X dX11_heardOf_52 (by decide) rfl ?_
  refine wk_aload_n X dX11_heardOf_54 1 rfl ?_
  refine wk_getI X dX11_heardOf_55 fo_X11_16 hf (fun v1 hf => ?_)
  refine wk_iconst X dX11_heardOf_58 ic_m1 ?_
  refine wk_icmp_eq X 158 dX11_heardOf_59 (by decide) hf (fun hf => ?_) (fun hf => ?_)
  · exact wq_sub [1, 2, 3, 4, 5, 7, 0] rfl (w_X11_heardOf_158 X k22 hk22 _ _ _ _ _ _ _ _ hf)
  · refine wk_aload_n X dX11_heardOf_62 1 rfl ?_
    refine wk_getR X dX11_heardOf_63 fo_X11_57 hf (fun v2 hf => ?_)
    refine wk_iconst X dX11_heardOf_66 ic_0 ?_
    refine wk_iload X dX11_heardOf_67 8 rfl ?_
    refine wk_iast X dX11_heardOf_69 hf (fun h3 hf => ?_)
    refine wk_aload_n X dX11_heardOf_70 1 rfl ?_
    refine wk_getR X dX11_heardOf_71 fo_X11_57 hf (fun v4 hf => ?_)
    refine wk_iconst X dX11_heardOf_74 ic_1 ?_
    refine wk_aload_n X dX11_heardOf_75 1 rfl ?_
    refine wk_iload_n X dX11_heardOf_76 2 rfl ?_
    refine wk_iload_n X dX11_heardOf_77 3 rfl ?_
    refine wk_iconst X dX11_heardOf_78 ic_1 ?_
    refine wk_isub X dX11_heardOf_79 ?_
    refine wk_iload X dX11_heardOf_80 7 rfl ?_
    refine wk_callVi X [.int x1, .int (x2 - 1), .int x6] [.int 1, .ref v4] dX11_heardOf_82 rfl vo_X11_281 rfl (by decide) (Nat.le_of_ble_eq_true rfl) hf (c_X11_loudOf l _ _ _ _ _) (fun r5 hf => ?_)
    refine wk_aload_n X dX11_heardOf_85 1 rfl ?_
    refine wk_iload_n X dX11_heardOf_86 2 rfl ?_
    refine wk_iload_n X dX11_heardOf_87 3 rfl ?_
    refine wk_iconst X dX11_heardOf_88 ic_1 ?_
    refine wk_iadd X dX11_heardOf_89 ?_
    refine wk_iload X dX11_heardOf_90 7 rfl ?_
    refine wk_callVi X [.int x1, .int (x2 + 1), .int x6] [.int r5.1, .int 1, .ref v4] dX11_heardOf_92 rfl vo_X11_281 rfl (by decide) (Nat.le_of_ble_eq_true rfl) hf (c_X11_loudOf l _ _ _ _ _) (fun r6 hf => ?_)
    refine wk_iadd X dX11_heardOf_95 ?_
    refine wk_iast X dX11_heardOf_96 hf (fun h7 hf => ?_)
    refine wk_aload_n X dX11_heardOf_97 1 rfl ?_
    refine wk_getR X dX11_heardOf_98 fo_X11_57 hf (fun v8 hf => ?_)
    refine wk_iconst X dX11_heardOf_101 ic_2 ?_
    refine wk_iload_n X dX11_heardOf_102 4 rfl ?_
    refine wk_iast X dX11_heardOf_103 hf (fun h9 hf => ?_)
    refine wk_aload_n X dX11_heardOf_104 1 rfl ?_
    refine wk_getR X dX11_heardOf_105 fo_X11_57 hf (fun v10 hf => ?_)
    refine wk_iconst X dX11_heardOf_108 ic_3 ?_
    refine wk_iload X dX11_heardOf_109 7 rfl ?_
    refine wk_iast X dX11_heardOf_111 hf (fun h11 hf => ?_)
    refine wk_aload_n X dX11_heardOf_112 1 rfl ?_
    refine wk_getR X dX11_heardOf_113 fo_X11_57 hf (fun v12 hf => ?_)
    refine wk_iconst X dX11_heardOf_116 ic_4 ?_
    refine wk_aload_n X dX11_heardOf_117 1 rfl ?_
    refine wk_getR X dX11_heardOf_118 fo_X11_51 hf (fun v13 hf => ?_)
    refine wk_iload_n X dX11_heardOf_121 2 rfl ?_
    refine wk_bipush X dX11_heardOf_122 ib_25 ?_
    refine wk_iadd X dX11_heardOf_124 ?_
    refine wk_iload_n X dX11_heardOf_125 3 rfl ?_
    refine wk_iadd X dX11_heardOf_126 ?_
    refine wk_iald X dX11_heardOf_127 hf (fun v14 hf => ?_)
    refine wk_callSi X [.int v14] [.int 4, .ref v12] dX11_heardOf_128 rfl vo_X11_284 rfl (by decide) (Nat.le_of_ble_eq_true rfl) hf (c_X11_bits l _ _) (fun r15 hf => ?_)
    refine wk_iast X dX11_heardOf_131 hf (fun h16 hf => ?_)
    refine wk_aload_n X dX11_heardOf_132 1 rfl ?_
    refine wk_getR X dX11_heardOf_133 fo_X11_57 hf (fun v17 hf => ?_)
    refine wk_iconst X dX11_heardOf_136 ic_5 ?_
    refine wk_iload X dX11_heardOf_137 6 rfl ?_
    refine wk_iast X dX11_heardOf_139 hf (fun h18 hf => ?_)
    refine wk_aload_n X dX11_heardOf_140 1 rfl ?_
    refine wk_aload_n X dX11_heardOf_141 1 rfl ?_
    refine wk_getI X dX11_heardOf_142 fo_X11_16 hf (fun v19 hf => ?_)
    refine wk_callVi X [.int v19] [] dX11_heardOf_145 rfl vo_X11_287 rfl (by decide) (Nat.le_of_ble_eq_true rfl) hf (c_X11_reckons l _ _ _) (fun r20 hf => ?_)
    refine wk_if_le X 155 dX11_heardOf_148 (by decide) hf (fun hf => ?_) (fun hf => ?_)
    · refine wk_iconst X dX11_heardOf_155 ic_0 ?_
      exact wq_sub [1, 2, 3, 4, 5, 7] rfl (w_X11_heardOf_156 X k22 hk22 _ _ _ _ _ _ _ _ hf)
    · refine wk_iconst X dX11_heardOf_151 ic_1 ?_
      refine wk_goto X 156 dX11_heardOf_152 (by decide) ?_
      exact wq_sub [1, 2, 3, 4, 5, 7] rfl (w_X11_heardOf_156 X k22 hk22 _ _ _ _ _ _ _ _ hf)
def f_X11_heardOf_22 (k22 : Nat → Int32 → Int32 → Int32 → Int32 → Int32 → Int32 → hp_H → Option (Int32 × hp_H)) (x0 : Nat) (x1 : Int32) (x2 : Int32) (x3 : Int32) (x4 : Int32) (x5 : Int32) (x6 : Int32) (h : hp_H) : Option (Int32 × hp_H) := (rd_I h x0 11 1).bind fun v1 => if v1 ≤ x6 then (f_X11_heardOf_186 x4 h) else ((f_X11_loudOf x0 x1 x2 x6 h).bind fun r2 => if r2.1 ≤ x3 then (f_X11_heardOf_52 k22 x0 x1 x2 x3 x4 x5 x6 r2.1 0 r2.2) else (f_X11_heardOf_52 k22 x0 x1 x2 x3 x4 x5 x6 r2.1 1 r2.2))
set_option maxRecDepth 20000 in
theorem w_X11_heardOf_22 (X : wx G p s m args meth c cX11_heardOf 9 RX11 (some .int)) (k22 : Nat → Int32 → Int32 → Int32 → Int32 → Int32 → Int32 → hp_H → Option (Int32 × hp_H)) (hk22 : ∀ (x0 : Nat) (x1 : Int32) (x2 : Int32) (x3 : Int32) (x4 : Int32) (x5 : Int32) (x6 : Int32) (h : hp_H), k22 x0 x1 x2 x3 x4 x5 x6 h = some o → wq p l e (mt_R (3) 0 0) s m args below meth c (MQ below (mt_Q G (some (.int o.1)) o.2) args s 0 0 (hp_A G)) G 9 0 0 22 [(0, .ref x0), (1, .int x1), (2, .int x2), (3, .int x3), (4, .int x4), (5, .int x5), (6, .int x6)] [] h) (x0 : Nat) (x1 : Int32) (x2 : Int32) (x3 : Int32) (x4 : Int32) (x5 : Int32) (x6 : Int32) (h : hp_H) (hf : f_X11_heardOf_22 k22 x0 x1 x2 x3 x4 x5 x6 h = some o) : wq p l e (mt_R (3) 0 0) s m args below meth c (MQ below (mt_Q G (some (.int o.1)) o.2) args s 0 0 (hp_A G)) G 9 0 0 22 [(0, .ref x0), (1, .int x1), (2, .int x2), (3, .int x3), (4, .int x4), (5, .int x5), (6, .int x6)] [] h := by
  unfold f_X11_heardOf_22 at hf
  refine wk_iload X dX11_heardOf_22 6 rfl ?_
  refine wk_aload_n X dX11_heardOf_24 0 rfl ?_
  refine wk_getI X dX11_heardOf_25 fo_X11_7 hf (fun v1 hf => ?_)
  refine wk_icmp_ge X 186 dX11_heardOf_28 (by decide) hf (fun hf => ?_) (fun hf => ?_)
  · exact wq_sub [4] rfl (w_X11_heardOf_186 X _ _ hf)
  · refine wk_aload_n X dX11_heardOf_31 0 rfl ?_
    refine wk_iload_n X dX11_heardOf_32 1 rfl ?_
    refine wk_iload_n X dX11_heardOf_33 2 rfl ?_
    refine wk_iload X dX11_heardOf_34 6 rfl ?_
    refine wk_callVi X [.int x1, .int x2, .int x6] [] dX11_heardOf_36 rfl vo_X11_281 rfl (by decide) (Nat.le_of_ble_eq_true rfl) hf (c_X11_loudOf l _ _ _ _ _) (fun r2 hf => ?_)
    refine wk_istore (lv' := [(7, .int r2.1), (0, .ref x0), (1, .int x1), (2, .int x2), (3, .int x3), (4, .int x4), (5, .int x5), (6, .int x6)]) X dX11_heardOf_39 (by decide) rfl ?_
    refine wk_iload X dX11_heardOf_41 0 rfl ?_
    refine wk_iload_n X dX11_heardOf_43 4 rfl ?_
    refine wk_icmp_le X 51 dX11_heardOf_44 (by decide) hf (fun hf => ?_) (fun hf => ?_)
    · refine wk_iconst X dX11_heardOf_51 ic_0 ?_
      exact wq_sub [1, 2, 3, 4, 5, 6, 7, 0] rfl (w_X11_heardOf_52 X k22 hk22 _ _ _ _ _ _ _ _ _ _ hf)
    · refine wk_iconst X dX11_heardOf_47 ic_1 ?_
      refine wk_goto X 52 dX11_heardOf_48 (by decide) ?_
      exact wq_sub [1, 2, 3, 4, 5, 6, 7, 0] rfl (w_X11_heardOf_52 X k22 hk22 _ _ _ _ _ _ _ _ _ _ hf)
def l_X11_heardOf_22 (x0 : Nat) (x1 : Int32) (x2 : Int32) (x3 : Int32) (x4 : Int32) (x5 : Int32) (x6 : Int32) (h : hp_H) : Option (Int32 × hp_H) := lp (fun k (s : Nat × Int32 × Int32 × Int32 × Int32 × Int32 × Int32 × hp_H) => f_X11_heardOf_22  (fun a0 a1 a2 a3 a4 a5 a6 a7 => k (a0, a1, a2, a3, a4, a5, a6, a7)) s.1 s.2.1 s.2.2.1 s.2.2.2.1 s.2.2.2.2.1 s.2.2.2.2.2.1 s.2.2.2.2.2.2.1 s.2.2.2.2.2.2.2) 100000 (x0, x1, x2, x3, x4, x5, x6, h)
theorem wl_X11_heardOf_22 (X : wx G p s m args meth c cX11_heardOf 9 RX11 (some .int)) (x0 : Nat) (x1 : Int32) (x2 : Int32) (x3 : Int32) (x4 : Int32) (x5 : Int32) (x6 : Int32) (h : hp_H) (hf : l_X11_heardOf_22 x0 x1 x2 x3 x4 x5 x6 h = some o) : wq p l e (mt_R (3) 0 0) s m args below meth c (MQ below (mt_Q G (some (.int o.1)) o.2) args s 0 0 (hp_A G)) G 9 0 0 22 [(0, .ref x0), (1, .int x1), (2, .int x2), (3, .int x3), (4, .int x4), (5, .int x5), (6, .int x6)] [] h :=
  lp_ind (P := fun (s_ : Nat × Int32 × Int32 × Int32 × Int32 × Int32 × Int32 × hp_H) => wq p l e (mt_R (3) 0 0) s m args below meth c (MQ below (mt_Q G (some (.int o.1)) o.2) args s 0 0 (hp_A G)) G 9 0 0 22 [(0, .ref s_.1), (1, .int s_.2.1), (2, .int s_.2.2.1), (3, .int s_.2.2.2.1), (4, .int s_.2.2.2.2.1), (5, .int s_.2.2.2.2.2.1), (6, .int s_.2.2.2.2.2.2.1)] [] s_.2.2.2.2.2.2.2) (fun k s hk hf => w_X11_heardOf_22 X  (fun a0 a1 a2 a3 a4 a5 a6 a7 => k (a0, a1, a2, a3, a4, a5, a6, a7)) (fun a0 a1 a2 a3 a4 a5 a6 a7 hf => hk (a0, a1, a2, a3, a4, a5, a6, a7) hf) s.1 s.2.1 s.2.2.1 s.2.2.2.1 s.2.2.2.2.1 s.2.2.2.2.2.1 s.2.2.2.2.2.2.1 s.2.2.2.2.2.2.2 hf) 100000 (x0, x1, x2, x3, x4, x5, x6, h) hf
end Sf_X11_heardOf
def f_X11_heardOf (x0 : Nat) (x1 : Int32) (x2 : Int32) (h : hp_H) : Option (Int32 × hp_H) := gd h x0 11 ((rd_R h x0 11 36).bind fun v1 => (rd_A h 0 v1 (x1 + 0)).bind fun v2 => (f_X11_mudOf x0 v2 h).bind fun r3 => l_X11_heardOf_22 x0 x1 x2 r3.1 0 0 0 r3.2)
set_option maxRecDepth 20000 in
theorem c_X11_heardOf (l : Launch) (x0 : Nat) (x1 : Int32) (x2 : Int32) (h : hp_H) (r : Int32 × hp_H) (hf : f_X11_heardOf x0 x1 x2 h = some r) : cv l (3) yX11_heardOf cX11_heardOf 9 (some .int) 11 x0 [.int x1, .int x2] h (some (.int r.1)) r.2 := by
  unfold f_X11_heardOf at hf
  refine cv_of (lv := [(0, .ref x0), (1, .int x1), (2, .int x2)]) hf (by decide +kernel) (Nat.le_of_ble_eq_true rfl) rfl (fun hf p e s m args below meth c G X => ?_)
  refine wk_aload_n X dX11_heardOf_0 0 rfl ?_
  refine wk_aload_n X dX11_heardOf_1 0 rfl ?_
  refine wk_getR X dX11_heardOf_2 fo_X11_51 hf (fun v1 hf => ?_)
  refine wk_iload_n X dX11_heardOf_5 1 rfl ?_
  refine wk_iconst X dX11_heardOf_6 ic_0 ?_
  refine wk_iadd X dX11_heardOf_7 ?_
  refine wk_iald X dX11_heardOf_8 hf (fun v2 hf => ?_)
  refine wk_callVi X [.int v2] [] dX11_heardOf_9 rfl vo_X11_278 rfl (by decide) (Nat.le_of_ble_eq_true rfl) hf (c_X11_mudOf l _ _ _) (fun r3 hf => ?_)
  refine wk_istore_n (lv' := [(3, .int r3.1), (0, .ref x0), (1, .int x1), (2, .int x2)]) X dX11_heardOf_12 (by decide) rfl ?_
  refine wk_iconst X dX11_heardOf_13 ic_0 ?_
  refine wk_istore (lv' := [(4, .int 0), (3, .int r3.1), (0, .ref x0), (1, .int x1), (2, .int x2)]) X dX11_heardOf_14 (by decide) rfl ?_
  refine wk_iconst X dX11_heardOf_16 ic_0 ?_
  refine wk_istore (lv' := [(5, .int 0), (4, .int 0), (3, .int r3.1), (0, .ref x0), (1, .int x1), (2, .int x2)]) X dX11_heardOf_17 (by decide) rfl ?_
  refine wk_iconst X dX11_heardOf_19 ic_0 ?_
  refine wk_istore (lv' := [(6, .int 0), (5, .int 0), (4, .int 0), (3, .int r3.1), (0, .ref x0), (1, .int x1), (2, .int x2)]) X dX11_heardOf_20 (by decide) rfl ?_
  exact wq_sub [4, 5, 6, 3, 2, 1, 0] rfl (wl_X11_heardOf_22 X _ _ _ _ _ _ _ _ hf)
section Sf_X11_nearestTo
variable {p : Program} {l : Launch} {e : Env} {s : State} {m : MethodId} {args : Array Value} {below : List Frame} {meth : Method} {c : Code} {G : hp_G} {o : Int32 × hp_H}
def f_X11_nearestTo_63 (x3 : Int32) (h : hp_H) : Option (Int32 × hp_H) := some (x3, h)
set_option maxRecDepth 20000 in
theorem w_X11_nearestTo_63 (X : wx G p s m args meth c cX11_nearestTo 7 RX11 (some .int)) (x3 : Int32) (h : hp_H) (hf : f_X11_nearestTo_63 x3 h = some o) : wq p l e (mt_R (2) 0 0) s m args below meth c (MQ below (mt_Q G (some (.int o.1)) o.2) args s 0 0 (hp_A G)) G 7 0 0 63 [(3, .int x3)] [] h := by
  unfold f_X11_nearestTo_63 at hf
  refine wk_iload_n X dX11_nearestTo_63 0 rfl ?_
  exact wk_ireturn X dX11_nearestTo_64 hf
def f_X11_nearestTo_57 (k13 : Nat → Int32 → Int32 → Int32 → Int32 → Int32 → hp_H → Option (Int32 × hp_H)) (x0 : Nat) (x1 : Int32) (x2 : Int32) (x3 : Int32) (x4 : Int32) (x5 : Int32) (h : hp_H) : Option (Int32 × hp_H) := k13 x0 x1 x2 x3 x4 (x5 + 1) h
set_option maxRecDepth 20000 in
theorem w_X11_nearestTo_57 (X : wx G p s m args meth c cX11_nearestTo 7 RX11 (some .int)) (k13 : Nat → Int32 → Int32 → Int32 → Int32 → Int32 → hp_H → Option (Int32 × hp_H)) (hk13 : ∀ (x0 : Nat) (x1 : Int32) (x2 : Int32) (x3 : Int32) (x4 : Int32) (x5 : Int32) (h : hp_H), k13 x0 x1 x2 x3 x4 x5 h = some o → wq p l e (mt_R (2) 0 0) s m args below meth c (MQ below (mt_Q G (some (.int o.1)) o.2) args s 0 0 (hp_A G)) G 7 0 0 13 [(0, .ref x0), (1, .int x1), (2, .int x2), (3, .int x3), (4, .int x4), (5, .int x5)] [] h) (x0 : Nat) (x1 : Int32) (x2 : Int32) (x3 : Int32) (x4 : Int32) (x5 : Int32) (h : hp_H) (hf : f_X11_nearestTo_57 k13 x0 x1 x2 x3 x4 x5 h = some o) : wq p l e (mt_R (2) 0 0) s m args below meth c (MQ below (mt_Q G (some (.int o.1)) o.2) args s 0 0 (hp_A G)) G 7 0 0 57 [(0, .ref x0), (1, .int x1), (2, .int x2), (3, .int x3), (4, .int x4), (5, .int x5)] [] h := by
  unfold f_X11_nearestTo_57 at hf
  refine wk_iinc (lv' := [(5, .int (x5 + 1)), (0, .ref x0), (1, .int x1), (2, .int x2), (3, .int x3), (4, .int x4)]) X dX11_nearestTo_57 5 rfl ic_1 (by decide) rfl ?_
  refine wk_goto X 13 dX11_nearestTo_60 (by decide) ?_
  exact wq_sub [1, 2, 3, 4, 5, 0] rfl (hk13 _ _ _ _ _ _ _ hf)
def f_X11_nearestTo_13 (k13 : Nat → Int32 → Int32 → Int32 → Int32 → Int32 → hp_H → Option (Int32 × hp_H)) (x0 : Nat) (x1 : Int32) (x2 : Int32) (x3 : Int32) (x4 : Int32) (x5 : Int32) (h : hp_H) : Option (Int32 × hp_H) := (rd_I h x0 11 2).bind fun v1 => if v1 ≤ x5 then (f_X11_nearestTo_63 x3 h) else ((rd_R h x0 11 36).bind fun v2 => (rd_A h 0 v2 ((x1 + 1) + x5)).bind fun v3 => (f_X11_bits (v3 ^^^ x2) h).bind fun r4 => if r4.1 < x4 then (f_X11_nearestTo_57 k13 x0 x1 x2 x5 r4.1 x5 r4.2) else (f_X11_nearestTo_57 k13 x0 x1 x2 x3 x4 x5 r4.2))
set_option maxRecDepth 20000 in
theorem w_X11_nearestTo_13 (X : wx G p s m args meth c cX11_nearestTo 7 RX11 (some .int)) (k13 : Nat → Int32 → Int32 → Int32 → Int32 → Int32 → hp_H → Option (Int32 × hp_H)) (hk13 : ∀ (x0 : Nat) (x1 : Int32) (x2 : Int32) (x3 : Int32) (x4 : Int32) (x5 : Int32) (h : hp_H), k13 x0 x1 x2 x3 x4 x5 h = some o → wq p l e (mt_R (2) 0 0) s m args below meth c (MQ below (mt_Q G (some (.int o.1)) o.2) args s 0 0 (hp_A G)) G 7 0 0 13 [(0, .ref x0), (1, .int x1), (2, .int x2), (3, .int x3), (4, .int x4), (5, .int x5)] [] h) (x0 : Nat) (x1 : Int32) (x2 : Int32) (x3 : Int32) (x4 : Int32) (x5 : Int32) (h : hp_H) (hf : f_X11_nearestTo_13 k13 x0 x1 x2 x3 x4 x5 h = some o) : wq p l e (mt_R (2) 0 0) s m args below meth c (MQ below (mt_Q G (some (.int o.1)) o.2) args s 0 0 (hp_A G)) G 7 0 0 13 [(0, .ref x0), (1, .int x1), (2, .int x2), (3, .int x3), (4, .int x4), (5, .int x5)] [] h := by
  unfold f_X11_nearestTo_13 at hf
  refine wk_iload X dX11_nearestTo_13 5 rfl ?_
  refine wk_aload_n X dX11_nearestTo_15 0 rfl ?_
  refine wk_getI X dX11_nearestTo_16 fo_X11_251 hf (fun v1 hf => ?_)
  refine wk_icmp_ge X 63 dX11_nearestTo_19 (by decide) hf (fun hf => ?_) (fun hf => ?_)
  · exact wq_sub [3] rfl (w_X11_nearestTo_63 X _ _ hf)
  · refine wk_aload_n X dX11_nearestTo_22 0 rfl ?_
    refine wk_getR X dX11_nearestTo_23 fo_X11_51 hf (fun v2 hf => ?_)
    refine wk_iload_n X dX11_nearestTo_26 1 rfl ?_
    refine wk_iconst X dX11_nearestTo_27 ic_1 ?_
    refine wk_iadd X dX11_nearestTo_28 ?_
    refine wk_iload X dX11_nearestTo_29 5 rfl ?_
    refine wk_iadd X dX11_nearestTo_31 ?_
    refine wk_iald X dX11_nearestTo_32 hf (fun v3 hf => ?_)
    refine wk_iload_n X dX11_nearestTo_33 2 rfl ?_
    refine wk_ixor X dX11_nearestTo_34 ?_
    refine wk_callSi X [.int (v3 ^^^ x2)] [] dX11_nearestTo_35 rfl vo_X11_284 rfl (by decide) (Nat.le_of_ble_eq_true rfl) hf (c_X11_bits l _ _) (fun r4 hf => ?_)
    refine wk_istore (lv' := [(6, .int r4.1), (0, .ref x0), (1, .int x1), (2, .int x2), (3, .int x3), (4, .int x4), (5, .int x5)]) X dX11_nearestTo_38 (by decide) rfl ?_
    refine wk_iload X dX11_nearestTo_40 0 rfl ?_
    refine wk_iload X dX11_nearestTo_42 5 rfl ?_
    refine wk_icmp_lt X 50 dX11_nearestTo_44 (by decide) hf (fun hf => ?_) (fun hf => ?_)
    · refine wk_iload X dX11_nearestTo_50 6 rfl ?_
      refine wk_istore_n (lv' := [(3, .int x5), (6, .int r4.1), (0, .ref x0), (1, .int x1), (2, .int x2), (4, .int x4), (5, .int x5)]) X dX11_nearestTo_52 (by decide) rfl ?_
      refine wk_iload X dX11_nearestTo_53 1 rfl ?_
      refine wk_istore (lv' := [(4, .int r4.1), (3, .int x5), (6, .int r4.1), (0, .ref x0), (1, .int x1), (2, .int x2), (5, .int x5)]) X dX11_nearestTo_55 (by decide) rfl ?_
      exact wq_sub [3, 4, 5, 1, 0, 6] rfl (w_X11_nearestTo_57 X k13 hk13 _ _ _ _ _ _ _ hf)
    · refine wk_goto X 57 dX11_nearestTo_47 (by decide) ?_
      exact wq_sub [1, 2, 3, 4, 5, 6] rfl (w_X11_nearestTo_57 X k13 hk13 _ _ _ _ _ _ _ hf)
def l_X11_nearestTo_13 (x0 : Nat) (x1 : Int32) (x2 : Int32) (x3 : Int32) (x4 : Int32) (x5 : Int32) (h : hp_H) : Option (Int32 × hp_H) := lp (fun k (s : Nat × Int32 × Int32 × Int32 × Int32 × Int32 × hp_H) => f_X11_nearestTo_13  (fun a0 a1 a2 a3 a4 a5 a6 => k (a0, a1, a2, a3, a4, a5, a6)) s.1 s.2.1 s.2.2.1 s.2.2.2.1 s.2.2.2.2.1 s.2.2.2.2.2.1 s.2.2.2.2.2.2) 100000 (x0, x1, x2, x3, x4, x5, h)
theorem wl_X11_nearestTo_13 (X : wx G p s m args meth c cX11_nearestTo 7 RX11 (some .int)) (x0 : Nat) (x1 : Int32) (x2 : Int32) (x3 : Int32) (x4 : Int32) (x5 : Int32) (h : hp_H) (hf : l_X11_nearestTo_13 x0 x1 x2 x3 x4 x5 h = some o) : wq p l e (mt_R (2) 0 0) s m args below meth c (MQ below (mt_Q G (some (.int o.1)) o.2) args s 0 0 (hp_A G)) G 7 0 0 13 [(0, .ref x0), (1, .int x1), (2, .int x2), (3, .int x3), (4, .int x4), (5, .int x5)] [] h :=
  lp_ind (P := fun (s_ : Nat × Int32 × Int32 × Int32 × Int32 × Int32 × hp_H) => wq p l e (mt_R (2) 0 0) s m args below meth c (MQ below (mt_Q G (some (.int o.1)) o.2) args s 0 0 (hp_A G)) G 7 0 0 13 [(0, .ref s_.1), (1, .int s_.2.1), (2, .int s_.2.2.1), (3, .int s_.2.2.2.1), (4, .int s_.2.2.2.2.1), (5, .int s_.2.2.2.2.2.1)] [] s_.2.2.2.2.2.2) (fun k s hk hf => w_X11_nearestTo_13 X  (fun a0 a1 a2 a3 a4 a5 a6 => k (a0, a1, a2, a3, a4, a5, a6)) (fun a0 a1 a2 a3 a4 a5 a6 hf => hk (a0, a1, a2, a3, a4, a5, a6) hf) s.1 s.2.1 s.2.2.1 s.2.2.2.1 s.2.2.2.2.1 s.2.2.2.2.2.1 s.2.2.2.2.2.2 hf) 100000 (x0, x1, x2, x3, x4, x5, h) hf
end Sf_X11_nearestTo
def f_X11_nearestTo (x0 : Nat) (x1 : Int32) (x2 : Int32) (h : hp_H) : Option (Int32 × hp_H) := gd h x0 11 ((rd_I h x0 11 5).bind fun v1 => l_X11_nearestTo_13 x0 x1 x2 (-1) (v1 + 1) 0 h)
set_option maxRecDepth 20000 in
theorem c_X11_nearestTo (l : Launch) (x0 : Nat) (x1 : Int32) (x2 : Int32) (h : hp_H) (r : Int32 × hp_H) (hf : f_X11_nearestTo x0 x1 x2 h = some r) : cv l (2) yX11_nearestTo cX11_nearestTo 7 (some .int) 11 x0 [.int x1, .int x2] h (some (.int r.1)) r.2 := by
  unfold f_X11_nearestTo at hf
  refine cv_of (lv := [(0, .ref x0), (1, .int x1), (2, .int x2)]) hf (by decide +kernel) (Nat.le_of_ble_eq_true rfl) rfl (fun hf p e s m args below meth c G X => ?_)
  refine wk_iconst X dX11_nearestTo_0 ic_m1 ?_
  refine wk_istore_n (lv' := [(3, .int (-1)), (0, .ref x0), (1, .int x1), (2, .int x2)]) X dX11_nearestTo_1 (by decide) rfl ?_
  refine wk_aload_n X dX11_nearestTo_2 1 rfl ?_
  refine wk_getI X dX11_nearestTo_3 fo_X11_13 hf (fun v1 hf => ?_)
  refine wk_iconst X dX11_nearestTo_6 ic_1 ?_
  refine wk_iadd X dX11_nearestTo_7 ?_
  refine wk_istore (lv' := [(4, .int (v1 + 1)), (3, .int (-1)), (0, .ref x0), (1, .int x1), (2, .int x2)]) X dX11_nearestTo_8 (by decide) rfl ?_
  refine wk_iconst X dX11_nearestTo_10 ic_0 ?_
  refine wk_istore (lv' := [(5, .int 0), (4, .int (v1 + 1)), (3, .int (-1)), (0, .ref x0), (1, .int x1), (2, .int x2)]) X dX11_nearestTo_11 (by decide) rfl ?_
  exact wq_sub [3, 4, 5, 2, 1, 0] rfl (wl_X11_nearestTo_13 X _ _ _ _ _ _ _ hf)
section Sf_X11_namedOf
variable {p : Program} {l : Launch} {e : Env} {s : State} {m : MethodId} {args : Array Value} {below : List Frame} {meth : Method} {c : Code} {G : hp_G} {o : Int32 × hp_H}
end Sf_X11_namedOf
def f_X11_namedOf (x0 : Nat) (x1 : Int32) (x2 : Int32) (h : hp_H) : Option (Int32 × hp_H) := gd h x0 11 ((f_X11_heardOf x0 x1 x2 h).bind fun r1 => (f_X11_nearestTo x0 x1 r1.1 r1.2).bind fun r2 => some (r2.1, r2.2))
set_option maxRecDepth 20000 in
theorem c_X11_namedOf (l : Launch) (x0 : Nat) (x1 : Int32) (x2 : Int32) (h : hp_H) (r : Int32 × hp_H) (hf : f_X11_namedOf x0 x1 x2 h = some r) : cv l (4) yX11_namedOf cX11_namedOf 3 (some .int) 11 x0 [.int x1, .int x2] h (some (.int r.1)) r.2 := by
  unfold f_X11_namedOf at hf
  refine cv_of (lv := [(0, .ref x0), (1, .int x1), (2, .int x2)]) hf (by decide +kernel) (Nat.le_of_ble_eq_true rfl) rfl (fun hf p e s m args below meth c G X => ?_)
  refine wk_aload_n X dX11_namedOf_0 0 rfl ?_
  refine wk_iload_n X dX11_namedOf_1 1 rfl ?_
  refine wk_aload_n X dX11_namedOf_2 0 rfl ?_
  refine wk_iload_n X dX11_namedOf_3 1 rfl ?_
  refine wk_iload_n X dX11_namedOf_4 2 rfl ?_
  refine wk_callVi X [.int x1, .int x2] [.int x1, .ref x0] dX11_namedOf_5 rfl vo_X11_290 rfl (by decide) (Nat.le_of_ble_eq_true rfl) hf (c_X11_heardOf l _ _ _ _) (fun r1 hf => ?_)
  refine wk_callVi X [.int x1, .int r1.1] [] dX11_namedOf_8 rfl vo_X11_293 rfl (by decide) (Nat.le_of_ble_eq_true rfl) hf (c_X11_nearestTo l _ _ _ _) (fun r2 hf => ?_)
  exact wk_ireturn X dX11_namedOf_11 hf
section Sf_X11_nightGoes
variable {p : Program} {l : Launch} {e : Env} {s : State} {m : MethodId} {args : Array Value} {below : List Frame} {meth : Method} {c : Code} {G : hp_G} {o : hp_H}
def f_X11_nightGoes_238 (x0 : Nat) (x1 : Int32) (h : hp_H) : Option (hp_H) := (rd_R h x0 11 36).bind fun v1 => (rd_A h 0 v1 (x1 + 0)).bind fun v2 => (wr_A h v1 (x1 + 0) (v2 + 1)).bind fun h3 => some h3
set_option maxRecDepth 20000 in
theorem w_X11_nightGoes_238 (X : wx G p s m args meth c cX11_nightGoes 4 RX11 none) (x0 : Nat) (x1 : Int32) (h : hp_H) (hf : f_X11_nightGoes_238 x0 x1 h = some o) : wq p l e (mt_R (5) 0 0) s m args below meth c (MQ below (mt_Q G none o) args s 0 0 (hp_A G)) G 4 0 0 238 [(0, .ref x0), (1, .int x1)] [] h := by
  unfold f_X11_nightGoes_238 at hf
  refine wk_aload_n X dX11_nightGoes_238 0 rfl ?_
  refine wk_getR X dX11_nightGoes_239 fo_X11_51 hf (fun v1 hf => ?_)
  refine wk_iload_n X dX11_nightGoes_242 1 rfl ?_
  refine wk_iconst X dX11_nightGoes_243 ic_0 ?_
  refine wk_iadd X dX11_nightGoes_244 ?_
  refine wk_dup2 X dX11_nightGoes_245 rfl rfl ?_
  refine wk_iald X dX11_nightGoes_246 hf (fun v2 hf => ?_)
  refine wk_iconst X dX11_nightGoes_247 ic_1 ?_
  refine wk_iadd X dX11_nightGoes_248 ?_
  refine wk_iast X dX11_nightGoes_249 hf (fun h3 hf => ?_)
  exact wk_return X dX11_nightGoes_250 hf
def f_X11_nightGoes_214 (x0 : Nat) (x1 : Int32) (x2 : Int32) (h : hp_H) : Option (hp_H) := (rd_I h x0 11 3).bind fun v1 => if v1 ≤ 0 then (f_X11_nightGoes_238 x0 x1 h) else ((rd_R h x0 11 36).bind fun v2 => (rd_I h x0 11 3).bind fun v3 => (wr_A h v2 (((x1 + 25) + v3) - 1) x2).bind fun h4 => f_X11_nightGoes_238 x0 x1 h4)
set_option maxRecDepth 20000 in
theorem w_X11_nightGoes_214 (X : wx G p s m args meth c cX11_nightGoes 4 RX11 none) (x0 : Nat) (x1 : Int32) (x2 : Int32) (h : hp_H) (hf : f_X11_nightGoes_214 x0 x1 x2 h = some o) : wq p l e (mt_R (5) 0 0) s m args below meth c (MQ below (mt_Q G none o) args s 0 0 (hp_A G)) G 4 0 0 214 [(0, .ref x0), (1, .int x1), (2, .int x2)] [] h := by
  unfold f_X11_nightGoes_214 at hf
  refine wk_aload_n X dX11_nightGoes_214 0 rfl ?_
  refine wk_getI X dX11_nightGoes_215 fo_X11_254 hf (fun v1 hf => ?_)
  refine wk_if_le X 238 dX11_nightGoes_218 (by decide) hf (fun hf => ?_) (fun hf => ?_)
  · exact wq_sub [0, 1] rfl (w_X11_nightGoes_238 X _ _ _ hf)
  · refine wk_aload_n X dX11_nightGoes_221 0 rfl ?_
    refine wk_getR X dX11_nightGoes_222 fo_X11_51 hf (fun v2 hf => ?_)
    refine wk_iload_n X dX11_nightGoes_225 1 rfl ?_
    refine wk_bipush X dX11_nightGoes_226 ib_25 ?_
    refine wk_iadd X dX11_nightGoes_228 ?_
    refine wk_aload_n X dX11_nightGoes_229 0 rfl ?_
    refine wk_getI X dX11_nightGoes_230 fo_X11_254 hf (fun v3 hf => ?_)
    refine wk_iadd X dX11_nightGoes_233 ?_
    refine wk_iconst X dX11_nightGoes_234 ic_1 ?_
    refine wk_isub X dX11_nightGoes_235 ?_
    refine wk_iload_n X dX11_nightGoes_236 2 rfl ?_
    refine wk_iast X dX11_nightGoes_237 hf (fun h4 hf => ?_)
    exact wq_sub [0, 1] rfl (w_X11_nightGoes_238 X _ _ _ hf)
def f_X11_nightGoes_176 (k176 : Nat → Int32 → Int32 → Int32 → hp_H → Option (hp_H)) (x0 : Nat) (x1 : Int32) (x2 : Int32) (x3 : Int32) (h : hp_H) : Option (hp_H) := (rd_I h x0 11 3).bind fun v1 => if v1 ≤ x3 then (f_X11_nightGoes_214 x0 x1 x2 h) else ((rd_R h x0 11 36).bind fun v2 => (rd_R h x0 11 36).bind fun v3 => (rd_A h 0 v3 ((x1 + 25) + x3)).bind fun v4 => (wr_A h v2 (((x1 + 25) + x3) - 1) v4).bind fun h5 => k176 x0 x1 x2 (x3 + 1) h5)
set_option maxRecDepth 20000 in
theorem w_X11_nightGoes_176 (X : wx G p s m args meth c cX11_nightGoes 4 RX11 none) (k176 : Nat → Int32 → Int32 → Int32 → hp_H → Option (hp_H)) (hk176 : ∀ (x0 : Nat) (x1 : Int32) (x2 : Int32) (x3 : Int32) (h : hp_H), k176 x0 x1 x2 x3 h = some o → wq p l e (mt_R (5) 0 0) s m args below meth c (MQ below (mt_Q G none o) args s 0 0 (hp_A G)) G 4 0 0 176 [(0, .ref x0), (1, .int x1), (2, .int x2), (3, .int x3)] [] h) (x0 : Nat) (x1 : Int32) (x2 : Int32) (x3 : Int32) (h : hp_H) (hf : f_X11_nightGoes_176 k176 x0 x1 x2 x3 h = some o) : wq p l e (mt_R (5) 0 0) s m args below meth c (MQ below (mt_Q G none o) args s 0 0 (hp_A G)) G 4 0 0 176 [(0, .ref x0), (1, .int x1), (2, .int x2), (3, .int x3)] [] h := by
  unfold f_X11_nightGoes_176 at hf
  refine wk_iload_n X dX11_nightGoes_176 3 rfl ?_
  refine wk_aload_n X dX11_nightGoes_177 0 rfl ?_
  refine wk_getI X dX11_nightGoes_178 fo_X11_254 hf (fun v1 hf => ?_)
  refine wk_icmp_ge X 214 dX11_nightGoes_181 (by decide) hf (fun hf => ?_) (fun hf => ?_)
  · exact wq_sub [0, 1, 2] rfl (w_X11_nightGoes_214 X _ _ _ _ hf)
  · refine wk_aload_n X dX11_nightGoes_184 0 rfl ?_
    refine wk_getR X dX11_nightGoes_185 fo_X11_51 hf (fun v2 hf => ?_)
    refine wk_iload_n X dX11_nightGoes_188 1 rfl ?_
    refine wk_bipush X dX11_nightGoes_189 ib_25 ?_
    refine wk_iadd X dX11_nightGoes_191 ?_
    refine wk_iload_n X dX11_nightGoes_192 3 rfl ?_
    refine wk_iadd X dX11_nightGoes_193 ?_
    refine wk_iconst X dX11_nightGoes_194 ic_1 ?_
    refine wk_isub X dX11_nightGoes_195 ?_
    refine wk_aload_n X dX11_nightGoes_196 0 rfl ?_
    refine wk_getR X dX11_nightGoes_197 fo_X11_51 hf (fun v3 hf => ?_)
    refine wk_iload_n X dX11_nightGoes_200 1 rfl ?_
    refine wk_bipush X dX11_nightGoes_201 ib_25 ?_
    refine wk_iadd X dX11_nightGoes_203 ?_
    refine wk_iload_n X dX11_nightGoes_204 3 rfl ?_
    refine wk_iadd X dX11_nightGoes_205 ?_
    refine wk_iald X dX11_nightGoes_206 hf (fun v4 hf => ?_)
    refine wk_iast X dX11_nightGoes_207 hf (fun h5 hf => ?_)
    refine wk_iinc (lv' := [(3, .int (x3 + 1)), (0, .ref x0), (1, .int x1), (2, .int x2)]) X dX11_nightGoes_208 3 rfl ic_1 (by decide) rfl ?_
    refine wk_goto X 176 dX11_nightGoes_211 (by decide) ?_
    exact wq_sub [1, 2, 3, 0] rfl (hk176 _ _ _ _ _ hf)
def l_X11_nightGoes_176 (x0 : Nat) (x1 : Int32) (x2 : Int32) (x3 : Int32) (h : hp_H) : Option (hp_H) := lp (fun k (s : Nat × Int32 × Int32 × Int32 × hp_H) => f_X11_nightGoes_176  (fun a0 a1 a2 a3 a4 => k (a0, a1, a2, a3, a4)) s.1 s.2.1 s.2.2.1 s.2.2.2.1 s.2.2.2.2) 100000 (x0, x1, x2, x3, h)
theorem wl_X11_nightGoes_176 (X : wx G p s m args meth c cX11_nightGoes 4 RX11 none) (x0 : Nat) (x1 : Int32) (x2 : Int32) (x3 : Int32) (h : hp_H) (hf : l_X11_nightGoes_176 x0 x1 x2 x3 h = some o) : wq p l e (mt_R (5) 0 0) s m args below meth c (MQ below (mt_Q G none o) args s 0 0 (hp_A G)) G 4 0 0 176 [(0, .ref x0), (1, .int x1), (2, .int x2), (3, .int x3)] [] h :=
  lp_ind (P := fun (s_ : Nat × Int32 × Int32 × Int32 × hp_H) => wq p l e (mt_R (5) 0 0) s m args below meth c (MQ below (mt_Q G none o) args s 0 0 (hp_A G)) G 4 0 0 176 [(0, .ref s_.1), (1, .int s_.2.1), (2, .int s_.2.2.1), (3, .int s_.2.2.2.1)] [] s_.2.2.2.2) (fun k s hk hf => w_X11_nightGoes_176 X  (fun a0 a1 a2 a3 a4 => k (a0, a1, a2, a3, a4)) (fun a0 a1 a2 a3 a4 hf => hk (a0, a1, a2, a3, a4) hf) s.1 s.2.1 s.2.2.1 s.2.2.2.1 s.2.2.2.2 hf) 100000 (x0, x1, x2, x3, h) hf
def f_X11_nightGoes_164 (x0 : Nat) (x1 : Int32) (h : hp_H) : Option (hp_H) := (rd_R h x0 11 36).bind fun v1 => (rd_A h 0 v1 (x1 + 25)).bind fun v2 => l_X11_nightGoes_176 x0 x1 v2 1 h
set_option maxRecDepth 20000 in
theorem w_X11_nightGoes_164 (X : wx G p s m args meth c cX11_nightGoes 4 RX11 none) (x0 : Nat) (x1 : Int32) (h : hp_H) (hf : f_X11_nightGoes_164 x0 x1 h = some o) : wq p l e (mt_R (5) 0 0) s m args below meth c (MQ below (mt_Q G none o) args s 0 0 (hp_A G)) G 4 0 0 164 [(0, .ref x0), (1, .int x1)] [] h := by
  unfold f_X11_nightGoes_164 at hf
  refine wk_aload_n X dX11_nightGoes_164 0 rfl ?_
  refine wk_getR X dX11_nightGoes_165 fo_X11_51 hf (fun v1 hf => ?_)
  refine wk_iload_n X dX11_nightGoes_168 1 rfl ?_
  refine wk_bipush X dX11_nightGoes_169 ib_25 ?_
  refine wk_iadd X dX11_nightGoes_171 ?_
  refine wk_iald X dX11_nightGoes_172 hf (fun v2 hf => ?_)
  refine wk_istore_n (lv' := [(2, .int v2), (0, .ref x0), (1, .int x1)]) X dX11_nightGoes_173 (by decide) rfl ?_
  refine wk_iconst X dX11_nightGoes_174 ic_1 ?_
  refine wk_istore_n (lv' := [(3, .int 1), (2, .int v2), (0, .ref x0), (1, .int x1)]) X dX11_nightGoes_175 (by decide) rfl ?_
  exact wq_sub [2, 3, 1, 0] rfl (wl_X11_nightGoes_176 X _ _ _ _ _ hf)
def f_X11_nightGoes_116 (k116 : Nat → Int32 → Int32 → hp_H → Option (hp_H)) (x0 : Nat) (x1 : Int32) (x2 : Int32) (h : hp_H) : Option (hp_H) := (rd_I h x0 11 2).bind fun v1 => if v1 ≤ x2 then (f_X11_nightGoes_164 x0 x1 h) else ((rd_R h x0 11 36).bind fun v2 => (rd_R h x0 11 36).bind fun v3 => (rd_A h 0 v3 ((x1 + 17) + x2)).bind fun v4 => (rd_R h x0 11 44).bind fun v5 => (rd_A h 0 v5 x2).bind fun v6 => (f_X11_lesser 99 (v4 + v6) h).bind fun r7 => (wr_A r7.2 v2 ((x1 + 17) + x2) r7.1).bind fun h8 => k116 x0 x1 (x2 + 1) h8)
set_option maxRecDepth 20000 in
theorem w_X11_nightGoes_116 (X : wx G p s m args meth c cX11_nightGoes 4 RX11 none) (k116 : Nat → Int32 → Int32 → hp_H → Option (hp_H)) (hk116 : ∀ (x0 : Nat) (x1 : Int32) (x2 : Int32) (h : hp_H), k116 x0 x1 x2 h = some o → wq p l e (mt_R (5) 0 0) s m args below meth c (MQ below (mt_Q G none o) args s 0 0 (hp_A G)) G 4 0 0 116 [(0, .ref x0), (1, .int x1), (2, .int x2)] [] h) (x0 : Nat) (x1 : Int32) (x2 : Int32) (h : hp_H) (hf : f_X11_nightGoes_116 k116 x0 x1 x2 h = some o) : wq p l e (mt_R (5) 0 0) s m args below meth c (MQ below (mt_Q G none o) args s 0 0 (hp_A G)) G 4 0 0 116 [(0, .ref x0), (1, .int x1), (2, .int x2)] [] h := by
  unfold f_X11_nightGoes_116 at hf
  refine wk_iload_n X dX11_nightGoes_116 2 rfl ?_
  refine wk_aload_n X dX11_nightGoes_117 0 rfl ?_
  refine wk_getI X dX11_nightGoes_118 fo_X11_251 hf (fun v1 hf => ?_)
  refine wk_icmp_ge X 164 dX11_nightGoes_121 (by decide) hf (fun hf => ?_) (fun hf => ?_)
  · exact wq_sub [0, 1] rfl (w_X11_nightGoes_164 X _ _ _ hf)
  · refine wk_aload_n X dX11_nightGoes_124 0 rfl ?_
    refine wk_getR X dX11_nightGoes_125 fo_X11_51 hf (fun v2 hf => ?_)
    refine wk_iload_n X dX11_nightGoes_128 1 rfl ?_
    refine wk_bipush X dX11_nightGoes_129 ib_17 ?_
    refine wk_iadd X dX11_nightGoes_131 ?_
    refine wk_iload_n X dX11_nightGoes_132 2 rfl ?_
    refine wk_iadd X dX11_nightGoes_133 ?_
    refine wk_bipush X dX11_nightGoes_134 ib_99 ?_
    refine wk_aload_n X dX11_nightGoes_136 0 rfl ?_
    refine wk_getR X dX11_nightGoes_137 fo_X11_51 hf (fun v3 hf => ?_)
    refine wk_iload_n X dX11_nightGoes_140 1 rfl ?_
    refine wk_bipush X dX11_nightGoes_141 ib_17 ?_
    refine wk_iadd X dX11_nightGoes_143 ?_
    refine wk_iload_n X dX11_nightGoes_144 2 rfl ?_
    refine wk_iadd X dX11_nightGoes_145 ?_
    refine wk_iald X dX11_nightGoes_146 hf (fun v4 hf => ?_)
    refine wk_aload_n X dX11_nightGoes_147 0 rfl ?_
    refine wk_getR X dX11_nightGoes_148 fo_X11_66 hf (fun v5 hf => ?_)
    refine wk_iload_n X dX11_nightGoes_151 2 rfl ?_
    refine wk_iald X dX11_nightGoes_152 hf (fun v6 hf => ?_)
    refine wk_iadd X dX11_nightGoes_153 ?_
    refine wk_callSi X [.int 99, .int (v4 + v6)] [.int ((x1 + 17) + x2), .ref v2] dX11_nightGoes_154 rfl vo_X11_305 rfl (by decide) (Nat.le_of_ble_eq_true rfl) hf (c_X11_lesser l _ _ _) (fun r7 hf => ?_)
    refine wk_iast X dX11_nightGoes_157 hf (fun h8 hf => ?_)
    refine wk_iinc (lv' := [(2, .int (x2 + 1)), (0, .ref x0), (1, .int x1)]) X dX11_nightGoes_158 2 rfl ic_1 (by decide) rfl ?_
    refine wk_goto X 116 dX11_nightGoes_161 (by decide) ?_
    exact wq_sub [1, 2, 0] rfl (hk116 _ _ _ _ hf)
def l_X11_nightGoes_116 (x0 : Nat) (x1 : Int32) (x2 : Int32) (h : hp_H) : Option (hp_H) := lp (fun k (s : Nat × Int32 × Int32 × hp_H) => f_X11_nightGoes_116  (fun a0 a1 a2 a3 => k (a0, a1, a2, a3)) s.1 s.2.1 s.2.2.1 s.2.2.2) 100000 (x0, x1, x2, h)
theorem wl_X11_nightGoes_116 (X : wx G p s m args meth c cX11_nightGoes 4 RX11 none) (x0 : Nat) (x1 : Int32) (x2 : Int32) (h : hp_H) (hf : l_X11_nightGoes_116 x0 x1 x2 h = some o) : wq p l e (mt_R (5) 0 0) s m args below meth c (MQ below (mt_Q G none o) args s 0 0 (hp_A G)) G 4 0 0 116 [(0, .ref x0), (1, .int x1), (2, .int x2)] [] h :=
  lp_ind (P := fun (s_ : Nat × Int32 × Int32 × hp_H) => wq p l e (mt_R (5) 0 0) s m args below meth c (MQ below (mt_Q G none o) args s 0 0 (hp_A G)) G 4 0 0 116 [(0, .ref s_.1), (1, .int s_.2.1), (2, .int s_.2.2.1)] [] s_.2.2.2) (fun k s hk hf => w_X11_nightGoes_116 X  (fun a0 a1 a2 a3 => k (a0, a1, a2, a3)) (fun a0 a1 a2 a3 hf => hk (a0, a1, a2, a3) hf) s.1 s.2.1 s.2.2.1 s.2.2.2 hf) 100000 (x0, x1, x2, h) hf
def f_X11_nightGoes_114 (x0 : Nat) (x1 : Int32) (h : hp_H) : Option (hp_H) := l_X11_nightGoes_116 x0 x1 0 h
set_option maxRecDepth 20000 in
theorem w_X11_nightGoes_114 (X : wx G p s m args meth c cX11_nightGoes 4 RX11 none) (x0 : Nat) (x1 : Int32) (h : hp_H) (hf : f_X11_nightGoes_114 x0 x1 h = some o) : wq p l e (mt_R (5) 0 0) s m args below meth c (MQ below (mt_Q G none o) args s 0 0 (hp_A G)) G 4 0 0 114 [(0, .ref x0), (1, .int x1)] [] h := by
  unfold f_X11_nightGoes_114 at hf
  refine wk_iconst X dX11_nightGoes_114 ic_0 ?_
  refine wk_istore_n (lv' := [(2, .int 0), (0, .ref x0), (1, .int x1)]) X dX11_nightGoes_115 (by decide) rfl ?_
  exact wq_sub [1, 2, 0] rfl (wl_X11_nightGoes_116 X _ _ _ _ hf)
def f_X11_nightGoes_108 (k33 : Nat → Int32 → Int32 → hp_H → Option (hp_H)) (x0 : Nat) (x1 : Int32) (x2 : Int32) (h : hp_H) : Option (hp_H) := k33 x0 x1 (x2 + 1) h
set_option maxRecDepth 20000 in
theorem w_X11_nightGoes_108 (X : wx G p s m args meth c cX11_nightGoes 4 RX11 none) (k33 : Nat → Int32 → Int32 → hp_H → Option (hp_H)) (hk33 : ∀ (x0 : Nat) (x1 : Int32) (x2 : Int32) (h : hp_H), k33 x0 x1 x2 h = some o → wq p l e (mt_R (5) 0 0) s m args below meth c (MQ below (mt_Q G none o) args s 0 0 (hp_A G)) G 4 0 0 33 [(0, .ref x0), (1, .int x1), (2, .int x2)] [] h) (x0 : Nat) (x1 : Int32) (x2 : Int32) (h : hp_H) (hf : f_X11_nightGoes_108 k33 x0 x1 x2 h = some o) : wq p l e (mt_R (5) 0 0) s m args below meth c (MQ below (mt_Q G none o) args s 0 0 (hp_A G)) G 4 0 0 108 [(0, .ref x0), (1, .int x1), (2, .int x2)] [] h := by
  unfold f_X11_nightGoes_108 at hf
  refine wk_iinc (lv' := [(2, .int (x2 + 1)), (0, .ref x0), (1, .int x1)]) X dX11_nightGoes_108 2 rfl ic_1 (by decide) rfl ?_
  refine wk_goto X 33 dX11_nightGoes_111 (by decide) ?_
  exact wq_sub [1, 2, 0] rfl (hk33 _ _ _ _ hf)
def f_X11_nightGoes_33 (k33 : Nat → Int32 → Int32 → hp_H → Option (hp_H)) (x0 : Nat) (x1 : Int32) (x2 : Int32) (h : hp_H) : Option (hp_H) := (rd_I h x0 11 3).bind fun v1 => if v1 ≤ x2 then (f_X11_nightGoes_114 x0 x1 h) else ((f_X11_namedOf x0 x1 x2 h).bind fun r2 => if r2.1 = (-1) then (f_X11_nightGoes_108 k33 x0 x1 x2 r2.2) else ((rd_I r2.2 x0 11 42).bind fun v3 => (wr_I r2.2 x0 11 42 (v3 ||| (1 <<< (r2.1 &&& 31)))).bind fun h4 => (rd_R h4 x0 11 44).bind fun v5 => (rd_A h4 0 v5 r2.1).bind fun v6 => (wr_A h4 v5 r2.1 (v6 + 1)).bind fun h7 => (rd_R h7 x0 11 36).bind fun v8 => (rd_A h7 0 v8 ((x1 + 25) + x2)).bind fun v9 => if ((v9 >>> (r2.1 &&& 31)) &&& (1 : Int32)) = 0 then ((rd_I h7 x0 11 43).bind fun v10 => (wr_I h7 x0 11 43 (v10 ||| (1 <<< (x2 &&& 31)))).bind fun h11 => f_X11_nightGoes_108 k33 x0 x1 x2 h11) else (f_X11_nightGoes_108 k33 x0 x1 x2 h7)))
set_option maxRecDepth 20000 in
theorem w_X11_nightGoes_33 (X : wx G p s m args meth c cX11_nightGoes 4 RX11 none) (k33 : Nat → Int32 → Int32 → hp_H → Option (hp_H)) (hk33 : ∀ (x0 : Nat) (x1 : Int32) (x2 : Int32) (h : hp_H), k33 x0 x1 x2 h = some o → wq p l e (mt_R (5) 0 0) s m args below meth c (MQ below (mt_Q G none o) args s 0 0 (hp_A G)) G 4 0 0 33 [(0, .ref x0), (1, .int x1), (2, .int x2)] [] h) (x0 : Nat) (x1 : Int32) (x2 : Int32) (h : hp_H) (hf : f_X11_nightGoes_33 k33 x0 x1 x2 h = some o) : wq p l e (mt_R (5) 0 0) s m args below meth c (MQ below (mt_Q G none o) args s 0 0 (hp_A G)) G 4 0 0 33 [(0, .ref x0), (1, .int x1), (2, .int x2)] [] h := by
  unfold f_X11_nightGoes_33 at hf
  refine wk_iload_n X dX11_nightGoes_33 2 rfl ?_
  refine wk_aload_n X dX11_nightGoes_34 0 rfl ?_
  refine wk_getI X dX11_nightGoes_35 fo_X11_254 hf (fun v1 hf => ?_)
  refine wk_icmp_ge X 114 dX11_nightGoes_38 (by decide) hf (fun hf => ?_) (fun hf => ?_)
  · exact wq_sub [0, 1] rfl (w_X11_nightGoes_114 X _ _ _ hf)
  · refine wk_aload_n X dX11_nightGoes_41 0 rfl ?_
    refine wk_iload_n X dX11_nightGoes_42 1 rfl ?_
    refine wk_iload_n X dX11_nightGoes_43 2 rfl ?_
    refine wk_callVi X [.int x1, .int x2] [] dX11_nightGoes_44 rfl vo_X11_302 rfl (by decide) (Nat.le_of_ble_eq_true rfl) hf (c_X11_namedOf l _ _ _ _) (fun r2 hf => ?_)
    refine wk_istore_n (lv' := [(3, .int r2.1), (0, .ref x0), (1, .int x1), (2, .int x2)]) X dX11_nightGoes_47 (by decide) rfl ?_
    refine wk_iload_n X dX11_nightGoes_48 0 rfl ?_
    refine wk_iconst X dX11_nightGoes_49 ic_m1 ?_
    refine wk_icmp_ne X 56 dX11_nightGoes_50 (by decide) hf (fun hf => ?_) (fun hf => ?_)
    · refine wk_aload_n X dX11_nightGoes_56 1 rfl ?_
      refine wk_dup X dX11_nightGoes_57 rfl ?_
      refine wk_getI X dX11_nightGoes_58 fo_X11_296 hf (fun v3 hf => ?_)
      refine wk_iconst X dX11_nightGoes_61 ic_1 ?_
      refine wk_iload_n X dX11_nightGoes_62 0 rfl ?_
      refine wk_ishl X dX11_nightGoes_63 ?_
      refine wk_ior X dX11_nightGoes_64 ?_
      refine wk_putI X dX11_nightGoes_65 fo_X11_296 hf (fun h4 hf => ?_)
      refine wk_aload_n X dX11_nightGoes_68 1 rfl ?_
      refine wk_getR X dX11_nightGoes_69 fo_X11_66 hf (fun v5 hf => ?_)
      refine wk_iload_n X dX11_nightGoes_72 0 rfl ?_
      refine wk_dup2 X dX11_nightGoes_73 rfl rfl ?_
      refine wk_iald X dX11_nightGoes_74 hf (fun v6 hf => ?_)
      refine wk_iconst X dX11_nightGoes_75 ic_1 ?_
      refine wk_iadd X dX11_nightGoes_76 ?_
      refine wk_iast X dX11_nightGoes_77 hf (fun h7 hf => ?_)
      refine wk_aload_n X dX11_nightGoes_78 1 rfl ?_
      refine wk_getR X dX11_nightGoes_79 fo_X11_51 hf (fun v8 hf => ?_)
      refine wk_iload_n X dX11_nightGoes_82 2 rfl ?_
      refine wk_bipush X dX11_nightGoes_83 ib_25 ?_
      refine wk_iadd X dX11_nightGoes_85 ?_
      refine wk_iload_n X dX11_nightGoes_86 3 rfl ?_
      refine wk_iadd X dX11_nightGoes_87 ?_
      refine wk_iald X dX11_nightGoes_88 hf (fun v9 hf => ?_)
      refine wk_iload_n X dX11_nightGoes_89 0 rfl ?_
      refine wk_ishr X dX11_nightGoes_90 ?_
      refine wk_iconst X dX11_nightGoes_91 ic_1 ?_
      refine wk_iand X dX11_nightGoes_92 ?_
      refine wk_if_ne X 108 dX11_nightGoes_93 (by decide) hf (fun hf => ?_) (fun hf => ?_)
      · exact wq_sub [1, 2, 3] rfl (w_X11_nightGoes_108 X k33 hk33 _ _ _ _ hf)
      · refine wk_aload_n X dX11_nightGoes_96 1 rfl ?_
        refine wk_dup X dX11_nightGoes_97 rfl ?_
        refine wk_getI X dX11_nightGoes_98 fo_X11_299 hf (fun v10 hf => ?_)
        refine wk_iconst X dX11_nightGoes_101 ic_1 ?_
        refine wk_iload_n X dX11_nightGoes_102 3 rfl ?_
        refine wk_ishl X dX11_nightGoes_103 ?_
        refine wk_ior X dX11_nightGoes_104 ?_
        refine wk_putI X dX11_nightGoes_105 fo_X11_299 hf (fun h11 hf => ?_)
        exact wq_sub [1, 2, 3] rfl (w_X11_nightGoes_108 X k33 hk33 _ _ _ _ hf)
    · refine wk_goto X 108 dX11_nightGoes_53 (by decide) ?_
      exact wq_sub [1, 2, 3] rfl (w_X11_nightGoes_108 X k33 hk33 _ _ _ _ hf)
def l_X11_nightGoes_33 (x0 : Nat) (x1 : Int32) (x2 : Int32) (h : hp_H) : Option (hp_H) := lp (fun k (s : Nat × Int32 × Int32 × hp_H) => f_X11_nightGoes_33  (fun a0 a1 a2 a3 => k (a0, a1, a2, a3)) s.1 s.2.1 s.2.2.1 s.2.2.2) 100000 (x0, x1, x2, h)
theorem wl_X11_nightGoes_33 (X : wx G p s m args meth c cX11_nightGoes 4 RX11 none) (x0 : Nat) (x1 : Int32) (x2 : Int32) (h : hp_H) (hf : l_X11_nightGoes_33 x0 x1 x2 h = some o) : wq p l e (mt_R (5) 0 0) s m args below meth c (MQ below (mt_Q G none o) args s 0 0 (hp_A G)) G 4 0 0 33 [(0, .ref x0), (1, .int x1), (2, .int x2)] [] h :=
  lp_ind (P := fun (s_ : Nat × Int32 × Int32 × hp_H) => wq p l e (mt_R (5) 0 0) s m args below meth c (MQ below (mt_Q G none o) args s 0 0 (hp_A G)) G 4 0 0 33 [(0, .ref s_.1), (1, .int s_.2.1), (2, .int s_.2.2.1)] [] s_.2.2.2) (fun k s hk hf => w_X11_nightGoes_33 X  (fun a0 a1 a2 a3 => k (a0, a1, a2, a3)) (fun a0 a1 a2 a3 hf => hk (a0, a1, a2, a3) hf) s.1 s.2.1 s.2.2.1 s.2.2.2 hf) 100000 (x0, x1, x2, h) hf
def f_X11_nightGoes_31 (x0 : Nat) (x1 : Int32) (h : hp_H) : Option (hp_H) := l_X11_nightGoes_33 x0 x1 0 h
set_option maxRecDepth 20000 in
theorem w_X11_nightGoes_31 (X : wx G p s m args meth c cX11_nightGoes 4 RX11 none) (x0 : Nat) (x1 : Int32) (h : hp_H) (hf : f_X11_nightGoes_31 x0 x1 h = some o) : wq p l e (mt_R (5) 0 0) s m args below meth c (MQ below (mt_Q G none o) args s 0 0 (hp_A G)) G 4 0 0 31 [(0, .ref x0), (1, .int x1)] [] h := by
  unfold f_X11_nightGoes_31 at hf
  refine wk_iconst X dX11_nightGoes_31 ic_0 ?_
  refine wk_istore_n (lv' := [(2, .int 0), (0, .ref x0), (1, .int x1)]) X dX11_nightGoes_32 (by decide) rfl ?_
  exact wq_sub [1, 2, 0] rfl (wl_X11_nightGoes_33 X _ _ _ _ hf)
def f_X11_nightGoes_12 (k12 : Nat → Int32 → Int32 → hp_H → Option (hp_H)) (x0 : Nat) (x1 : Int32) (x2 : Int32) (h : hp_H) : Option (hp_H) := if 8 ≤ x2 then (f_X11_nightGoes_31 x0 x1 h) else ((rd_R h x0 11 44).bind fun v1 => (wr_A h v1 x2 0).bind fun h2 => k12 x0 x1 (x2 + 1) h2)
set_option maxRecDepth 20000 in
theorem w_X11_nightGoes_12 (X : wx G p s m args meth c cX11_nightGoes 4 RX11 none) (k12 : Nat → Int32 → Int32 → hp_H → Option (hp_H)) (hk12 : ∀ (x0 : Nat) (x1 : Int32) (x2 : Int32) (h : hp_H), k12 x0 x1 x2 h = some o → wq p l e (mt_R (5) 0 0) s m args below meth c (MQ below (mt_Q G none o) args s 0 0 (hp_A G)) G 4 0 0 12 [(0, .ref x0), (1, .int x1), (2, .int x2)] [] h) (x0 : Nat) (x1 : Int32) (x2 : Int32) (h : hp_H) (hf : f_X11_nightGoes_12 k12 x0 x1 x2 h = some o) : wq p l e (mt_R (5) 0 0) s m args below meth c (MQ below (mt_Q G none o) args s 0 0 (hp_A G)) G 4 0 0 12 [(0, .ref x0), (1, .int x1), (2, .int x2)] [] h := by
  unfold f_X11_nightGoes_12 at hf
  refine wk_iload_n X dX11_nightGoes_12 2 rfl ?_
  refine wk_bipush X dX11_nightGoes_13 ib_8 ?_
  refine wk_icmp_ge X 31 dX11_nightGoes_15 (by decide) hf (fun hf => ?_) (fun hf => ?_)
  · exact wq_sub [0, 1] rfl (w_X11_nightGoes_31 X _ _ _ hf)
  · refine wk_aload_n X dX11_nightGoes_18 0 rfl ?_
    refine wk_getR X dX11_nightGoes_19 fo_X11_66 hf (fun v1 hf => ?_)
    refine wk_iload_n X dX11_nightGoes_22 2 rfl ?_
    refine wk_iconst X dX11_nightGoes_23 ic_0 ?_
    refine wk_iast X dX11_nightGoes_24 hf (fun h2 hf => ?_)
    refine wk_iinc (lv' := [(2, .int (x2 + 1)), (0, .ref x0), (1, .int x1)]) X dX11_nightGoes_25 2 rfl ic_1 (by decide) rfl ?_
    refine wk_goto X 12 dX11_nightGoes_28 (by decide) ?_
    exact wq_sub [1, 2, 0] rfl (hk12 _ _ _ _ hf)
def l_X11_nightGoes_12 (x0 : Nat) (x1 : Int32) (x2 : Int32) (h : hp_H) : Option (hp_H) := lp (fun k (s : Nat × Int32 × Int32 × hp_H) => f_X11_nightGoes_12  (fun a0 a1 a2 a3 => k (a0, a1, a2, a3)) s.1 s.2.1 s.2.2.1 s.2.2.2) 100000 (x0, x1, x2, h)
theorem wl_X11_nightGoes_12 (X : wx G p s m args meth c cX11_nightGoes 4 RX11 none) (x0 : Nat) (x1 : Int32) (x2 : Int32) (h : hp_H) (hf : l_X11_nightGoes_12 x0 x1 x2 h = some o) : wq p l e (mt_R (5) 0 0) s m args below meth c (MQ below (mt_Q G none o) args s 0 0 (hp_A G)) G 4 0 0 12 [(0, .ref x0), (1, .int x1), (2, .int x2)] [] h :=
  lp_ind (P := fun (s_ : Nat × Int32 × Int32 × hp_H) => wq p l e (mt_R (5) 0 0) s m args below meth c (MQ below (mt_Q G none o) args s 0 0 (hp_A G)) G 4 0 0 12 [(0, .ref s_.1), (1, .int s_.2.1), (2, .int s_.2.2.1)] [] s_.2.2.2) (fun k s hk hf => w_X11_nightGoes_12 X  (fun a0 a1 a2 a3 => k (a0, a1, a2, a3)) (fun a0 a1 a2 a3 hf => hk (a0, a1, a2, a3) hf) s.1 s.2.1 s.2.2.1 s.2.2.2 hf) 100000 (x0, x1, x2, h) hf
end Sf_X11_nightGoes
def f_X11_nightGoes (x0 : Nat) (x1 : Int32) (h : hp_H) : Option (hp_H) := gd h x0 11 ((wr_I h x0 11 42 0).bind fun h1 => (wr_I h1 x0 11 43 0).bind fun h2 => l_X11_nightGoes_12 x0 x1 0 h2)
set_option maxRecDepth 20000 in
theorem c_X11_nightGoes (l : Launch) (x0 : Nat) (x1 : Int32) (h : hp_H) (r : hp_H) (hf : f_X11_nightGoes x0 x1 h = some r) : cv l (5) yX11_nightGoes cX11_nightGoes 4 none 11 x0 [.int x1] h none r := by
  unfold f_X11_nightGoes at hf
  refine cv_of (lv := [(0, .ref x0), (1, .int x1)]) hf (by decide +kernel) (Nat.le_of_ble_eq_true rfl) rfl (fun hf p e s m args below meth c G X => ?_)
  refine wk_aload_n X dX11_nightGoes_0 0 rfl ?_
  refine wk_iconst X dX11_nightGoes_1 ic_0 ?_
  refine wk_putI X dX11_nightGoes_2 fo_X11_296 hf (fun h1 hf => ?_)
  refine wk_aload_n X dX11_nightGoes_5 0 rfl ?_
  refine wk_iconst X dX11_nightGoes_6 ic_0 ?_
  refine wk_putI X dX11_nightGoes_7 fo_X11_299 hf (fun h2 hf => ?_)
  refine wk_iconst X dX11_nightGoes_10 ic_0 ?_
  refine wk_istore_n (lv' := [(2, .int 0), (0, .ref x0), (1, .int x1)]) X dX11_nightGoes_11 (by decide) rfl ?_
  exact wq_sub [1, 2, 0] rfl (wl_X11_nightGoes_12 X _ _ _ _ hf)
section Sf_X11_nightsGo
variable {p : Program} {l : Launch} {e : Env} {s : State} {m : MethodId} {args : Array Value} {below : List Frame} {meth : Method} {c : Code} {G : hp_G} {o : hp_H}
def f_X11_nightsGo_2 (k2 : Nat → Int32 → Int32 → hp_H → Option (hp_H)) (x0 : Nat) (x1 : Int32) (x2 : Int32) (h : hp_H) : Option (hp_H) := if x1 ≤ x2 then (some h) else ((f_X11_nightGoes x0 33 h).bind fun r1 => k2 x0 x1 (x2 + 1) r1)
set_option maxRecDepth 20000 in
theorem w_X11_nightsGo_2 (X : wx G p s m args meth c cX11_nightsGo 3 RX11 none) (k2 : Nat → Int32 → Int32 → hp_H → Option (hp_H)) (hk2 : ∀ (x0 : Nat) (x1 : Int32) (x2 : Int32) (h : hp_H), k2 x0 x1 x2 h = some o → wq p l e (mt_R (6) 0 0) s m args below meth c (MQ below (mt_Q G none o) args s 0 0 (hp_A G)) G 3 0 0 2 [(0, .ref x0), (1, .int x1), (2, .int x2)] [] h) (x0 : Nat) (x1 : Int32) (x2 : Int32) (h : hp_H) (hf : f_X11_nightsGo_2 k2 x0 x1 x2 h = some o) : wq p l e (mt_R (6) 0 0) s m args below meth c (MQ below (mt_Q G none o) args s 0 0 (hp_A G)) G 3 0 0 2 [(0, .ref x0), (1, .int x1), (2, .int x2)] [] h := by
  unfold f_X11_nightsGo_2 at hf
  refine wk_iload_n X dX11_nightsGo_2 2 rfl ?_
  refine wk_iload_n X dX11_nightsGo_3 1 rfl ?_
  refine wk_icmp_ge X 19 dX11_nightsGo_4 (by decide) hf (fun hf => ?_) (fun hf => ?_)
  · exact wk_return X dX11_nightsGo_19 hf
  · refine wk_aload_n X dX11_nightsGo_7 0 rfl ?_
    refine wk_bipush X dX11_nightsGo_8 ib_33 ?_
    refine wk_callVv X [.int 33] [] dX11_nightsGo_10 rfl vo_X11_308 rfl (by decide) (Nat.le_of_ble_eq_true rfl) hf (c_X11_nightGoes l _ _ _) (fun r1 hf => ?_)
    refine wk_iinc (lv' := [(2, .int (x2 + 1)), (0, .ref x0), (1, .int x1)]) X dX11_nightsGo_13 2 rfl ic_1 (by decide) rfl ?_
    refine wk_goto X 2 dX11_nightsGo_16 (by decide) ?_
    exact wq_sub [1, 2, 0] rfl (hk2 _ _ _ _ hf)
def l_X11_nightsGo_2 (x0 : Nat) (x1 : Int32) (x2 : Int32) (h : hp_H) : Option (hp_H) := lp (fun k (s : Nat × Int32 × Int32 × hp_H) => f_X11_nightsGo_2  (fun a0 a1 a2 a3 => k (a0, a1, a2, a3)) s.1 s.2.1 s.2.2.1 s.2.2.2) 100000 (x0, x1, x2, h)
theorem wl_X11_nightsGo_2 (X : wx G p s m args meth c cX11_nightsGo 3 RX11 none) (x0 : Nat) (x1 : Int32) (x2 : Int32) (h : hp_H) (hf : l_X11_nightsGo_2 x0 x1 x2 h = some o) : wq p l e (mt_R (6) 0 0) s m args below meth c (MQ below (mt_Q G none o) args s 0 0 (hp_A G)) G 3 0 0 2 [(0, .ref x0), (1, .int x1), (2, .int x2)] [] h :=
  lp_ind (P := fun (s_ : Nat × Int32 × Int32 × hp_H) => wq p l e (mt_R (6) 0 0) s m args below meth c (MQ below (mt_Q G none o) args s 0 0 (hp_A G)) G 3 0 0 2 [(0, .ref s_.1), (1, .int s_.2.1), (2, .int s_.2.2.1)] [] s_.2.2.2) (fun k s hk hf => w_X11_nightsGo_2 X  (fun a0 a1 a2 a3 => k (a0, a1, a2, a3)) (fun a0 a1 a2 a3 hf => hk (a0, a1, a2, a3) hf) s.1 s.2.1 s.2.2.1 s.2.2.2 hf) 100000 (x0, x1, x2, h) hf
end Sf_X11_nightsGo
def f_X11_nightsGo (x0 : Nat) (x1 : Int32) (h : hp_H) : Option (hp_H) := gd h x0 11 (l_X11_nightsGo_2 x0 x1 0 h)
set_option maxRecDepth 20000 in
theorem c_X11_nightsGo (l : Launch) (x0 : Nat) (x1 : Int32) (h : hp_H) (r : hp_H) (hf : f_X11_nightsGo x0 x1 h = some r) : cv l (6) yX11_nightsGo cX11_nightsGo 3 none 11 x0 [.int x1] h none r := by
  unfold f_X11_nightsGo at hf
  refine cv_of (lv := [(0, .ref x0), (1, .int x1)]) hf (by decide +kernel) (Nat.le_of_ble_eq_true rfl) rfl (fun hf p e s m args below meth c G X => ?_)
  refine wk_iconst X dX11_nightsGo_0 ic_0 ?_
  refine wk_istore_n (lv' := [(2, .int 0), (0, .ref x0), (1, .int x1)]) X dX11_nightsGo_1 (by decide) rfl ?_
  exact wq_sub [1, 2, 0] rfl (wl_X11_nightsGo_2 X _ _ _ _ hf)
section Sf_X11_rowOf
variable {p : Program} {l : Launch} {e : Env} {s : State} {m : MethodId} {args : Array Value} {below : List Frame} {meth : Method} {c : Code} {G : hp_G} {o : Int32 × hp_H}
def f_X11_rowOf_37  (h : hp_H) : Option (Int32 × hp_H) := some ((-1), h)
set_option maxRecDepth 20000 in
theorem w_X11_rowOf_37 (X : wx G p s m args meth c cX11_rowOf 4 RX11 (some .int))  (h : hp_H) (hf : f_X11_rowOf_37 h = some o) : wq p l e (mt_R (1) 0 0) s m args below meth c (MQ below (mt_Q G (some (.int o.1)) o.2) args s 0 0 (hp_A G)) G 4 0 0 37 [] [] h := by
  unfold f_X11_rowOf_37 at hf
  refine wk_iconst X dX11_rowOf_37 ic_m1 ?_
  exact wk_ireturn X dX11_rowOf_38 hf
def f_X11_rowOf_29 (x3 : Int32) (h : hp_H) : Option (Int32 × hp_H) := some (x3, h)
set_option maxRecDepth 20000 in
theorem w_X11_rowOf_29 (X : wx G p s m args meth c cX11_rowOf 4 RX11 (some .int)) (x3 : Int32) (h : hp_H) (hf : f_X11_rowOf_29 x3 h = some o) : wq p l e (mt_R (1) 0 0) s m args below meth c (MQ below (mt_Q G (some (.int o.1)) o.2) args s 0 0 (hp_A G)) G 4 0 0 29 [(3, .int x3)] [] h := by
  unfold f_X11_rowOf_29 at hf
  refine wk_iload_n X dX11_rowOf_29 0 rfl ?_
  exact wk_ireturn X dX11_rowOf_30 hf
def f_X11_rowOf_2 (k2 : Nat → Int32 → Int32 → Int32 → hp_H → Option (Int32 × hp_H)) (x0 : Nat) (x1 : Int32) (x2 : Int32) (x3 : Int32) (h : hp_H) : Option (Int32 × hp_H) := (rd_I h x0 11 3).bind fun v1 => if v1 ≤ x3 then (f_X11_rowOf_37 h) else ((rd_R h x0 11 36).bind fun v2 => (rd_A h 0 v2 ((x1 + 25) + x3)).bind fun v3 => if ((v3 >>> (x2 &&& 31)) &&& (1 : Int32)) = 1 then (f_X11_rowOf_29 x3 h) else (k2 x0 x1 x2 (x3 + 1) h))
set_option maxRecDepth 20000 in
theorem w_X11_rowOf_2 (X : wx G p s m args meth c cX11_rowOf 4 RX11 (some .int)) (k2 : Nat → Int32 → Int32 → Int32 → hp_H → Option (Int32 × hp_H)) (hk2 : ∀ (x0 : Nat) (x1 : Int32) (x2 : Int32) (x3 : Int32) (h : hp_H), k2 x0 x1 x2 x3 h = some o → wq p l e (mt_R (1) 0 0) s m args below meth c (MQ below (mt_Q G (some (.int o.1)) o.2) args s 0 0 (hp_A G)) G 4 0 0 2 [(0, .ref x0), (1, .int x1), (2, .int x2), (3, .int x3)] [] h) (x0 : Nat) (x1 : Int32) (x2 : Int32) (x3 : Int32) (h : hp_H) (hf : f_X11_rowOf_2 k2 x0 x1 x2 x3 h = some o) : wq p l e (mt_R (1) 0 0) s m args below meth c (MQ below (mt_Q G (some (.int o.1)) o.2) args s 0 0 (hp_A G)) G 4 0 0 2 [(0, .ref x0), (1, .int x1), (2, .int x2), (3, .int x3)] [] h := by
  unfold f_X11_rowOf_2 at hf
  refine wk_iload_n X dX11_rowOf_2 3 rfl ?_
  refine wk_aload_n X dX11_rowOf_3 0 rfl ?_
  refine wk_getI X dX11_rowOf_4 fo_X11_254 hf (fun v1 hf => ?_)
  refine wk_icmp_ge X 37 dX11_rowOf_7 (by decide) hf (fun hf => ?_) (fun hf => ?_)
  · exact wq_sub [] rfl (w_X11_rowOf_37 X _ hf)
  · refine wk_aload_n X dX11_rowOf_10 0 rfl ?_
    refine wk_getR X dX11_rowOf_11 fo_X11_51 hf (fun v2 hf => ?_)
    refine wk_iload_n X dX11_rowOf_14 1 rfl ?_
    refine wk_bipush X dX11_rowOf_15 ib_25 ?_
    refine wk_iadd X dX11_rowOf_17 ?_
    refine wk_iload_n X dX11_rowOf_18 3 rfl ?_
    refine wk_iadd X dX11_rowOf_19 ?_
    refine wk_iald X dX11_rowOf_20 hf (fun v3 hf => ?_)
    refine wk_iload_n X dX11_rowOf_21 2 rfl ?_
    refine wk_ishr X dX11_rowOf_22 ?_
    refine wk_iconst X dX11_rowOf_23 ic_1 ?_
    refine wk_iand X dX11_rowOf_24 ?_
    refine wk_iconst X dX11_rowOf_25 ic_1 ?_
    refine wk_icmp_ne X 31 dX11_rowOf_26 (by decide) hf (fun hf => ?_) (fun hf => ?_)
    · refine wk_iinc (lv' := [(3, .int (x3 + 1)), (0, .ref x0), (1, .int x1), (2, .int x2)]) X dX11_rowOf_31 3 rfl ic_1 (by decide) rfl ?_
      refine wk_goto X 2 dX11_rowOf_34 (by decide) ?_
      exact wq_sub [1, 2, 3, 0] rfl (hk2 _ _ _ _ _ hf)
    · exact wq_sub [3] rfl (w_X11_rowOf_29 X _ _ hf)
def l_X11_rowOf_2 (x0 : Nat) (x1 : Int32) (x2 : Int32) (x3 : Int32) (h : hp_H) : Option (Int32 × hp_H) := lp (fun k (s : Nat × Int32 × Int32 × Int32 × hp_H) => f_X11_rowOf_2  (fun a0 a1 a2 a3 a4 => k (a0, a1, a2, a3, a4)) s.1 s.2.1 s.2.2.1 s.2.2.2.1 s.2.2.2.2) 100000 (x0, x1, x2, x3, h)
theorem wl_X11_rowOf_2 (X : wx G p s m args meth c cX11_rowOf 4 RX11 (some .int)) (x0 : Nat) (x1 : Int32) (x2 : Int32) (x3 : Int32) (h : hp_H) (hf : l_X11_rowOf_2 x0 x1 x2 x3 h = some o) : wq p l e (mt_R (1) 0 0) s m args below meth c (MQ below (mt_Q G (some (.int o.1)) o.2) args s 0 0 (hp_A G)) G 4 0 0 2 [(0, .ref x0), (1, .int x1), (2, .int x2), (3, .int x3)] [] h :=
  lp_ind (P := fun (s_ : Nat × Int32 × Int32 × Int32 × hp_H) => wq p l e (mt_R (1) 0 0) s m args below meth c (MQ below (mt_Q G (some (.int o.1)) o.2) args s 0 0 (hp_A G)) G 4 0 0 2 [(0, .ref s_.1), (1, .int s_.2.1), (2, .int s_.2.2.1), (3, .int s_.2.2.2.1)] [] s_.2.2.2.2) (fun k s hk hf => w_X11_rowOf_2 X  (fun a0 a1 a2 a3 a4 => k (a0, a1, a2, a3, a4)) (fun a0 a1 a2 a3 a4 hf => hk (a0, a1, a2, a3, a4) hf) s.1 s.2.1 s.2.2.1 s.2.2.2.1 s.2.2.2.2 hf) 100000 (x0, x1, x2, x3, h) hf
end Sf_X11_rowOf
def f_X11_rowOf (x0 : Nat) (x1 : Int32) (x2 : Int32) (h : hp_H) : Option (Int32 × hp_H) := gd h x0 11 (l_X11_rowOf_2 x0 x1 x2 0 h)
set_option maxRecDepth 20000 in
theorem c_X11_rowOf (l : Launch) (x0 : Nat) (x1 : Int32) (x2 : Int32) (h : hp_H) (r : Int32 × hp_H) (hf : f_X11_rowOf x0 x1 x2 h = some r) : cv l (1) yX11_rowOf cX11_rowOf 4 (some .int) 11 x0 [.int x1, .int x2] h (some (.int r.1)) r.2 := by
  unfold f_X11_rowOf at hf
  refine cv_of (lv := [(0, .ref x0), (1, .int x1), (2, .int x2)]) hf (by decide +kernel) (Nat.le_of_ble_eq_true rfl) rfl (fun hf p e s m args below meth c G X => ?_)
  refine wk_iconst X dX11_rowOf_0 ic_0 ?_
  refine wk_istore_n (lv' := [(3, .int 0), (0, .ref x0), (1, .int x1), (2, .int x2)]) X dX11_rowOf_1 (by decide) rfl ?_
  exact wq_sub [1, 2, 3, 0] rfl (wl_X11_rowOf_2 X _ _ _ _ _ hf)
section Sf_X11_honourOf
variable {p : Program} {l : Launch} {e : Env} {s : State} {m : MethodId} {args : Array Value} {below : List Frame} {meth : Method} {c : Code} {G : hp_G} {o : Int32 × hp_H}
def f_X11_honourOf_32 (x2 : Int32) (h : hp_H) : Option (Int32 × hp_H) := some (x2, h)
set_option maxRecDepth 20000 in
theorem w_X11_honourOf_32 (X : wx G p s m args meth c cX11_honourOf 4 RX11 (some .int)) (x2 : Int32) (h : hp_H) (hf : f_X11_honourOf_32 x2 h = some o) : wq p l e (mt_R (1) 0 0) s m args below meth c (MQ below (mt_Q G (some (.int o.1)) o.2) args s 0 0 (hp_A G)) G 4 0 0 32 [(2, .int x2)] [] h := by
  unfold f_X11_honourOf_32 at hf
  refine wk_iload_n X dX11_honourOf_32 0 rfl ?_
  exact wk_ireturn X dX11_honourOf_33 hf
def f_X11_honourOf_4 (k4 : Nat → Int32 → Int32 → Int32 → hp_H → Option (Int32 × hp_H)) (x0 : Nat) (x1 : Int32) (x2 : Int32) (x3 : Int32) (h : hp_H) : Option (Int32 × hp_H) := (rd_I h x0 11 2).bind fun v1 => if v1 ≤ x3 then (f_X11_honourOf_32 x2 h) else ((rd_R h x0 11 36).bind fun v2 => (rd_A h 0 v2 ((x1 + 17) + x3)).bind fun v3 => k4 x0 x1 (x2 + v3) (x3 + 1) h)
set_option maxRecDepth 20000 in
theorem w_X11_honourOf_4 (X : wx G p s m args meth c cX11_honourOf 4 RX11 (some .int)) (k4 : Nat → Int32 → Int32 → Int32 → hp_H → Option (Int32 × hp_H)) (hk4 : ∀ (x0 : Nat) (x1 : Int32) (x2 : Int32) (x3 : Int32) (h : hp_H), k4 x0 x1 x2 x3 h = some o → wq p l e (mt_R (1) 0 0) s m args below meth c (MQ below (mt_Q G (some (.int o.1)) o.2) args s 0 0 (hp_A G)) G 4 0 0 4 [(0, .ref x0), (1, .int x1), (2, .int x2), (3, .int x3)] [] h) (x0 : Nat) (x1 : Int32) (x2 : Int32) (x3 : Int32) (h : hp_H) (hf : f_X11_honourOf_4 k4 x0 x1 x2 x3 h = some o) : wq p l e (mt_R (1) 0 0) s m args below meth c (MQ below (mt_Q G (some (.int o.1)) o.2) args s 0 0 (hp_A G)) G 4 0 0 4 [(0, .ref x0), (1, .int x1), (2, .int x2), (3, .int x3)] [] h := by
  unfold f_X11_honourOf_4 at hf
  refine wk_iload_n X dX11_honourOf_4 3 rfl ?_
  refine wk_aload_n X dX11_honourOf_5 0 rfl ?_
  refine wk_getI X dX11_honourOf_6 fo_X11_251 hf (fun v1 hf => ?_)
  refine wk_icmp_ge X 32 dX11_honourOf_9 (by decide) hf (fun hf => ?_) (fun hf => ?_)
  · exact wq_sub [2] rfl (w_X11_honourOf_32 X _ _ hf)
  · refine wk_iload_n X dX11_honourOf_12 2 rfl ?_
    refine wk_aload_n X dX11_honourOf_13 0 rfl ?_
    refine wk_getR X dX11_honourOf_14 fo_X11_51 hf (fun v2 hf => ?_)
    refine wk_iload_n X dX11_honourOf_17 1 rfl ?_
    refine wk_bipush X dX11_honourOf_18 ib_17 ?_
    refine wk_iadd X dX11_honourOf_20 ?_
    refine wk_iload_n X dX11_honourOf_21 3 rfl ?_
    refine wk_iadd X dX11_honourOf_22 ?_
    refine wk_iald X dX11_honourOf_23 hf (fun v3 hf => ?_)
    refine wk_iadd X dX11_honourOf_24 ?_
    refine wk_istore_n (lv' := [(2, .int (x2 + v3)), (0, .ref x0), (1, .int x1), (3, .int x3)]) X dX11_honourOf_25 (by decide) rfl ?_
    refine wk_iinc (lv' := [(3, .int (x3 + 1)), (2, .int (x2 + v3)), (0, .ref x0), (1, .int x1)]) X dX11_honourOf_26 3 rfl ic_1 (by decide) rfl ?_
    refine wk_goto X 4 dX11_honourOf_29 (by decide) ?_
    exact wq_sub [2, 3, 1, 0] rfl (hk4 _ _ _ _ _ hf)
def l_X11_honourOf_4 (x0 : Nat) (x1 : Int32) (x2 : Int32) (x3 : Int32) (h : hp_H) : Option (Int32 × hp_H) := lp (fun k (s : Nat × Int32 × Int32 × Int32 × hp_H) => f_X11_honourOf_4  (fun a0 a1 a2 a3 a4 => k (a0, a1, a2, a3, a4)) s.1 s.2.1 s.2.2.1 s.2.2.2.1 s.2.2.2.2) 100000 (x0, x1, x2, x3, h)
theorem wl_X11_honourOf_4 (X : wx G p s m args meth c cX11_honourOf 4 RX11 (some .int)) (x0 : Nat) (x1 : Int32) (x2 : Int32) (x3 : Int32) (h : hp_H) (hf : l_X11_honourOf_4 x0 x1 x2 x3 h = some o) : wq p l e (mt_R (1) 0 0) s m args below meth c (MQ below (mt_Q G (some (.int o.1)) o.2) args s 0 0 (hp_A G)) G 4 0 0 4 [(0, .ref x0), (1, .int x1), (2, .int x2), (3, .int x3)] [] h :=
  lp_ind (P := fun (s_ : Nat × Int32 × Int32 × Int32 × hp_H) => wq p l e (mt_R (1) 0 0) s m args below meth c (MQ below (mt_Q G (some (.int o.1)) o.2) args s 0 0 (hp_A G)) G 4 0 0 4 [(0, .ref s_.1), (1, .int s_.2.1), (2, .int s_.2.2.1), (3, .int s_.2.2.2.1)] [] s_.2.2.2.2) (fun k s hk hf => w_X11_honourOf_4 X  (fun a0 a1 a2 a3 a4 => k (a0, a1, a2, a3, a4)) (fun a0 a1 a2 a3 a4 hf => hk (a0, a1, a2, a3, a4) hf) s.1 s.2.1 s.2.2.1 s.2.2.2.1 s.2.2.2.2 hf) 100000 (x0, x1, x2, x3, h) hf
end Sf_X11_honourOf
def f_X11_honourOf (x0 : Nat) (x1 : Int32) (h : hp_H) : Option (Int32 × hp_H) := gd h x0 11 (l_X11_honourOf_4 x0 x1 0 0 h)
set_option maxRecDepth 20000 in
theorem c_X11_honourOf (l : Launch) (x0 : Nat) (x1 : Int32) (h : hp_H) (r : Int32 × hp_H) (hf : f_X11_honourOf x0 x1 h = some r) : cv l (1) yX11_honourOf cX11_honourOf 4 (some .int) 11 x0 [.int x1] h (some (.int r.1)) r.2 := by
  unfold f_X11_honourOf at hf
  refine cv_of (lv := [(0, .ref x0), (1, .int x1)]) hf (by decide +kernel) (Nat.le_of_ble_eq_true rfl) rfl (fun hf p e s m args below meth c G X => ?_)
  refine wk_iconst X dX11_honourOf_0 ic_0 ?_
  refine wk_istore_n (lv' := [(2, .int 0), (0, .ref x0), (1, .int x1)]) X dX11_honourOf_1 (by decide) rfl ?_
  refine wk_iconst X dX11_honourOf_2 ic_0 ?_
  refine wk_istore_n (lv' := [(3, .int 0), (2, .int 0), (0, .ref x0), (1, .int x1)]) X dX11_honourOf_3 (by decide) rfl ?_
  exact wq_sub [2, 3, 1, 0] rfl (wl_X11_honourOf_4 X _ _ _ _ _ hf)
section Sf_X11_inCamp
variable {p : Program} {l : Launch} {e : Env} {s : State} {m : MethodId} {args : Array Value} {below : List Frame} {meth : Method} {c : Code} {G : hp_G} {o : Int32 × hp_H}
def f_X11_inCamp_38 (x1 : Int32) (h : hp_H) : Option (Int32 × hp_H) := some (x1, h)
set_option maxRecDepth 20000 in
theorem w_X11_inCamp_38 (X : wx G p s m args meth c cX11_inCamp 3 RX11 (some .int)) (x1 : Int32) (h : hp_H) (hf : f_X11_inCamp_38 x1 h = some o) : wq p l e (mt_R (2) 0 0) s m args below meth c (MQ below (mt_Q G (some (.int o.1)) o.2) args s 0 0 (hp_A G)) G 3 0 0 38 [(1, .int x1)] [] h := by
  unfold f_X11_inCamp_38 at hf
  refine wk_iload_n X dX11_inCamp_38 0 rfl ?_
  exact wk_ireturn X dX11_inCamp_39 hf
def f_X11_inCamp_30 (k4 : Nat → Int32 → Int32 → hp_H → Option (Int32 × hp_H)) (x0 : Nat) (x2 : Int32) (t0 : Int32) (t1 : Int32) (h : hp_H) : Option (Int32 × hp_H) := k4 x0 (t0 ||| t1) (x2 + 1) h
set_option maxRecDepth 20000 in
theorem w_X11_inCamp_30 (X : wx G p s m args meth c cX11_inCamp 3 RX11 (some .int)) (k4 : Nat → Int32 → Int32 → hp_H → Option (Int32 × hp_H)) (hk4 : ∀ (x0 : Nat) (x1 : Int32) (x2 : Int32) (h : hp_H), k4 x0 x1 x2 h = some o → wq p l e (mt_R (2) 0 0) s m args below meth c (MQ below (mt_Q G (some (.int o.1)) o.2) args s 0 0 (hp_A G)) G 3 0 0 4 [(0, .ref x0), (1, .int x1), (2, .int x2)] [] h) (x0 : Nat) (x2 : Int32) (t0 : Int32) (t1 : Int32) (h : hp_H) (hf : f_X11_inCamp_30 k4 x0 x2 t0 t1 h = some o) : wq p l e (mt_R (2) 0 0) s m args below meth c (MQ below (mt_Q G (some (.int o.1)) o.2) args s 0 0 (hp_A G)) G 3 0 0 30 [(0, .ref x0), (2, .int x2)] [.int t1, .int t0] h := by
  unfold f_X11_inCamp_30 at hf
  refine wk_ior X dX11_inCamp_30 ?_
  refine wk_istore_n (lv' := [(1, .int (t0 ||| t1)), (0, .ref x0), (2, .int x2)]) X dX11_inCamp_31 (by decide) rfl ?_
  refine wk_iinc (lv' := [(2, .int (x2 + 1)), (1, .int (t0 ||| t1)), (0, .ref x0)]) X dX11_inCamp_32 2 rfl ic_1 (by decide) rfl ?_
  refine wk_goto X 4 dX11_inCamp_35 (by decide) ?_
  exact wq_sub [2, 1, 0] rfl (hk4 _ _ _ _ hf)
def f_X11_inCamp_4 (k4 : Nat → Int32 → Int32 → hp_H → Option (Int32 × hp_H)) (x0 : Nat) (x1 : Int32) (x2 : Int32) (h : hp_H) : Option (Int32 × hp_H) := (rd_I h x0 11 2).bind fun v1 => if v1 ≤ x2 then (f_X11_inCamp_38 x1 h) else ((f_X11_rowOf x0 0 x2 h).bind fun r2 => if r2.1 = (-1) then (f_X11_inCamp_30 k4 x0 x2 x1 (1 <<< (x2 &&& 31)) r2.2) else (f_X11_inCamp_30 k4 x0 x2 x1 0 r2.2))
set_option maxRecDepth 20000 in
theorem w_X11_inCamp_4 (X : wx G p s m args meth c cX11_inCamp 3 RX11 (some .int)) (k4 : Nat → Int32 → Int32 → hp_H → Option (Int32 × hp_H)) (hk4 : ∀ (x0 : Nat) (x1 : Int32) (x2 : Int32) (h : hp_H), k4 x0 x1 x2 h = some o → wq p l e (mt_R (2) 0 0) s m args below meth c (MQ below (mt_Q G (some (.int o.1)) o.2) args s 0 0 (hp_A G)) G 3 0 0 4 [(0, .ref x0), (1, .int x1), (2, .int x2)] [] h) (x0 : Nat) (x1 : Int32) (x2 : Int32) (h : hp_H) (hf : f_X11_inCamp_4 k4 x0 x1 x2 h = some o) : wq p l e (mt_R (2) 0 0) s m args below meth c (MQ below (mt_Q G (some (.int o.1)) o.2) args s 0 0 (hp_A G)) G 3 0 0 4 [(0, .ref x0), (1, .int x1), (2, .int x2)] [] h := by
  unfold f_X11_inCamp_4 at hf
  refine wk_iload_n X dX11_inCamp_4 2 rfl ?_
  refine wk_aload_n X dX11_inCamp_5 0 rfl ?_
  refine wk_getI X dX11_inCamp_6 fo_X11_251 hf (fun v1 hf => ?_)
  refine wk_icmp_ge X 38 dX11_inCamp_9 (by decide) hf (fun hf => ?_) (fun hf => ?_)
  · exact wq_sub [1] rfl (w_X11_inCamp_38 X _ _ hf)
  · refine wk_iload_n X dX11_inCamp_12 1 rfl ?_
    refine wk_aload_n X dX11_inCamp_13 0 rfl ?_
    refine wk_iconst X dX11_inCamp_14 ic_0 ?_
    refine wk_iload_n X dX11_inCamp_15 2 rfl ?_
    refine wk_callVi X [.int 0, .int x2] [.int x1] dX11_inCamp_16 rfl vo_X11_311 rfl (by decide) (Nat.le_of_ble_eq_true rfl) hf (c_X11_rowOf l _ _ _ _) (fun r2 hf => ?_)
    refine wk_iconst X dX11_inCamp_19 ic_m1 ?_
    refine wk_icmp_ne X 29 dX11_inCamp_20 (by decide) hf (fun hf => ?_) (fun hf => ?_)
    · refine wk_iconst X dX11_inCamp_29 ic_0 ?_
      exact wq_sub [0, 2] rfl (w_X11_inCamp_30 X k4 hk4 _ _ _ _ _ hf)
    · refine wk_iconst X dX11_inCamp_23 ic_1 ?_
      refine wk_iload_n X dX11_inCamp_24 2 rfl ?_
      refine wk_ishl X dX11_inCamp_25 ?_
      refine wk_goto X 30 dX11_inCamp_26 (by decide) ?_
      exact wq_sub [0, 2] rfl (w_X11_inCamp_30 X k4 hk4 _ _ _ _ _ hf)
def l_X11_inCamp_4 (x0 : Nat) (x1 : Int32) (x2 : Int32) (h : hp_H) : Option (Int32 × hp_H) := lp (fun k (s : Nat × Int32 × Int32 × hp_H) => f_X11_inCamp_4  (fun a0 a1 a2 a3 => k (a0, a1, a2, a3)) s.1 s.2.1 s.2.2.1 s.2.2.2) 100000 (x0, x1, x2, h)
theorem wl_X11_inCamp_4 (X : wx G p s m args meth c cX11_inCamp 3 RX11 (some .int)) (x0 : Nat) (x1 : Int32) (x2 : Int32) (h : hp_H) (hf : l_X11_inCamp_4 x0 x1 x2 h = some o) : wq p l e (mt_R (2) 0 0) s m args below meth c (MQ below (mt_Q G (some (.int o.1)) o.2) args s 0 0 (hp_A G)) G 3 0 0 4 [(0, .ref x0), (1, .int x1), (2, .int x2)] [] h :=
  lp_ind (P := fun (s_ : Nat × Int32 × Int32 × hp_H) => wq p l e (mt_R (2) 0 0) s m args below meth c (MQ below (mt_Q G (some (.int o.1)) o.2) args s 0 0 (hp_A G)) G 3 0 0 4 [(0, .ref s_.1), (1, .int s_.2.1), (2, .int s_.2.2.1)] [] s_.2.2.2) (fun k s hk hf => w_X11_inCamp_4 X  (fun a0 a1 a2 a3 => k (a0, a1, a2, a3)) (fun a0 a1 a2 a3 hf => hk (a0, a1, a2, a3) hf) s.1 s.2.1 s.2.2.1 s.2.2.2 hf) 100000 (x0, x1, x2, h) hf
end Sf_X11_inCamp
def f_X11_inCamp (x0 : Nat) (h : hp_H) : Option (Int32 × hp_H) := gd h x0 11 (l_X11_inCamp_4 x0 0 0 h)
set_option maxRecDepth 20000 in
theorem c_X11_inCamp (l : Launch) (x0 : Nat) (h : hp_H) (r : Int32 × hp_H) (hf : f_X11_inCamp x0 h = some r) : cv l (2) yX11_inCamp cX11_inCamp 3 (some .int) 11 x0 [] h (some (.int r.1)) r.2 := by
  unfold f_X11_inCamp at hf
  refine cv_of (lv := [(0, .ref x0)]) hf (by decide +kernel) (Nat.le_of_ble_eq_true rfl) rfl (fun hf p e s m args below meth c G X => ?_)
  refine wk_iconst X dX11_inCamp_0 ic_0 ?_
  refine wk_istore_n (lv' := [(1, .int 0), (0, .ref x0)]) X dX11_inCamp_1 (by decide) rfl ?_
  refine wk_iconst X dX11_inCamp_2 ic_0 ?_
  refine wk_istore_n (lv' := [(2, .int 0), (1, .int 0), (0, .ref x0)]) X dX11_inCamp_3 (by decide) rfl ?_
  exact wq_sub [2, 1, 0] rfl (wl_X11_inCamp_4 X _ _ _ _ hf)
section Sf_X11_inStep
variable {p : Program} {l : Launch} {e : Env} {s : State} {m : MethodId} {args : Array Value} {below : List Frame} {meth : Method} {c : Code} {G : hp_G} {o : Int32 × hp_H}
def f_X11_inStep_54 (x1 : Int32) (h : hp_H) : Option (Int32 × hp_H) := some (x1, h)
set_option maxRecDepth 20000 in
theorem w_X11_inStep_54 (X : wx G p s m args meth c cX11_inStep 4 RX11 (some .int)) (x1 : Int32) (h : hp_H) (hf : f_X11_inStep_54 x1 h = some o) : wq p l e (mt_R (4) 0 0) s m args below meth c (MQ below (mt_Q G (some (.int o.1)) o.2) args s 0 0 (hp_A G)) G 4 0 0 54 [(1, .int x1)] [] h := by
  unfold f_X11_inStep_54 at hf
  refine wk_iload_n X dX11_inStep_54 0 rfl ?_
  exact wk_ireturn X dX11_inStep_55 hf
def f_X11_inStep_48 (k4 : Nat → Int32 → Int32 → hp_H → Option (Int32 × hp_H)) (x0 : Nat) (x1 : Int32) (x2 : Int32) (h : hp_H) : Option (Int32 × hp_H) := k4 x0 x1 (x2 + 1) h
set_option maxRecDepth 20000 in
theorem w_X11_inStep_48 (X : wx G p s m args meth c cX11_inStep 4 RX11 (some .int)) (k4 : Nat → Int32 → Int32 → hp_H → Option (Int32 × hp_H)) (hk4 : ∀ (x0 : Nat) (x1 : Int32) (x2 : Int32) (h : hp_H), k4 x0 x1 x2 h = some o → wq p l e (mt_R (4) 0 0) s m args below meth c (MQ below (mt_Q G (some (.int o.1)) o.2) args s 0 0 (hp_A G)) G 4 0 0 4 [(0, .ref x0), (1, .int x1), (2, .int x2)] [] h) (x0 : Nat) (x1 : Int32) (x2 : Int32) (h : hp_H) (hf : f_X11_inStep_48 k4 x0 x1 x2 h = some o) : wq p l e (mt_R (4) 0 0) s m args below meth c (MQ below (mt_Q G (some (.int o.1)) o.2) args s 0 0 (hp_A G)) G 4 0 0 48 [(0, .ref x0), (1, .int x1), (2, .int x2)] [] h := by
  unfold f_X11_inStep_48 at hf
  refine wk_iinc (lv' := [(2, .int (x2 + 1)), (0, .ref x0), (1, .int x1)]) X dX11_inStep_48 2 rfl ic_1 (by decide) rfl ?_
  refine wk_goto X 4 dX11_inStep_51 (by decide) ?_
  exact wq_sub [1, 2, 0] rfl (hk4 _ _ _ _ hf)
def f_X11_inStep_40 (k4 : Nat → Int32 → Int32 → hp_H → Option (Int32 × hp_H)) (k14 : Nat → Int32 → Int32 → Int32 → hp_H → Option (Int32 × hp_H)) (x0 : Nat) (x2 : Int32) (x3 : Int32) (t0 : Int32) (t1 : Int32) (h : hp_H) : Option (Int32 × hp_H) := k14 x0 (t0 + t1) x2 (x3 + 1) h
set_option maxRecDepth 20000 in
theorem w_X11_inStep_40 (X : wx G p s m args meth c cX11_inStep 4 RX11 (some .int)) (k4 : Nat → Int32 → Int32 → hp_H → Option (Int32 × hp_H)) (hk4 : ∀ (x0 : Nat) (x1 : Int32) (x2 : Int32) (h : hp_H), k4 x0 x1 x2 h = some o → wq p l e (mt_R (4) 0 0) s m args below meth c (MQ below (mt_Q G (some (.int o.1)) o.2) args s 0 0 (hp_A G)) G 4 0 0 4 [(0, .ref x0), (1, .int x1), (2, .int x2)] [] h) (k14 : Nat → Int32 → Int32 → Int32 → hp_H → Option (Int32 × hp_H)) (hk14 : ∀ (x0 : Nat) (x1 : Int32) (x2 : Int32) (x3 : Int32) (h : hp_H), k14 x0 x1 x2 x3 h = some o → wq p l e (mt_R (4) 0 0) s m args below meth c (MQ below (mt_Q G (some (.int o.1)) o.2) args s 0 0 (hp_A G)) G 4 0 0 14 [(0, .ref x0), (1, .int x1), (2, .int x2), (3, .int x3)] [] h) (x0 : Nat) (x2 : Int32) (x3 : Int32) (t0 : Int32) (t1 : Int32) (h : hp_H) (hf : f_X11_inStep_40 k4 k14 x0 x2 x3 t0 t1 h = some o) : wq p l e (mt_R (4) 0 0) s m args below meth c (MQ below (mt_Q G (some (.int o.1)) o.2) args s 0 0 (hp_A G)) G 4 0 0 40 [(0, .ref x0), (2, .int x2), (3, .int x3)] [.int t1, .int t0] h := by
  unfold f_X11_inStep_40 at hf
  refine wk_iadd X dX11_inStep_40 ?_
  refine wk_istore_n (lv' := [(1, .int (t0 + t1)), (0, .ref x0), (2, .int x2), (3, .int x3)]) X dX11_inStep_41 (by decide) rfl ?_
  refine wk_iinc (lv' := [(3, .int (x3 + 1)), (1, .int (t0 + t1)), (0, .ref x0), (2, .int x2)]) X dX11_inStep_42 3 rfl ic_1 (by decide) rfl ?_
  refine wk_goto X 14 dX11_inStep_45 (by decide) ?_
  exact wq_sub [2, 1, 3, 0] rfl (hk14 _ _ _ _ _ hf)
def f_X11_inStep_14 (k4 : Nat → Int32 → Int32 → hp_H → Option (Int32 × hp_H)) (k14 : Nat → Int32 → Int32 → Int32 → hp_H → Option (Int32 × hp_H)) (x0 : Nat) (x1 : Int32) (x2 : Int32) (x3 : Int32) (h : hp_H) : Option (Int32 × hp_H) := if x2 ≤ x3 then (f_X11_inStep_48 k4 x0 x1 x2 h) else ((f_X11_heardOf x0 0 x2 h).bind fun r1 => (f_X11_heardOf x0 0 x3 r1.2).bind fun r2 => if r1.1 = r2.1 then (f_X11_inStep_40 k4 k14 x0 x2 x3 x1 1 r2.2) else (f_X11_inStep_40 k4 k14 x0 x2 x3 x1 0 r2.2))
set_option maxRecDepth 20000 in
theorem w_X11_inStep_14 (X : wx G p s m args meth c cX11_inStep 4 RX11 (some .int)) (k4 : Nat → Int32 → Int32 → hp_H → Option (Int32 × hp_H)) (hk4 : ∀ (x0 : Nat) (x1 : Int32) (x2 : Int32) (h : hp_H), k4 x0 x1 x2 h = some o → wq p l e (mt_R (4) 0 0) s m args below meth c (MQ below (mt_Q G (some (.int o.1)) o.2) args s 0 0 (hp_A G)) G 4 0 0 4 [(0, .ref x0), (1, .int x1), (2, .int x2)] [] h) (k14 : Nat → Int32 → Int32 → Int32 → hp_H → Option (Int32 × hp_H)) (hk14 : ∀ (x0 : Nat) (x1 : Int32) (x2 : Int32) (x3 : Int32) (h : hp_H), k14 x0 x1 x2 x3 h = some o → wq p l e (mt_R (4) 0 0) s m args below meth c (MQ below (mt_Q G (some (.int o.1)) o.2) args s 0 0 (hp_A G)) G 4 0 0 14 [(0, .ref x0), (1, .int x1), (2, .int x2), (3, .int x3)] [] h) (x0 : Nat) (x1 : Int32) (x2 : Int32) (x3 : Int32) (h : hp_H) (hf : f_X11_inStep_14 k4 k14 x0 x1 x2 x3 h = some o) : wq p l e (mt_R (4) 0 0) s m args below meth c (MQ below (mt_Q G (some (.int o.1)) o.2) args s 0 0 (hp_A G)) G 4 0 0 14 [(0, .ref x0), (1, .int x1), (2, .int x2), (3, .int x3)] [] h := by
  unfold f_X11_inStep_14 at hf
  refine wk_iload_n X dX11_inStep_14 3 rfl ?_
  refine wk_iload_n X dX11_inStep_15 2 rfl ?_
  refine wk_icmp_ge X 48 dX11_inStep_16 (by decide) hf (fun hf => ?_) (fun hf => ?_)
  · exact wq_sub [0, 1, 2] rfl (w_X11_inStep_48 X k4 hk4 _ _ _ _ hf)
  · refine wk_iload_n X dX11_inStep_19 1 rfl ?_
    refine wk_aload_n X dX11_inStep_20 0 rfl ?_
    refine wk_iconst X dX11_inStep_21 ic_0 ?_
    refine wk_iload_n X dX11_inStep_22 2 rfl ?_
    refine wk_callVi X [.int 0, .int x2] [.int x1] dX11_inStep_23 rfl vo_X11_290 rfl (by decide) (Nat.le_of_ble_eq_true rfl) hf (c_X11_heardOf l _ _ _ _) (fun r1 hf => ?_)
    refine wk_aload_n X dX11_inStep_26 0 rfl ?_
    refine wk_iconst X dX11_inStep_27 ic_0 ?_
    refine wk_iload_n X dX11_inStep_28 3 rfl ?_
    refine wk_callVi X [.int 0, .int x3] [.int r1.1, .int x1] dX11_inStep_29 rfl vo_X11_290 rfl (by decide) (Nat.le_of_ble_eq_true rfl) hf (c_X11_heardOf l _ _ _ _) (fun r2 hf => ?_)
    refine wk_icmp_ne X 39 dX11_inStep_32 (by decide) hf (fun hf => ?_) (fun hf => ?_)
    · refine wk_iconst X dX11_inStep_39 ic_0 ?_
      exact wq_sub [0, 2, 3] rfl (w_X11_inStep_40 X k4 hk4 k14 hk14 _ _ _ _ _ _ hf)
    · refine wk_iconst X dX11_inStep_35 ic_1 ?_
      refine wk_goto X 40 dX11_inStep_36 (by decide) ?_
      exact wq_sub [0, 2, 3] rfl (w_X11_inStep_40 X k4 hk4 k14 hk14 _ _ _ _ _ _ hf)
def l_X11_inStep_14 (k4 : Nat → Int32 → Int32 → hp_H → Option (Int32 × hp_H)) (x0 : Nat) (x1 : Int32) (x2 : Int32) (x3 : Int32) (h : hp_H) : Option (Int32 × hp_H) := lp (fun k (s : Nat × Int32 × Int32 × Int32 × hp_H) => f_X11_inStep_14 k4 (fun a0 a1 a2 a3 a4 => k (a0, a1, a2, a3, a4)) s.1 s.2.1 s.2.2.1 s.2.2.2.1 s.2.2.2.2) 100000 (x0, x1, x2, x3, h)
theorem wl_X11_inStep_14 (X : wx G p s m args meth c cX11_inStep 4 RX11 (some .int)) (k4 : Nat → Int32 → Int32 → hp_H → Option (Int32 × hp_H)) (hk4 : ∀ (x0 : Nat) (x1 : Int32) (x2 : Int32) (h : hp_H), k4 x0 x1 x2 h = some o → wq p l e (mt_R (4) 0 0) s m args below meth c (MQ below (mt_Q G (some (.int o.1)) o.2) args s 0 0 (hp_A G)) G 4 0 0 4 [(0, .ref x0), (1, .int x1), (2, .int x2)] [] h) (x0 : Nat) (x1 : Int32) (x2 : Int32) (x3 : Int32) (h : hp_H) (hf : l_X11_inStep_14 k4 x0 x1 x2 x3 h = some o) : wq p l e (mt_R (4) 0 0) s m args below meth c (MQ below (mt_Q G (some (.int o.1)) o.2) args s 0 0 (hp_A G)) G 4 0 0 14 [(0, .ref x0), (1, .int x1), (2, .int x2), (3, .int x3)] [] h :=
  lp_ind (P := fun (s_ : Nat × Int32 × Int32 × Int32 × hp_H) => wq p l e (mt_R (4) 0 0) s m args below meth c (MQ below (mt_Q G (some (.int o.1)) o.2) args s 0 0 (hp_A G)) G 4 0 0 14 [(0, .ref s_.1), (1, .int s_.2.1), (2, .int s_.2.2.1), (3, .int s_.2.2.2.1)] [] s_.2.2.2.2) (fun k s hk hf => w_X11_inStep_14 X k4 hk4 (fun a0 a1 a2 a3 a4 => k (a0, a1, a2, a3, a4)) (fun a0 a1 a2 a3 a4 hf => hk (a0, a1, a2, a3, a4) hf) s.1 s.2.1 s.2.2.1 s.2.2.2.1 s.2.2.2.2 hf) 100000 (x0, x1, x2, x3, h) hf
def f_X11_inStep_4 (k4 : Nat → Int32 → Int32 → hp_H → Option (Int32 × hp_H)) (x0 : Nat) (x1 : Int32) (x2 : Int32) (h : hp_H) : Option (Int32 × hp_H) := (rd_I h x0 11 3).bind fun v1 => if v1 ≤ x2 then (f_X11_inStep_54 x1 h) else (l_X11_inStep_14 k4 x0 x1 x2 0 h)
set_option maxRecDepth 20000 in
theorem w_X11_inStep_4 (X : wx G p s m args meth c cX11_inStep 4 RX11 (some .int)) (k4 : Nat → Int32 → Int32 → hp_H → Option (Int32 × hp_H)) (hk4 : ∀ (x0 : Nat) (x1 : Int32) (x2 : Int32) (h : hp_H), k4 x0 x1 x2 h = some o → wq p l e (mt_R (4) 0 0) s m args below meth c (MQ below (mt_Q G (some (.int o.1)) o.2) args s 0 0 (hp_A G)) G 4 0 0 4 [(0, .ref x0), (1, .int x1), (2, .int x2)] [] h) (x0 : Nat) (x1 : Int32) (x2 : Int32) (h : hp_H) (hf : f_X11_inStep_4 k4 x0 x1 x2 h = some o) : wq p l e (mt_R (4) 0 0) s m args below meth c (MQ below (mt_Q G (some (.int o.1)) o.2) args s 0 0 (hp_A G)) G 4 0 0 4 [(0, .ref x0), (1, .int x1), (2, .int x2)] [] h := by
  unfold f_X11_inStep_4 at hf
  refine wk_iload_n X dX11_inStep_4 2 rfl ?_
  refine wk_aload_n X dX11_inStep_5 0 rfl ?_
  refine wk_getI X dX11_inStep_6 fo_X11_254 hf (fun v1 hf => ?_)
  refine wk_icmp_ge X 54 dX11_inStep_9 (by decide) hf (fun hf => ?_) (fun hf => ?_)
  · exact wq_sub [1] rfl (w_X11_inStep_54 X _ _ hf)
  · refine wk_iconst X dX11_inStep_12 ic_0 ?_
    refine wk_istore_n (lv' := [(3, .int 0), (0, .ref x0), (1, .int x1), (2, .int x2)]) X dX11_inStep_13 (by decide) rfl ?_
    exact wq_sub [1, 2, 3, 0] rfl (wl_X11_inStep_14 X k4 hk4 _ _ _ _ _ hf)
def l_X11_inStep_4 (x0 : Nat) (x1 : Int32) (x2 : Int32) (h : hp_H) : Option (Int32 × hp_H) := lp (fun k (s : Nat × Int32 × Int32 × hp_H) => f_X11_inStep_4  (fun a0 a1 a2 a3 => k (a0, a1, a2, a3)) s.1 s.2.1 s.2.2.1 s.2.2.2) 100000 (x0, x1, x2, h)
theorem wl_X11_inStep_4 (X : wx G p s m args meth c cX11_inStep 4 RX11 (some .int)) (x0 : Nat) (x1 : Int32) (x2 : Int32) (h : hp_H) (hf : l_X11_inStep_4 x0 x1 x2 h = some o) : wq p l e (mt_R (4) 0 0) s m args below meth c (MQ below (mt_Q G (some (.int o.1)) o.2) args s 0 0 (hp_A G)) G 4 0 0 4 [(0, .ref x0), (1, .int x1), (2, .int x2)] [] h :=
  lp_ind (P := fun (s_ : Nat × Int32 × Int32 × hp_H) => wq p l e (mt_R (4) 0 0) s m args below meth c (MQ below (mt_Q G (some (.int o.1)) o.2) args s 0 0 (hp_A G)) G 4 0 0 4 [(0, .ref s_.1), (1, .int s_.2.1), (2, .int s_.2.2.1)] [] s_.2.2.2) (fun k s hk hf => w_X11_inStep_4 X  (fun a0 a1 a2 a3 => k (a0, a1, a2, a3)) (fun a0 a1 a2 a3 hf => hk (a0, a1, a2, a3) hf) s.1 s.2.1 s.2.2.1 s.2.2.2 hf) 100000 (x0, x1, x2, h) hf
end Sf_X11_inStep
def f_X11_inStep (x0 : Nat) (h : hp_H) : Option (Int32 × hp_H) := gd h x0 11 (l_X11_inStep_4 x0 0 0 h)
set_option maxRecDepth 20000 in
theorem c_X11_inStep (l : Launch) (x0 : Nat) (h : hp_H) (r : Int32 × hp_H) (hf : f_X11_inStep x0 h = some r) : cv l (4) yX11_inStep cX11_inStep 4 (some .int) 11 x0 [] h (some (.int r.1)) r.2 := by
  unfold f_X11_inStep at hf
  refine cv_of (lv := [(0, .ref x0)]) hf (by decide +kernel) (Nat.le_of_ble_eq_true rfl) rfl (fun hf p e s m args below meth c G X => ?_)
  refine wk_iconst X dX11_inStep_0 ic_0 ?_
  refine wk_istore_n (lv' := [(1, .int 0), (0, .ref x0)]) X dX11_inStep_1 (by decide) rfl ?_
  refine wk_iconst X dX11_inStep_2 ic_0 ?_
  refine wk_istore_n (lv' := [(2, .int 0), (1, .int 0), (0, .ref x0)]) X dX11_inStep_3 (by decide) rfl ?_
  exact wq_sub [2, 1, 0] rfl (wl_X11_inStep_4 X _ _ _ _ hf)
section Sf_X11_count
variable {p : Program} {l : Launch} {e : Env} {s : State} {m : MethodId} {args : Array Value} {below : List Frame} {meth : Method} {c : Code} {G : hp_G} {o : Int32 × hp_H}
end Sf_X11_count
def f_X11_count (x0 : Nat) (x1 : Int32) (h : hp_H) : Option (Int32 × hp_H) := gd h x0 11 ((wr_I h x0 11 0 0).bind fun h1 => (f_X11_within x1 0 14 h1).bind fun r2 => (f_X11_right x0 r2.1 1 r2.2).bind fun r3 => if r3.1 = 0 then (some (0, r3.2)) else (if x1 = 0 then ((rd_I r3.2 x0 11 1).bind fun v6 => some (v6, r3.2)) else (if x1 = 1 then ((rd_I r3.2 x0 11 2).bind fun v7 => some (v7, r3.2)) else (if x1 = 2 then ((rd_I r3.2 x0 11 3).bind fun v8 => some (v8, r3.2)) else (if x1 = 3 then ((rd_I r3.2 x0 11 5).bind fun v9 => some (v9, r3.2)) else (if x1 = 4 then ((rd_R r3.2 x0 11 36).bind fun v10 => (rd_A r3.2 0 v10 0).bind fun v11 => some (v11, r3.2)) else (if x1 = 5 then ((rd_R r3.2 x0 11 36).bind fun v12 => (rd_A r3.2 0 v12 0).bind fun v13 => (f_X11_mudOf x0 v13 r3.2).bind fun r14 => some (r14.1, r14.2)) else (if x1 = 6 then ((f_X11_honourOf x0 0 r3.2).bind fun r15 => some (r15.1, r15.2)) else (if x1 = 7 then ((f_X11_inCamp x0 r3.2).bind fun r16 => some (r16.1, r16.2)) else (if x1 = 8 then ((f_X11_inStep x0 r3.2).bind fun r17 => some (r17.1, r17.2)) else (if x1 = 9 then ((rd_I r3.2 x0 11 38).bind fun v18 => some (v18, r3.2)) else (if x1 = 10 then ((rd_I r3.2 x0 11 45).bind fun v19 => some (v19, r3.2)) else (if x1 = 11 then ((rd_I r3.2 x0 11 10).bind fun v20 => some (v20, r3.2)) else ((rd_R r3.2 x0 11 13).bind fun v4 => (rd_A r3.2 0 v4 (x1 - 12)).bind fun v5 => some (v5, r3.2)))))))))))))))
set_option maxRecDepth 20000 in
theorem c_X11_count (l : Launch) (x0 : Nat) (x1 : Int32) (h : hp_H) (r : Int32 × hp_H) (hf : f_X11_count x0 x1 h = some r) : cv l (5) yX11_count cX11_count 2 (some .int) 11 x0 [.int x1] h (some (.int r.1)) r.2 := by
  unfold f_X11_count at hf
  refine cv_of (lv := [(0, .ref x0), (1, .int x1)]) hf (by decide +kernel) (Nat.le_of_ble_eq_true rfl) rfl (fun hf p e s m args below meth c G X => ?_)
  refine wk_aload_n X dX11_count_0 0 rfl ?_
  refine wk_iconst X dX11_count_1 ic_0 ?_
  refine wk_putI X dX11_count_2 fo_X11_84 hf (fun h1 hf => ?_)
  refine wk_aload_n X dX11_count_5 0 rfl ?_
  refine wk_iload_n X dX11_count_6 1 rfl ?_
  refine wk_iconst X dX11_count_7 ic_0 ?_
  refine wk_bipush X dX11_count_8 ib_14 ?_
  refine wk_callSi X [.int x1, .int 0, .int 14] [.ref x0] dX11_count_10 rfl vo_X11_314 rfl (by decide) (Nat.le_of_ble_eq_true rfl) hf (c_X11_within l _ _ _ _) (fun r2 hf => ?_)
  refine wk_iconst X dX11_count_13 ic_1 ?_
  refine wk_callVi X [.int r2.1, .int 1] [] dX11_count_14 rfl vo_X11_244 rfl (by decide) (Nat.le_of_ble_eq_true rfl) hf (c_X11_right l _ _ _ _) (fun r3 hf => ?_)
  refine wk_if_ne X 22 dX11_count_17 (by decide) hf (fun hf => ?_) (fun hf => ?_)
  · refine wk_iload_n X dX11_count_22 1 rfl ?_
    refine wk_ts_in X 84 0 dX11_count_23 (by decide) (by decide) (by decide) rfl (by decide) hf (fun hf => ?_) (fun n0 hf => ?_)
    · refine wk_aload_n X dX11_count_84 0 rfl ?_
      refine wk_getI X dX11_count_85 fo_X11_7 hf (fun v6 hf => ?_)
      exact wk_ireturn X dX11_count_88 hf
    refine wk_ts_in X 89 1 dX11_count_23 (by decide) (by decide) (by decide) rfl (by decide) hf (fun hf => ?_) (fun n1 hf => ?_)
    · refine wk_aload_n X dX11_count_89 0 rfl ?_
      refine wk_getI X dX11_count_90 fo_X11_251 hf (fun v7 hf => ?_)
      exact wk_ireturn X dX11_count_93 hf
    refine wk_ts_in X 94 2 dX11_count_23 (by decide) (by decide) (by decide) rfl (by decide) hf (fun hf => ?_) (fun n2 hf => ?_)
    · refine wk_aload_n X dX11_count_94 0 rfl ?_
      refine wk_getI X dX11_count_95 fo_X11_254 hf (fun v8 hf => ?_)
      exact wk_ireturn X dX11_count_98 hf
    refine wk_ts_in X 99 3 dX11_count_23 (by decide) (by decide) (by decide) rfl (by decide) hf (fun hf => ?_) (fun n3 hf => ?_)
    · refine wk_aload_n X dX11_count_99 0 rfl ?_
      refine wk_getI X dX11_count_100 fo_X11_13 hf (fun v9 hf => ?_)
      exact wk_ireturn X dX11_count_103 hf
    refine wk_ts_in X 104 4 dX11_count_23 (by decide) (by decide) (by decide) rfl (by decide) hf (fun hf => ?_) (fun n4 hf => ?_)
    · refine wk_aload_n X dX11_count_104 0 rfl ?_
      refine wk_getR X dX11_count_105 fo_X11_51 hf (fun v10 hf => ?_)
      refine wk_iconst X dX11_count_108 ic_0 ?_
      refine wk_iald X dX11_count_109 hf (fun v11 hf => ?_)
      exact wk_ireturn X dX11_count_110 hf
    refine wk_ts_in X 111 5 dX11_count_23 (by decide) (by decide) (by decide) rfl (by decide) hf (fun hf => ?_) (fun n5 hf => ?_)
    · refine wk_aload_n X dX11_count_111 0 rfl ?_
      refine wk_aload_n X dX11_count_112 0 rfl ?_
      refine wk_getR X dX11_count_113 fo_X11_51 hf (fun v12 hf => ?_)
      refine wk_iconst X dX11_count_116 ic_0 ?_
      refine wk_iald X dX11_count_117 hf (fun v13 hf => ?_)
      refine wk_callVi X [.int v13] [] dX11_count_118 rfl vo_X11_278 rfl (by decide) (Nat.le_of_ble_eq_true rfl) hf (c_X11_mudOf l _ _ _) (fun r14 hf => ?_)
      exact wk_ireturn X dX11_count_121 hf
    refine wk_ts_in X 122 6 dX11_count_23 (by decide) (by decide) (by decide) rfl (by decide) hf (fun hf => ?_) (fun n6 hf => ?_)
    · refine wk_aload_n X dX11_count_122 0 rfl ?_
      refine wk_iconst X dX11_count_123 ic_0 ?_
      refine wk_callVi X [.int 0] [] dX11_count_124 rfl vo_X11_318 rfl (by decide) (Nat.le_of_ble_eq_true rfl) hf (c_X11_honourOf l _ _ _) (fun r15 hf => ?_)
      exact wk_ireturn X dX11_count_127 hf
    refine wk_ts_in X 128 7 dX11_count_23 (by decide) (by decide) (by decide) rfl (by decide) hf (fun hf => ?_) (fun n7 hf => ?_)
    · refine wk_aload_n X dX11_count_128 0 rfl ?_
      refine wk_callVi X [] [] dX11_count_129 rfl vo_X11_321 rfl (by decide) (Nat.le_of_ble_eq_true rfl) hf (c_X11_inCamp l _ _) (fun r16 hf => ?_)
      exact wk_ireturn X dX11_count_132 hf
    refine wk_ts_in X 133 8 dX11_count_23 (by decide) (by decide) (by decide) rfl (by decide) hf (fun hf => ?_) (fun n8 hf => ?_)
    · refine wk_aload_n X dX11_count_133 0 rfl ?_
      refine wk_callVi X [] [] dX11_count_134 rfl vo_X11_324 rfl (by decide) (Nat.le_of_ble_eq_true rfl) hf (c_X11_inStep l _ _) (fun r17 hf => ?_)
      exact wk_ireturn X dX11_count_137 hf
    refine wk_ts_in X 138 9 dX11_count_23 (by decide) (by decide) (by decide) rfl (by decide) hf (fun hf => ?_) (fun n9 hf => ?_)
    · refine wk_aload_n X dX11_count_138 0 rfl ?_
      refine wk_getI X dX11_count_139 fo_X11_264 hf (fun v18 hf => ?_)
      exact wk_ireturn X dX11_count_142 hf
    refine wk_ts_in X 143 10 dX11_count_23 (by decide) (by decide) (by decide) rfl (by decide) hf (fun hf => ?_) (fun n10 hf => ?_)
    · refine wk_aload_n X dX11_count_143 0 rfl ?_
      refine wk_getI X dX11_count_144 fo_X11_267 hf (fun v19 hf => ?_)
      exact wk_ireturn X dX11_count_147 hf
    refine wk_ts_in X 148 11 dX11_count_23 (by decide) (by decide) (by decide) rfl (by decide) hf (fun hf => ?_) (fun n11 hf => ?_)
    · refine wk_aload_n X dX11_count_148 0 rfl ?_
      refine wk_getI X dX11_count_149 fo_X11_87 hf (fun v20 hf => ?_)
      exact wk_ireturn X dX11_count_152 hf
    refine wk_ts_out X 153 dX11_count_23 (fc_c n0 (fc_c n1 (fc_c n2 (fc_c n3 (fc_c n4 (fc_c n5 (fc_c n6 (fc_c n7 (fc_c n8 (fc_c n9 (fc_c n10 (fc_c n11 fc_n)))))))))))) (by decide) (by decide) (by decide) ?_
    refine wk_aload_n X dX11_count_153 0 rfl ?_
    refine wk_getR X dX11_count_154 fo_X11_32 hf (fun v4 hf => ?_)
    refine wk_iload_n X dX11_count_157 1 rfl ?_
    refine wk_bipush X dX11_count_158 ib_12 ?_
    refine wk_isub X dX11_count_160 ?_
    refine wk_iald X dX11_count_161 hf (fun v5 hf => ?_)
    exact wk_ireturn X dX11_count_162 hf
  · refine wk_iconst X dX11_count_20 ic_0 ?_
    exact wk_ireturn X dX11_count_21 hf
section Sf_X11_isMan
variable {p : Program} {l : Launch} {e : Env} {s : State} {m : MethodId} {args : Array Value} {below : List Frame} {meth : Method} {c : Code} {G : hp_G} {o : Int32 × hp_H}
def f_X11_isMan_18 (t0 : Nat) (t1 : Int32) (h : hp_H) : Option (Int32 × hp_H) := (f_X11_right t0 t1 1 h).bind fun r1 => if r1.1 = 0 ∨ r1.1 = 1 then some (r1.1, r1.2) else none
set_option maxRecDepth 20000 in
theorem w_X11_isMan_18 (X : wx G p s m args meth c cX11_isMan 2 RX11 (some .boolean)) (t0 : Nat) (t1 : Int32) (h : hp_H) (hf : f_X11_isMan_18 t0 t1 h = some o) : wq p l e (mt_R (2) 0 0) s m args below meth c (MQ below (mt_Q G (some (.int o.1)) o.2) args s 0 0 (hp_A G)) G 2 0 0 18 [] [.int t1, .ref t0] h := by
  unfold f_X11_isMan_18 at hf
  refine wk_iconst X dX11_isMan_18 ic_1 ?_
  refine wk_callVi X [.int t1, .int 1] [] dX11_isMan_19 rfl vo_X11_244 rfl (by decide) (Nat.le_of_ble_eq_true rfl) hf (c_X11_right l _ _ _ _) (fun r1 hf => ?_)
  exact wk_zreturn X dX11_isMan_22 hf
def f_X11_isMan_17 (t0 : Nat) (h : hp_H) : Option (Int32 × hp_H) := f_X11_isMan_18 t0 0 h
set_option maxRecDepth 20000 in
theorem w_X11_isMan_17 (X : wx G p s m args meth c cX11_isMan 2 RX11 (some .boolean)) (t0 : Nat) (h : hp_H) (hf : f_X11_isMan_17 t0 h = some o) : wq p l e (mt_R (2) 0 0) s m args below meth c (MQ below (mt_Q G (some (.int o.1)) o.2) args s 0 0 (hp_A G)) G 2 0 0 17 [] [.ref t0] h := by
  unfold f_X11_isMan_17 at hf
  refine wk_iconst X dX11_isMan_17 ic_0 ?_
  exact wq_sub [] rfl (w_X11_isMan_18 X _ _ _ hf)
end Sf_X11_isMan
def f_X11_isMan (x0 : Nat) (x1 : Int32) (h : hp_H) : Option (Int32 × hp_H) := gd h x0 11 (if x1 < 0 then (f_X11_isMan_17 x0 h) else ((rd_I h x0 11 2).bind fun v1 => if v1 ≤ x1 then (f_X11_isMan_17 x0 h) else (f_X11_isMan_18 x0 1 h)))
set_option maxRecDepth 20000 in
theorem c_X11_isMan (l : Launch) (x0 : Nat) (x1 : Int32) (h : hp_H) (r : Int32 × hp_H) (hf : f_X11_isMan x0 x1 h = some r) : cv l (2) yX11_isMan cX11_isMan 2 (some .boolean) 11 x0 [.int x1] h (some (.int r.1)) r.2 := by
  unfold f_X11_isMan at hf
  refine cv_of (lv := [(0, .ref x0), (1, .int x1)]) hf (by decide +kernel) (Nat.le_of_ble_eq_true rfl) rfl (fun hf p e s m args below meth c G X => ?_)
  refine wk_aload_n X dX11_isMan_0 0 rfl ?_
  refine wk_iload_n X dX11_isMan_1 1 rfl ?_
  refine wk_if_lt X 17 dX11_isMan_2 (by decide) hf (fun hf => ?_) (fun hf => ?_)
  · exact wq_sub [] rfl (w_X11_isMan_17 X _ _ hf)
  · refine wk_iload_n X dX11_isMan_5 1 rfl ?_
    refine wk_aload_n X dX11_isMan_6 0 rfl ?_
    refine wk_getI X dX11_isMan_7 fo_X11_251 hf (fun v1 hf => ?_)
    refine wk_icmp_ge X 17 dX11_isMan_10 (by decide) hf (fun hf => ?_) (fun hf => ?_)
    · exact wq_sub [] rfl (w_X11_isMan_17 X _ _ hf)
    · refine wk_iconst X dX11_isMan_13 ic_1 ?_
      refine wk_goto X 18 dX11_isMan_14 (by decide) ?_
      exact wq_sub [] rfl (w_X11_isMan_18 X _ _ _ hf)
section Sf_X11_isRow
variable {p : Program} {l : Launch} {e : Env} {s : State} {m : MethodId} {args : Array Value} {below : List Frame} {meth : Method} {c : Code} {G : hp_G} {o : Int32 × hp_H}
def f_X11_isRow_18 (t0 : Nat) (t1 : Int32) (h : hp_H) : Option (Int32 × hp_H) := (f_X11_right t0 t1 1 h).bind fun r1 => if r1.1 = 0 ∨ r1.1 = 1 then some (r1.1, r1.2) else none
set_option maxRecDepth 20000 in
theorem w_X11_isRow_18 (X : wx G p s m args meth c cX11_isRow 2 RX11 (some .boolean)) (t0 : Nat) (t1 : Int32) (h : hp_H) (hf : f_X11_isRow_18 t0 t1 h = some o) : wq p l e (mt_R (2) 0 0) s m args below meth c (MQ below (mt_Q G (some (.int o.1)) o.2) args s 0 0 (hp_A G)) G 2 0 0 18 [] [.int t1, .ref t0] h := by
  unfold f_X11_isRow_18 at hf
  refine wk_iconst X dX11_isRow_18 ic_1 ?_
  refine wk_callVi X [.int t1, .int 1] [] dX11_isRow_19 rfl vo_X11_244 rfl (by decide) (Nat.le_of_ble_eq_true rfl) hf (c_X11_right l _ _ _ _) (fun r1 hf => ?_)
  exact wk_zreturn X dX11_isRow_22 hf
def f_X11_isRow_17 (t0 : Nat) (h : hp_H) : Option (Int32 × hp_H) := f_X11_isRow_18 t0 0 h
set_option maxRecDepth 20000 in
theorem w_X11_isRow_17 (X : wx G p s m args meth c cX11_isRow 2 RX11 (some .boolean)) (t0 : Nat) (h : hp_H) (hf : f_X11_isRow_17 t0 h = some o) : wq p l e (mt_R (2) 0 0) s m args below meth c (MQ below (mt_Q G (some (.int o.1)) o.2) args s 0 0 (hp_A G)) G 2 0 0 17 [] [.ref t0] h := by
  unfold f_X11_isRow_17 at hf
  refine wk_iconst X dX11_isRow_17 ic_0 ?_
  exact wq_sub [] rfl (w_X11_isRow_18 X _ _ _ hf)
end Sf_X11_isRow
def f_X11_isRow (x0 : Nat) (x1 : Int32) (h : hp_H) : Option (Int32 × hp_H) := gd h x0 11 (if x1 < 0 then (f_X11_isRow_17 x0 h) else ((rd_I h x0 11 3).bind fun v1 => if v1 ≤ x1 then (f_X11_isRow_17 x0 h) else (f_X11_isRow_18 x0 1 h)))
set_option maxRecDepth 20000 in
theorem c_X11_isRow (l : Launch) (x0 : Nat) (x1 : Int32) (h : hp_H) (r : Int32 × hp_H) (hf : f_X11_isRow x0 x1 h = some r) : cv l (2) yX11_isRow cX11_isRow 2 (some .boolean) 11 x0 [.int x1] h (some (.int r.1)) r.2 := by
  unfold f_X11_isRow at hf
  refine cv_of (lv := [(0, .ref x0), (1, .int x1)]) hf (by decide +kernel) (Nat.le_of_ble_eq_true rfl) rfl (fun hf p e s m args below meth c G X => ?_)
  refine wk_aload_n X dX11_isRow_0 0 rfl ?_
  refine wk_iload_n X dX11_isRow_1 1 rfl ?_
  refine wk_if_lt X 17 dX11_isRow_2 (by decide) hf (fun hf => ?_) (fun hf => ?_)
  · exact wq_sub [] rfl (w_X11_isRow_17 X _ _ hf)
  · refine wk_iload_n X dX11_isRow_5 1 rfl ?_
    refine wk_aload_n X dX11_isRow_6 0 rfl ?_
    refine wk_getI X dX11_isRow_7 fo_X11_254 hf (fun v1 hf => ?_)
    refine wk_icmp_ge X 17 dX11_isRow_10 (by decide) hf (fun hf => ?_) (fun hf => ?_)
    · exact wq_sub [] rfl (w_X11_isRow_17 X _ _ hf)
    · refine wk_iconst X dX11_isRow_13 ic_1 ?_
      refine wk_goto X 18 dX11_isRow_14 (by decide) ?_
      exact wq_sub [] rfl (w_X11_isRow_18 X _ _ _ hf)
section Sf_X11_isWhat
variable {p : Program} {l : Launch} {e : Env} {s : State} {m : MethodId} {args : Array Value} {below : List Frame} {meth : Method} {c : Code} {G : hp_G} {o : Int32 × hp_H}
end Sf_X11_isWhat
def f_X11_isWhat (x0 : Nat) (x1 : Int32) (x2 : Int32) (h : hp_H) : Option (Int32 × hp_H) := gd h x0 11 ((f_X11_within x1 0 x2 h).bind fun r1 => (f_X11_right x0 r1.1 1 r1.2).bind fun r2 => if r2.1 = 0 ∨ r2.1 = 1 then some (r2.1, r2.2) else none)
set_option maxRecDepth 20000 in
theorem c_X11_isWhat (l : Launch) (x0 : Nat) (x1 : Int32) (x2 : Int32) (h : hp_H) (r : Int32 × hp_H) (hf : f_X11_isWhat x0 x1 x2 h = some r) : cv l (2) yX11_isWhat cX11_isWhat 3 (some .boolean) 11 x0 [.int x1, .int x2] h (some (.int r.1)) r.2 := by
  unfold f_X11_isWhat at hf
  refine cv_of (lv := [(0, .ref x0), (1, .int x1), (2, .int x2)]) hf (by decide +kernel) (Nat.le_of_ble_eq_true rfl) rfl (fun hf p e s m args below meth c G X => ?_)
  refine wk_aload_n X dX11_isWhat_0 0 rfl ?_
  refine wk_iload_n X dX11_isWhat_1 1 rfl ?_
  refine wk_iconst X dX11_isWhat_2 ic_0 ?_
  refine wk_iload_n X dX11_isWhat_3 2 rfl ?_
  refine wk_callSi X [.int x1, .int 0, .int x2] [.ref x0] dX11_isWhat_4 rfl vo_X11_314 rfl (by decide) (Nat.le_of_ble_eq_true rfl) hf (c_X11_within l _ _ _ _) (fun r1 hf => ?_)
  refine wk_iconst X dX11_isWhat_7 ic_1 ?_
  refine wk_callVi X [.int r1.1, .int 1] [] dX11_isWhat_8 rfl vo_X11_244 rfl (by decide) (Nat.le_of_ble_eq_true rfl) hf (c_X11_right l _ _ _ _) (fun r2 hf => ?_)
  exact wk_zreturn X dX11_isWhat_11 hf
section Sf_X11_isNights
variable {p : Program} {l : Launch} {e : Env} {s : State} {m : MethodId} {args : Array Value} {below : List Frame} {meth : Method} {c : Code} {G : hp_G} {o : Int32 × hp_H}
end Sf_X11_isNights
def f_X11_isNights (x0 : Nat) (x1 : Int32) (x2 : Int32) (x3 : Int32) (h : hp_H) : Option (Int32 × hp_H) := gd h x0 11 ((f_X11_within x1 x2 40 h).bind fun r1 => (f_X11_right x0 r1.1 x3 r1.2).bind fun r2 => if r2.1 = 0 ∨ r2.1 = 1 then some (r2.1, r2.2) else none)
set_option maxRecDepth 20000 in
theorem c_X11_isNights (l : Launch) (x0 : Nat) (x1 : Int32) (x2 : Int32) (x3 : Int32) (h : hp_H) (r : Int32 × hp_H) (hf : f_X11_isNights x0 x1 x2 x3 h = some r) : cv l (2) yX11_isNights cX11_isNights 4 (some .boolean) 11 x0 [.int x1, .int x2, .int x3] h (some (.int r.1)) r.2 := by
  unfold f_X11_isNights at hf
  refine cv_of (lv := [(0, .ref x0), (1, .int x1), (2, .int x2), (3, .int x3)]) hf (by decide +kernel) (Nat.le_of_ble_eq_true rfl) rfl (fun hf p e s m args below meth c G X => ?_)
  refine wk_aload_n X dX11_isNights_0 0 rfl ?_
  refine wk_iload_n X dX11_isNights_1 1 rfl ?_
  refine wk_iload_n X dX11_isNights_2 2 rfl ?_
  refine wk_bipush X dX11_isNights_3 ib_40 ?_
  refine wk_callSi X [.int x1, .int x2, .int 40] [.ref x0] dX11_isNights_5 rfl vo_X11_314 rfl (by decide) (Nat.le_of_ble_eq_true rfl) hf (c_X11_within l _ _ _ _) (fun r1 hf => ?_)
  refine wk_iload_n X dX11_isNights_8 3 rfl ?_
  refine wk_callVi X [.int r1.1, .int x3] [] dX11_isNights_9 rfl vo_X11_244 rfl (by decide) (Nat.le_of_ble_eq_true rfl) hf (c_X11_right l _ _ _ _) (fun r2 hf => ?_)
  exact wk_zreturn X dX11_isNights_12 hf
section Sf_X11_man
variable {p : Program} {l : Launch} {e : Env} {s : State} {m : MethodId} {args : Array Value} {below : List Frame} {meth : Method} {c : Code} {G : hp_G} {o : Int32 × hp_H}
def f_X11_man_22  (h : hp_H) : Option (Int32 × hp_H) := some (0, h)
set_option maxRecDepth 20000 in
theorem w_X11_man_22 (X : wx G p s m args meth c cX11_man 3 RX11 (some .int))  (h : hp_H) (hf : f_X11_man_22 h = some o) : wq p l e (mt_R (3) 0 0) s m args below meth c (MQ below (mt_Q G (some (.int o.1)) o.2) args s 0 0 (hp_A G)) G 3 0 0 22 [] [] h := by
  unfold f_X11_man_22 at hf
  refine wk_iconst X dX11_man_22 ic_0 ?_
  exact wk_ireturn X dX11_man_23 hf
def f_X11_man_79 (t0 : Int32) (h : hp_H) : Option (Int32 × hp_H) := some (t0, h)
set_option maxRecDepth 20000 in
theorem w_X11_man_79 (X : wx G p s m args meth c cX11_man 3 RX11 (some .int)) (t0 : Int32) (h : hp_H) (hf : f_X11_man_79 t0 h = some o) : wq p l e (mt_R (3) 0 0) s m args below meth c (MQ below (mt_Q G (some (.int o.1)) o.2) args s 0 0 (hp_A G)) G 3 0 0 79 [] [.int t0] h := by
  unfold f_X11_man_79 at hf
  exact wk_ireturn X dX11_man_79 hf
end Sf_X11_man
def f_X11_man (x0 : Nat) (x1 : Int32) (x2 : Int32) (h : hp_H) : Option (Int32 × hp_H) := gd h x0 11 ((wr_I h x0 11 0 0).bind fun h1 => (f_X11_isMan x0 x1 h1).bind fun r2 => if r2.1 = 0 then (f_X11_man_22 r2.2) else ((f_X11_isWhat x0 x2 3 r2.2).bind fun r3 => if r3.1 = 0 then (f_X11_man_22 r3.2) else (if x2 = 0 then ((rd_R r3.2 x0 11 36).bind fun v9 => (rd_A r3.2 0 v9 (1 + x1)).bind fun v10 => f_X11_man_79 v10 r3.2) else (if x2 = 1 then ((rd_R r3.2 x0 11 36).bind fun v7 => (rd_A r3.2 0 v7 (9 + x1)).bind fun v8 => f_X11_man_79 v8 r3.2) else (if x2 = 2 then ((rd_R r3.2 x0 11 36).bind fun v5 => (rd_A r3.2 0 v5 (17 + x1)).bind fun v6 => f_X11_man_79 v6 r3.2) else ((f_X11_rowOf x0 0 x1 r3.2).bind fun r4 => f_X11_man_79 r4.1 r4.2))))))
set_option maxRecDepth 20000 in
theorem c_X11_man (l : Launch) (x0 : Nat) (x1 : Int32) (x2 : Int32) (h : hp_H) (r : Int32 × hp_H) (hf : f_X11_man x0 x1 x2 h = some r) : cv l (3) yX11_man cX11_man 3 (some .int) 11 x0 [.int x1, .int x2] h (some (.int r.1)) r.2 := by
  unfold f_X11_man at hf
  refine cv_of (lv := [(0, .ref x0), (1, .int x1), (2, .int x2)]) hf (by decide +kernel) (Nat.le_of_ble_eq_true rfl) rfl (fun hf p e s m args below meth c G X => ?_)
  refine wk_aload_n X dX11_man_0 0 rfl ?_
  refine wk_iconst X dX11_man_1 ic_0 ?_
  refine wk_putI X dX11_man_2 fo_X11_84 hf (fun h1 hf => ?_)
  refine wk_aload_n X dX11_man_5 0 rfl ?_
  refine wk_iload_n X dX11_man_6 1 rfl ?_
  refine wk_callVi X [.int x1] [] dX11_man_7 rfl vo_X11_327 rfl (by decide) (Nat.le_of_ble_eq_true rfl) hf (c_X11_isMan l _ _ _) (fun r2 hf => ?_)
  refine wk_if_eq X 22 dX11_man_10 (by decide) hf (fun hf => ?_) (fun hf => ?_)
  · exact wq_sub [] rfl (w_X11_man_22 X _ hf)
  · refine wk_aload_n X dX11_man_13 0 rfl ?_
    refine wk_iload_n X dX11_man_14 2 rfl ?_
    refine wk_iconst X dX11_man_15 ic_3 ?_
    refine wk_callVi X [.int x2, .int 3] [] dX11_man_16 rfl vo_X11_330 rfl (by decide) (Nat.le_of_ble_eq_true rfl) hf (c_X11_isWhat l _ _ _ _) (fun r3 hf => ?_)
    refine wk_if_ne X 24 dX11_man_19 (by decide) hf (fun hf => ?_) (fun hf => ?_)
    · refine wk_iload_n X dX11_man_24 2 rfl ?_
      refine wk_if_ne X 39 dX11_man_25 (by decide) hf (fun hf => ?_) (fun hf => ?_)
      · refine wk_iload_n X dX11_man_39 2 rfl ?_
        refine wk_iconst X dX11_man_40 ic_1 ?_
        refine wk_icmp_ne X 56 dX11_man_41 (by decide) hf (fun hf => ?_) (fun hf => ?_)
        · refine wk_iload_n X dX11_man_56 2 rfl ?_
          refine wk_iconst X dX11_man_57 ic_2 ?_
          refine wk_icmp_ne X 73 dX11_man_58 (by decide) hf (fun hf => ?_) (fun hf => ?_)
          · refine wk_aload_n X dX11_man_73 0 rfl ?_
            refine wk_iconst X dX11_man_74 ic_0 ?_
            refine wk_iload_n X dX11_man_75 1 rfl ?_
            refine wk_callVi X [.int 0, .int x1] [] dX11_man_76 rfl vo_X11_311 rfl (by decide) (Nat.le_of_ble_eq_true rfl) hf (c_X11_rowOf l _ _ _ _) (fun r4 hf => ?_)
            exact wq_sub [] rfl (w_X11_man_79 X _ _ hf)
          · refine wk_aload_n X dX11_man_61 0 rfl ?_
            refine wk_getR X dX11_man_62 fo_X11_51 hf (fun v5 hf => ?_)
            refine wk_bipush X dX11_man_65 ib_17 ?_
            refine wk_iload_n X dX11_man_67 1 rfl ?_
            refine wk_iadd X dX11_man_68 ?_
            refine wk_iald X dX11_man_69 hf (fun v6 hf => ?_)
            refine wk_goto X 79 dX11_man_70 (by decide) ?_
            exact wq_sub [] rfl (w_X11_man_79 X _ _ hf)
        · refine wk_aload_n X dX11_man_44 0 rfl ?_
          refine wk_getR X dX11_man_45 fo_X11_51 hf (fun v7 hf => ?_)
          refine wk_bipush X dX11_man_48 ib_9 ?_
          refine wk_iload_n X dX11_man_50 1 rfl ?_
          refine wk_iadd X dX11_man_51 ?_
          refine wk_iald X dX11_man_52 hf (fun v8 hf => ?_)
          refine wk_goto X 79 dX11_man_53 (by decide) ?_
          exact wq_sub [] rfl (w_X11_man_79 X _ _ hf)
      · refine wk_aload_n X dX11_man_28 0 rfl ?_
        refine wk_getR X dX11_man_29 fo_X11_51 hf (fun v9 hf => ?_)
        refine wk_iconst X dX11_man_32 ic_1 ?_
        refine wk_iload_n X dX11_man_33 1 rfl ?_
        refine wk_iadd X dX11_man_34 ?_
        refine wk_iald X dX11_man_35 hf (fun v10 hf => ?_)
        refine wk_goto X 79 dX11_man_36 (by decide) ?_
        exact wq_sub [] rfl (w_X11_man_79 X _ _ hf)
    · exact wq_sub [] rfl (w_X11_man_22 X _ hf)
section Sf_X11_row
variable {p : Program} {l : Launch} {e : Env} {s : State} {m : MethodId} {args : Array Value} {below : List Frame} {meth : Method} {c : Code} {G : hp_G} {o : Int32 × hp_H}
def f_X11_row_22  (h : hp_H) : Option (Int32 × hp_H) := some (0, h)
set_option maxRecDepth 20000 in
theorem w_X11_row_22 (X : wx G p s m args meth c cX11_row 3 RX11 (some .int))  (h : hp_H) (hf : f_X11_row_22 h = some o) : wq p l e (mt_R (5) 0 0) s m args below meth c (MQ below (mt_Q G (some (.int o.1)) o.2) args s 0 0 (hp_A G)) G 3 0 0 22 [] [] h := by
  unfold f_X11_row_22 at hf
  refine wk_iconst X dX11_row_22 ic_0 ?_
  exact wk_ireturn X dX11_row_23 hf
def f_X11_row_60 (t0 : Int32) (h : hp_H) : Option (Int32 × hp_H) := some (t0, h)
set_option maxRecDepth 20000 in
theorem w_X11_row_60 (X : wx G p s m args meth c cX11_row 3 RX11 (some .int)) (t0 : Int32) (h : hp_H) (hf : f_X11_row_60 t0 h = some o) : wq p l e (mt_R (5) 0 0) s m args below meth c (MQ below (mt_Q G (some (.int o.1)) o.2) args s 0 0 (hp_A G)) G 3 0 0 60 [] [.int t0] h := by
  unfold f_X11_row_60 at hf
  exact wk_ireturn X dX11_row_60 hf
end Sf_X11_row
def f_X11_row (x0 : Nat) (x1 : Int32) (x2 : Int32) (h : hp_H) : Option (Int32 × hp_H) := gd h x0 11 ((wr_I h x0 11 0 0).bind fun h1 => (f_X11_isRow x0 x1 h1).bind fun r2 => if r2.1 = 0 then (f_X11_row_22 r2.2) else ((f_X11_isWhat x0 x2 2 r2.2).bind fun r3 => if r3.1 = 0 then (f_X11_row_22 r3.2) else (if x2 = 0 then ((rd_R r3.2 x0 11 36).bind fun v6 => (rd_A r3.2 0 v6 (25 + x1)).bind fun v7 => f_X11_row_60 v7 r3.2) else (if x2 = 1 then ((f_X11_heardOf x0 0 x1 r3.2).bind fun r5 => f_X11_row_60 r5.1 r5.2) else ((f_X11_namedOf x0 0 x1 r3.2).bind fun r4 => f_X11_row_60 r4.1 r4.2)))))
set_option maxRecDepth 20000 in
theorem c_X11_row (l : Launch) (x0 : Nat) (x1 : Int32) (x2 : Int32) (h : hp_H) (r : Int32 × hp_H) (hf : f_X11_row x0 x1 x2 h = some r) : cv l (5) yX11_row cX11_row 3 (some .int) 11 x0 [.int x1, .int x2] h (some (.int r.1)) r.2 := by
  unfold f_X11_row at hf
  refine cv_of (lv := [(0, .ref x0), (1, .int x1), (2, .int x2)]) hf (by decide +kernel) (Nat.le_of_ble_eq_true rfl) rfl (fun hf p e s m args below meth c G X => ?_)
  refine wk_aload_n X dX11_row_0 0 rfl ?_
  refine wk_iconst X dX11_row_1 ic_0 ?_
  refine wk_putI X dX11_row_2 fo_X11_84 hf (fun h1 hf => ?_)
  refine wk_aload_n X dX11_row_5 0 rfl ?_
  refine wk_iload_n X dX11_row_6 1 rfl ?_
  refine wk_callVi X [.int x1] [] dX11_row_7 rfl vo_X11_334 rfl (by decide) (Nat.le_of_ble_eq_true rfl) hf (c_X11_isRow l _ _ _) (fun r2 hf => ?_)
  refine wk_if_eq X 22 dX11_row_10 (by decide) hf (fun hf => ?_) (fun hf => ?_)
  · exact wq_sub [] rfl (w_X11_row_22 X _ hf)
  · refine wk_aload_n X dX11_row_13 0 rfl ?_
    refine wk_iload_n X dX11_row_14 2 rfl ?_
    refine wk_iconst X dX11_row_15 ic_2 ?_
    refine wk_callVi X [.int x2, .int 2] [] dX11_row_16 rfl vo_X11_330 rfl (by decide) (Nat.le_of_ble_eq_true rfl) hf (c_X11_isWhat l _ _ _ _) (fun r3 hf => ?_)
    refine wk_if_ne X 24 dX11_row_19 (by decide) hf (fun hf => ?_) (fun hf => ?_)
    · refine wk_iload_n X dX11_row_24 2 rfl ?_
      refine wk_if_ne X 40 dX11_row_25 (by decide) hf (fun hf => ?_) (fun hf => ?_)
      · refine wk_iload_n X dX11_row_40 2 rfl ?_
        refine wk_iconst X dX11_row_41 ic_1 ?_
        refine wk_icmp_ne X 54 dX11_row_42 (by decide) hf (fun hf => ?_) (fun hf => ?_)
        · refine wk_aload_n X dX11_row_54 0 rfl ?_
          refine wk_iconst X dX11_row_55 ic_0 ?_
          refine wk_iload_n X dX11_row_56 1 rfl ?_
          refine wk_callVi X [.int 0, .int x1] [] dX11_row_57 rfl vo_X11_302 rfl (by decide) (Nat.le_of_ble_eq_true rfl) hf (c_X11_namedOf l _ _ _ _) (fun r4 hf => ?_)
          exact wq_sub [] rfl (w_X11_row_60 X _ _ hf)
        · refine wk_aload_n X dX11_row_45 0 rfl ?_
          refine wk_iconst X dX11_row_46 ic_0 ?_
          refine wk_iload_n X dX11_row_47 1 rfl ?_
          refine wk_callVi X [.int 0, .int x1] [] dX11_row_48 rfl vo_X11_290 rfl (by decide) (Nat.le_of_ble_eq_true rfl) hf (c_X11_heardOf l _ _ _ _) (fun r5 hf => ?_)
          refine wk_goto X 60 dX11_row_51 (by decide) ?_
          exact wq_sub [] rfl (w_X11_row_60 X _ _ hf)
      · refine wk_aload_n X dX11_row_28 0 rfl ?_
        refine wk_getR X dX11_row_29 fo_X11_51 hf (fun v6 hf => ?_)
        refine wk_bipush X dX11_row_32 ib_25 ?_
        refine wk_iload_n X dX11_row_34 1 rfl ?_
        refine wk_iadd X dX11_row_35 ?_
        refine wk_iald X dX11_row_36 hf (fun v7 hf => ?_)
        refine wk_goto X 60 dX11_row_37 (by decide) ?_
        exact wq_sub [] rfl (w_X11_row_60 X _ _ hf)
    · exact wq_sub [] rfl (w_X11_row_22 X _ hf)
section Sf_X11_nights
variable {p : Program} {l : Launch} {e : Env} {s : State} {m : MethodId} {args : Array Value} {below : List Frame} {meth : Method} {c : Code} {G : hp_G} {o : Int32 × hp_H}
def f_X11_nights_29 (x0 : Nat) (h : hp_H) : Option (Int32 × hp_H) := (f_X11_refuses x0 1 h).bind fun r1 => some (r1.1, r1.2)
set_option maxRecDepth 20000 in
theorem w_X11_nights_29 (X : wx G p s m args meth c cX11_nights 3 RX11 (some .int)) (x0 : Nat) (h : hp_H) (hf : f_X11_nights_29 x0 h = some o) : wq p l e (mt_R (6) 0 0) s m args below meth c (MQ below (mt_Q G (some (.int o.1)) o.2) args s 0 0 (hp_A G)) G 3 0 0 29 [(0, .ref x0)] [] h := by
  unfold f_X11_nights_29 at hf
  refine wk_aload_n X dX11_nights_29 0 rfl ?_
  refine wk_iconst X dX11_nights_30 ic_1 ?_
  refine wk_callVi X [.int 1] [] dX11_nights_31 rfl vo_X11_337 rfl (by decide) (Nat.le_of_ble_eq_true rfl) hf (c_X11_refuses l _ _ _) (fun r1 hf => ?_)
  exact wk_ireturn X dX11_nights_34 hf
def f_X11_nights_57 (x0 : Nat) (h : hp_H) : Option (Int32 × hp_H) := (rd_R h x0 11 36).bind fun v1 => (rd_A h 0 v1 0).bind fun v2 => some (v2, h)
set_option maxRecDepth 20000 in
theorem w_X11_nights_57 (X : wx G p s m args meth c cX11_nights 3 RX11 (some .int)) (x0 : Nat) (h : hp_H) (hf : f_X11_nights_57 x0 h = some o) : wq p l e (mt_R (6) 0 0) s m args below meth c (MQ below (mt_Q G (some (.int o.1)) o.2) args s 0 0 (hp_A G)) G 3 0 0 57 [(0, .ref x0)] [] h := by
  unfold f_X11_nights_57 at hf
  refine wk_aload_n X dX11_nights_57 0 rfl ?_
  refine wk_getR X dX11_nights_58 fo_X11_51 hf (fun v1 hf => ?_)
  refine wk_iconst X dX11_nights_61 ic_0 ?_
  refine wk_iald X dX11_nights_62 hf (fun v2 hf => ?_)
  exact wk_ireturn X dX11_nights_63 hf
def f_X11_nights_41 (k41 : Nat → Int32 → Int32 → hp_H → Option (Int32 × hp_H)) (x0 : Nat) (x1 : Int32) (x2 : Int32) (h : hp_H) : Option (Int32 × hp_H) := if x1 ≤ x2 then (f_X11_nights_57 x0 h) else ((f_X11_nightGoes x0 0 h).bind fun r1 => k41 x0 x1 (x2 + 1) r1)
set_option maxRecDepth 20000 in
theorem w_X11_nights_41 (X : wx G p s m args meth c cX11_nights 3 RX11 (some .int)) (k41 : Nat → Int32 → Int32 → hp_H → Option (Int32 × hp_H)) (hk41 : ∀ (x0 : Nat) (x1 : Int32) (x2 : Int32) (h : hp_H), k41 x0 x1 x2 h = some o → wq p l e (mt_R (6) 0 0) s m args below meth c (MQ below (mt_Q G (some (.int o.1)) o.2) args s 0 0 (hp_A G)) G 3 0 0 41 [(0, .ref x0), (1, .int x1), (2, .int x2)] [] h) (x0 : Nat) (x1 : Int32) (x2 : Int32) (h : hp_H) (hf : f_X11_nights_41 k41 x0 x1 x2 h = some o) : wq p l e (mt_R (6) 0 0) s m args below meth c (MQ below (mt_Q G (some (.int o.1)) o.2) args s 0 0 (hp_A G)) G 3 0 0 41 [(0, .ref x0), (1, .int x1), (2, .int x2)] [] h := by
  unfold f_X11_nights_41 at hf
  refine wk_iload_n X dX11_nights_41 2 rfl ?_
  refine wk_iload_n X dX11_nights_42 1 rfl ?_
  refine wk_icmp_ge X 57 dX11_nights_43 (by decide) hf (fun hf => ?_) (fun hf => ?_)
  · exact wq_sub [0] rfl (w_X11_nights_57 X _ _ hf)
  · refine wk_aload_n X dX11_nights_46 0 rfl ?_
    refine wk_iconst X dX11_nights_47 ic_0 ?_
    refine wk_callVv X [.int 0] [] dX11_nights_48 rfl vo_X11_308 rfl (by decide) (Nat.le_of_ble_eq_true rfl) hf (c_X11_nightGoes l _ _ _) (fun r1 hf => ?_)
    refine wk_iinc (lv' := [(2, .int (x2 + 1)), (0, .ref x0), (1, .int x1)]) X dX11_nights_51 2 rfl ic_1 (by decide) rfl ?_
    refine wk_goto X 41 dX11_nights_54 (by decide) ?_
    exact wq_sub [1, 2, 0] rfl (hk41 _ _ _ _ hf)
def l_X11_nights_41 (x0 : Nat) (x1 : Int32) (x2 : Int32) (h : hp_H) : Option (Int32 × hp_H) := lp (fun k (s : Nat × Int32 × Int32 × hp_H) => f_X11_nights_41  (fun a0 a1 a2 a3 => k (a0, a1, a2, a3)) s.1 s.2.1 s.2.2.1 s.2.2.2) 100000 (x0, x1, x2, h)
theorem wl_X11_nights_41 (X : wx G p s m args meth c cX11_nights 3 RX11 (some .int)) (x0 : Nat) (x1 : Int32) (x2 : Int32) (h : hp_H) (hf : l_X11_nights_41 x0 x1 x2 h = some o) : wq p l e (mt_R (6) 0 0) s m args below meth c (MQ below (mt_Q G (some (.int o.1)) o.2) args s 0 0 (hp_A G)) G 3 0 0 41 [(0, .ref x0), (1, .int x1), (2, .int x2)] [] h :=
  lp_ind (P := fun (s_ : Nat × Int32 × Int32 × hp_H) => wq p l e (mt_R (6) 0 0) s m args below meth c (MQ below (mt_Q G (some (.int o.1)) o.2) args s 0 0 (hp_A G)) G 3 0 0 41 [(0, .ref s_.1), (1, .int s_.2.1), (2, .int s_.2.2.1)] [] s_.2.2.2) (fun k s hk hf => w_X11_nights_41 X  (fun a0 a1 a2 a3 => k (a0, a1, a2, a3)) (fun a0 a1 a2 a3 hf => hk (a0, a1, a2, a3) hf) s.1 s.2.1 s.2.2.1 s.2.2.2 hf) 100000 (x0, x1, x2, h) hf
end Sf_X11_nights
def f_X11_nights (x0 : Nat) (x1 : Int32) (h : hp_H) : Option (Int32 × hp_H) := gd h x0 11 ((wr_I h x0 11 0 0).bind fun h1 => (f_X11_within x1 1 20 h1).bind fun r2 => if r2.1 = 0 then (f_X11_nights_29 x0 r2.2) else ((rd_R r2.2 x0 11 36).bind fun v3 => (rd_A r2.2 0 v3 0).bind fun v4 => if (v4 + x1) ≤ 999 then ((f_X11_keeps x0 r2.2).bind fun r5 => l_X11_nights_41 x0 x1 0 r5) else (f_X11_nights_29 x0 r2.2)))
set_option maxRecDepth 20000 in
theorem c_X11_nights (l : Launch) (x0 : Nat) (x1 : Int32) (h : hp_H) (r : Int32 × hp_H) (hf : f_X11_nights x0 x1 h = some r) : cv l (6) yX11_nights cX11_nights 3 (some .int) 11 x0 [.int x1] h (some (.int r.1)) r.2 := by
  unfold f_X11_nights at hf
  refine cv_of (lv := [(0, .ref x0), (1, .int x1)]) hf (by decide +kernel) (Nat.le_of_ble_eq_true rfl) rfl (fun hf p e s m args below meth c G X => ?_)
  refine wk_aload_n X dX11_nights_0 0 rfl ?_
  refine wk_iconst X dX11_nights_1 ic_0 ?_
  refine wk_putI X dX11_nights_2 fo_X11_84 hf (fun h1 hf => ?_)
  refine wk_iload_n X dX11_nights_5 1 rfl ?_
  refine wk_iconst X dX11_nights_6 ic_1 ?_
  refine wk_bipush X dX11_nights_7 ib_20 ?_
  refine wk_callSi X [.int x1, .int 1, .int 20] [] dX11_nights_9 rfl vo_X11_314 rfl (by decide) (Nat.le_of_ble_eq_true rfl) hf (c_X11_within l _ _ _ _) (fun r2 hf => ?_)
  refine wk_if_eq X 29 dX11_nights_12 (by decide) hf (fun hf => ?_) (fun hf => ?_)
  · exact wq_sub [0] rfl (w_X11_nights_29 X _ _ hf)
  · refine wk_aload_n X dX11_nights_15 0 rfl ?_
    refine wk_getR X dX11_nights_16 fo_X11_51 hf (fun v3 hf => ?_)
    refine wk_iconst X dX11_nights_19 ic_0 ?_
    refine wk_iald X dX11_nights_20 hf (fun v4 hf => ?_)
    refine wk_iload_n X dX11_nights_21 1 rfl ?_
    refine wk_iadd X dX11_nights_22 ?_
    refine wk_sipush X dX11_nights_23 is_999 ?_
    refine wk_icmp_le X 35 dX11_nights_26 (by decide) hf (fun hf => ?_) (fun hf => ?_)
    · refine wk_aload_n X dX11_nights_35 0 rfl ?_
      refine wk_callVv X [] [] dX11_nights_36 rfl vo_X11_340 rfl (by decide) (Nat.le_of_ble_eq_true rfl) hf (c_X11_keeps l _ _) (fun r5 hf => ?_)
      refine wk_iconst X dX11_nights_39 ic_0 ?_
      refine wk_istore_n (lv' := [(2, .int 0), (0, .ref x0), (1, .int x1)]) X dX11_nights_40 (by decide) rfl ?_
      exact wq_sub [1, 2, 0] rfl (wl_X11_nights_41 X _ _ _ _ hf)
    · exact wq_sub [0] rfl (w_X11_nights_29 X _ _ hf)
section Sf_X11_puts0
variable {p : Program} {l : Launch} {e : Env} {s : State} {m : MethodId} {args : Array Value} {below : List Frame} {meth : Method} {c : Code} {G : hp_G} {o : hp_H}
def f_X11_puts0_60  (h : hp_H) : Option (hp_H) := some h
set_option maxRecDepth 20000 in
theorem w_X11_puts0_60 (X : wx G p s m args meth c cX11_puts0 5 RX11 none)  (h : hp_H) (hf : f_X11_puts0_60 h = some o) : wq p l e (mt_R (1) 0 0) s m args below meth c (MQ below (mt_Q G none o) args s 0 0 (hp_A G)) G 5 0 0 60 [] [] h := by
  unfold f_X11_puts0_60 at hf
  exact wk_return X dX11_puts0_60 hf
def f_X11_puts0_38 (x0 : Nat) (x1 : Int32) (x2 : Int32) (x3 : Int32) (h : hp_H) : Option (hp_H) := if x3 = (-1) then (f_X11_puts0_60 h) else ((rd_R h x0 11 36).bind fun v1 => (rd_A h 0 v1 ((x1 + 25) + x3)).bind fun v2 => (wr_A h v1 ((x1 + 25) + x3) (v2 ||| (1 <<< (x2 &&& 31)))).bind fun h3 => f_X11_puts0_60 h3)
set_option maxRecDepth 20000 in
theorem w_X11_puts0_38 (X : wx G p s m args meth c cX11_puts0 5 RX11 none) (x0 : Nat) (x1 : Int32) (x2 : Int32) (x3 : Int32) (h : hp_H) (hf : f_X11_puts0_38 x0 x1 x2 x3 h = some o) : wq p l e (mt_R (1) 0 0) s m args below meth c (MQ below (mt_Q G none o) args s 0 0 (hp_A G)) G 5 0 0 38 [(0, .ref x0), (1, .int x1), (2, .int x2), (3, .int x3)] [] h := by
  unfold f_X11_puts0_38 at hf
  refine wk_iload_n X dX11_puts0_38 3 rfl ?_
  refine wk_iconst X dX11_puts0_39 ic_m1 ?_
  refine wk_icmp_eq X 60 dX11_puts0_40 (by decide) hf (fun hf => ?_) (fun hf => ?_)
  · exact wq_sub [] rfl (w_X11_puts0_60 X _ hf)
  · refine wk_aload_n X dX11_puts0_43 0 rfl ?_
    refine wk_getR X dX11_puts0_44 fo_X11_51 hf (fun v1 hf => ?_)
    refine wk_iload_n X dX11_puts0_47 1 rfl ?_
    refine wk_bipush X dX11_puts0_48 ib_25 ?_
    refine wk_iadd X dX11_puts0_50 ?_
    refine wk_iload_n X dX11_puts0_51 3 rfl ?_
    refine wk_iadd X dX11_puts0_52 ?_
    refine wk_dup2 X dX11_puts0_53 rfl rfl ?_
    refine wk_iald X dX11_puts0_54 hf (fun v2 hf => ?_)
    refine wk_iconst X dX11_puts0_55 ic_1 ?_
    refine wk_iload_n X dX11_puts0_56 2 rfl ?_
    refine wk_ishl X dX11_puts0_57 ?_
    refine wk_ior X dX11_puts0_58 ?_
    refine wk_iast X dX11_puts0_59 hf (fun h3 hf => ?_)
    exact wq_sub [] rfl (w_X11_puts0_60 X _ hf)
def f_X11_puts0_3 (k3 : Nat → Int32 → Int32 → Int32 → Int32 → hp_H → Option (hp_H)) (x0 : Nat) (x1 : Int32) (x2 : Int32) (x3 : Int32) (x4 : Int32) (h : hp_H) : Option (hp_H) := (rd_I h x0 11 3).bind fun v1 => if v1 ≤ x4 then (f_X11_puts0_38 x0 x1 x2 x3 h) else ((rd_R h x0 11 36).bind fun v2 => (rd_A h 0 v2 ((x1 + 25) + x4)).bind fun v3 => (wr_A h v2 ((x1 + 25) + x4) (v3 &&& ((1 <<< (x2 &&& 31)) ^^^ ((-1) : Int32)))).bind fun h4 => k3 x0 x1 x2 x3 (x4 + 1) h4)
set_option maxRecDepth 20000 in
theorem w_X11_puts0_3 (X : wx G p s m args meth c cX11_puts0 5 RX11 none) (k3 : Nat → Int32 → Int32 → Int32 → Int32 → hp_H → Option (hp_H)) (hk3 : ∀ (x0 : Nat) (x1 : Int32) (x2 : Int32) (x3 : Int32) (x4 : Int32) (h : hp_H), k3 x0 x1 x2 x3 x4 h = some o → wq p l e (mt_R (1) 0 0) s m args below meth c (MQ below (mt_Q G none o) args s 0 0 (hp_A G)) G 5 0 0 3 [(0, .ref x0), (1, .int x1), (2, .int x2), (3, .int x3), (4, .int x4)] [] h) (x0 : Nat) (x1 : Int32) (x2 : Int32) (x3 : Int32) (x4 : Int32) (h : hp_H) (hf : f_X11_puts0_3 k3 x0 x1 x2 x3 x4 h = some o) : wq p l e (mt_R (1) 0 0) s m args below meth c (MQ below (mt_Q G none o) args s 0 0 (hp_A G)) G 5 0 0 3 [(0, .ref x0), (1, .int x1), (2, .int x2), (3, .int x3), (4, .int x4)] [] h := by
  unfold f_X11_puts0_3 at hf
  refine wk_iload X dX11_puts0_3 4 rfl ?_
  refine wk_aload_n X dX11_puts0_5 0 rfl ?_
  refine wk_getI X dX11_puts0_6 fo_X11_254 hf (fun v1 hf => ?_)
  refine wk_icmp_ge X 38 dX11_puts0_9 (by decide) hf (fun hf => ?_) (fun hf => ?_)
  · exact wq_sub [0, 1, 2, 3] rfl (w_X11_puts0_38 X _ _ _ _ _ hf)
  · refine wk_aload_n X dX11_puts0_12 0 rfl ?_
    refine wk_getR X dX11_puts0_13 fo_X11_51 hf (fun v2 hf => ?_)
    refine wk_iload_n X dX11_puts0_16 1 rfl ?_
    refine wk_bipush X dX11_puts0_17 ib_25 ?_
    refine wk_iadd X dX11_puts0_19 ?_
    refine wk_iload X dX11_puts0_20 4 rfl ?_
    refine wk_iadd X dX11_puts0_22 ?_
    refine wk_dup2 X dX11_puts0_23 rfl rfl ?_
    refine wk_iald X dX11_puts0_24 hf (fun v3 hf => ?_)
    refine wk_iconst X dX11_puts0_25 ic_1 ?_
    refine wk_iload_n X dX11_puts0_26 2 rfl ?_
    refine wk_ishl X dX11_puts0_27 ?_
    refine wk_iconst X dX11_puts0_28 ic_m1 ?_
    refine wk_ixor X dX11_puts0_29 ?_
    refine wk_iand X dX11_puts0_30 ?_
    refine wk_iast X dX11_puts0_31 hf (fun h4 hf => ?_)
    refine wk_iinc (lv' := [(4, .int (x4 + 1)), (0, .ref x0), (1, .int x1), (2, .int x2), (3, .int x3)]) X dX11_puts0_32 4 rfl ic_1 (by decide) rfl ?_
    refine wk_goto X 3 dX11_puts0_35 (by decide) ?_
    exact wq_sub [1, 2, 3, 4, 0] rfl (hk3 _ _ _ _ _ _ hf)
def l_X11_puts0_3 (x0 : Nat) (x1 : Int32) (x2 : Int32) (x3 : Int32) (x4 : Int32) (h : hp_H) : Option (hp_H) := lp (fun k (s : Nat × Int32 × Int32 × Int32 × Int32 × hp_H) => f_X11_puts0_3  (fun a0 a1 a2 a3 a4 a5 => k (a0, a1, a2, a3, a4, a5)) s.1 s.2.1 s.2.2.1 s.2.2.2.1 s.2.2.2.2.1 s.2.2.2.2.2) 100000 (x0, x1, x2, x3, x4, h)
theorem wl_X11_puts0_3 (X : wx G p s m args meth c cX11_puts0 5 RX11 none) (x0 : Nat) (x1 : Int32) (x2 : Int32) (x3 : Int32) (x4 : Int32) (h : hp_H) (hf : l_X11_puts0_3 x0 x1 x2 x3 x4 h = some o) : wq p l e (mt_R (1) 0 0) s m args below meth c (MQ below (mt_Q G none o) args s 0 0 (hp_A G)) G 5 0 0 3 [(0, .ref x0), (1, .int x1), (2, .int x2), (3, .int x3), (4, .int x4)] [] h :=
  lp_ind (P := fun (s_ : Nat × Int32 × Int32 × Int32 × Int32 × hp_H) => wq p l e (mt_R (1) 0 0) s m args below meth c (MQ below (mt_Q G none o) args s 0 0 (hp_A G)) G 5 0 0 3 [(0, .ref s_.1), (1, .int s_.2.1), (2, .int s_.2.2.1), (3, .int s_.2.2.2.1), (4, .int s_.2.2.2.2.1)] [] s_.2.2.2.2.2) (fun k s hk hf => w_X11_puts0_3 X  (fun a0 a1 a2 a3 a4 a5 => k (a0, a1, a2, a3, a4, a5)) (fun a0 a1 a2 a3 a4 a5 hf => hk (a0, a1, a2, a3, a4, a5) hf) s.1 s.2.1 s.2.2.1 s.2.2.2.1 s.2.2.2.2.1 s.2.2.2.2.2 hf) 100000 (x0, x1, x2, x3, x4, h) hf
end Sf_X11_puts0
def f_X11_puts0 (x0 : Nat) (x1 : Int32) (x2 : Int32) (x3 : Int32) (h : hp_H) : Option (hp_H) := gd h x0 11 (l_X11_puts0_3 x0 x1 x2 x3 0 h)
set_option maxRecDepth 20000 in
theorem c_X11_puts0 (l : Launch) (x0 : Nat) (x1 : Int32) (x2 : Int32) (x3 : Int32) (h : hp_H) (r : hp_H) (hf : f_X11_puts0 x0 x1 x2 x3 h = some r) : cv l (1) yX11_puts0 cX11_puts0 5 none 11 x0 [.int x1, .int x2, .int x3] h none r := by
  unfold f_X11_puts0 at hf
  refine cv_of (lv := [(0, .ref x0), (1, .int x1), (2, .int x2), (3, .int x3)]) hf (by decide +kernel) (Nat.le_of_ble_eq_true rfl) rfl (fun hf p e s m args below meth c G X => ?_)
  refine wk_iconst X dX11_puts0_0 ic_0 ?_
  refine wk_istore (lv' := [(4, .int 0), (0, .ref x0), (1, .int x1), (2, .int x2), (3, .int x3)]) X dX11_puts0_1 (by decide) rfl ?_
  exact wq_sub [1, 2, 3, 4, 0] rfl (wl_X11_puts0_3 X _ _ _ _ _ _ hf)
section Sf_X11_put
variable {p : Program} {l : Launch} {e : Env} {s : State} {m : MethodId} {args : Array Value} {below : List Frame} {meth : Method} {c : Code} {G : hp_G} {o : Int32 × hp_H}
def f_X11_put_39  (h : hp_H) : Option (Int32 × hp_H) := some (0, h)
set_option maxRecDepth 20000 in
theorem w_X11_put_39 (X : wx G p s m args meth c cX11_put 4 RX11 (some .int))  (h : hp_H) (hf : f_X11_put_39 h = some o) : wq p l e (mt_R (3) 0 0) s m args below meth c (MQ below (mt_Q G (some (.int o.1)) o.2) args s 0 0 (hp_A G)) G 4 0 0 39 [] [] h := by
  unfold f_X11_put_39 at hf
  refine wk_iconst X dX11_put_39 ic_0 ?_
  exact wk_ireturn X dX11_put_40 hf
def f_X11_put_74 (x0 : Nat) (h : hp_H) : Option (Int32 × hp_H) := (f_X11_refuses x0 1 h).bind fun r1 => some (r1.1 - 1, r1.2)
set_option maxRecDepth 20000 in
theorem w_X11_put_74 (X : wx G p s m args meth c cX11_put 4 RX11 (some .int)) (x0 : Nat) (h : hp_H) (hf : f_X11_put_74 x0 h = some o) : wq p l e (mt_R (3) 0 0) s m args below meth c (MQ below (mt_Q G (some (.int o.1)) o.2) args s 0 0 (hp_A G)) G 4 0 0 74 [(0, .ref x0)] [] h := by
  unfold f_X11_put_74 at hf
  refine wk_aload_n X dX11_put_74 0 rfl ?_
  refine wk_iconst X dX11_put_75 ic_1 ?_
  refine wk_callVi X [.int 1] [] dX11_put_76 rfl vo_X11_337 rfl (by decide) (Nat.le_of_ble_eq_true rfl) hf (c_X11_refuses l _ _ _) (fun r1 hf => ?_)
  refine wk_iconst X dX11_put_79 ic_1 ?_
  refine wk_isub X dX11_put_80 ?_
  exact wk_ireturn X dX11_put_81 hf
def f_X11_put_82 (x0 : Nat) (x1 : Int32) (x2 : Int32) (x3 : Int32) (h : hp_H) : Option (Int32 × hp_H) := (f_X11_keeps x0 h).bind fun r1 => (f_X11_puts0 x0 0 x1 x2 r1).bind fun r2 => some (x3, r2)
set_option maxRecDepth 20000 in
theorem w_X11_put_82 (X : wx G p s m args meth c cX11_put 4 RX11 (some .int)) (x0 : Nat) (x1 : Int32) (x2 : Int32) (x3 : Int32) (h : hp_H) (hf : f_X11_put_82 x0 x1 x2 x3 h = some o) : wq p l e (mt_R (3) 0 0) s m args below meth c (MQ below (mt_Q G (some (.int o.1)) o.2) args s 0 0 (hp_A G)) G 4 0 0 82 [(0, .ref x0), (1, .int x1), (2, .int x2), (3, .int x3)] [] h := by
  unfold f_X11_put_82 at hf
  refine wk_aload_n X dX11_put_82 0 rfl ?_
  refine wk_callVv X [] [] dX11_put_83 rfl vo_X11_340 rfl (by decide) (Nat.le_of_ble_eq_true rfl) hf (c_X11_keeps l _ _) (fun r1 hf => ?_)
  refine wk_aload_n X dX11_put_86 0 rfl ?_
  refine wk_iconst X dX11_put_87 ic_0 ?_
  refine wk_iload_n X dX11_put_88 1 rfl ?_
  refine wk_iload_n X dX11_put_89 2 rfl ?_
  refine wk_callVv X [.int 0, .int x1, .int x2] [] dX11_put_90 rfl vo_X11_343 rfl (by decide) (Nat.le_of_ble_eq_true rfl) hf (c_X11_puts0 l _ _ _ _ _) (fun r2 hf => ?_)
  refine wk_iload_n X dX11_put_93 3 rfl ?_
  exact wk_ireturn X dX11_put_94 hf
def f_X11_put_32 (x0 : Nat) (x1 : Int32) (x2 : Int32) (t0 : Nat) (t1 : Int32) (h : hp_H) : Option (Int32 × hp_H) := (f_X11_right t0 t1 1 h).bind fun r1 => if r1.1 = 0 then (f_X11_put_39 r1.2) else ((f_X11_rowOf x0 0 x1 r1.2).bind fun r2 => if r2.1 = x2 then (f_X11_put_74 x0 r2.2) else (if x2 = (-1) then (f_X11_put_82 x0 x1 x2 r2.1 r2.2) else ((rd_R r2.2 x0 11 36).bind fun v3 => (rd_A r2.2 0 v3 (25 + x2)).bind fun v4 => (f_X11_bits v4 r2.2).bind fun r5 => if r5.1 = 4 then (f_X11_put_74 x0 r5.2) else (f_X11_put_82 x0 x1 x2 r2.1 r5.2))))
set_option maxRecDepth 20000 in
theorem w_X11_put_32 (X : wx G p s m args meth c cX11_put 4 RX11 (some .int)) (x0 : Nat) (x1 : Int32) (x2 : Int32) (t0 : Nat) (t1 : Int32) (h : hp_H) (hf : f_X11_put_32 x0 x1 x2 t0 t1 h = some o) : wq p l e (mt_R (3) 0 0) s m args below meth c (MQ below (mt_Q G (some (.int o.1)) o.2) args s 0 0 (hp_A G)) G 4 0 0 32 [(0, .ref x0), (1, .int x1), (2, .int x2)] [.int t1, .ref t0] h := by
  unfold f_X11_put_32 at hf
  refine wk_iconst X dX11_put_32 ic_1 ?_
  refine wk_callVi X [.int t1, .int 1] [] dX11_put_33 rfl vo_X11_244 rfl (by decide) (Nat.le_of_ble_eq_true rfl) hf (c_X11_right l _ _ _ _) (fun r1 hf => ?_)
  refine wk_if_ne X 41 dX11_put_36 (by decide) hf (fun hf => ?_) (fun hf => ?_)
  · refine wk_aload_n X dX11_put_41 0 rfl ?_
    refine wk_iconst X dX11_put_42 ic_0 ?_
    refine wk_iload_n X dX11_put_43 1 rfl ?_
    refine wk_callVi X [.int 0, .int x1] [] dX11_put_44 rfl vo_X11_311 rfl (by decide) (Nat.le_of_ble_eq_true rfl) hf (c_X11_rowOf l _ _ _ _) (fun r2 hf => ?_)
    refine wk_istore_n (lv' := [(3, .int r2.1), (0, .ref x0), (1, .int x1), (2, .int x2)]) X dX11_put_47 (by decide) rfl ?_
    refine wk_iload_n X dX11_put_48 0 rfl ?_
    refine wk_iload_n X dX11_put_49 3 rfl ?_
    refine wk_icmp_eq X 74 dX11_put_50 (by decide) hf (fun hf => ?_) (fun hf => ?_)
    · exact wq_sub [1] rfl (w_X11_put_74 X _ _ hf)
    · refine wk_iload_n X dX11_put_53 3 rfl ?_
      refine wk_iconst X dX11_put_54 ic_m1 ?_
      refine wk_icmp_eq X 82 dX11_put_55 (by decide) hf (fun hf => ?_) (fun hf => ?_)
      · exact wq_sub [1, 2, 3, 0] rfl (w_X11_put_82 X _ _ _ _ _ hf)
      · refine wk_aload_n X dX11_put_58 1 rfl ?_
        refine wk_getR X dX11_put_59 fo_X11_51 hf (fun v3 hf => ?_)
        refine wk_bipush X dX11_put_62 ib_25 ?_
        refine wk_iload_n X dX11_put_64 3 rfl ?_
        refine wk_iadd X dX11_put_65 ?_
        refine wk_iald X dX11_put_66 hf (fun v4 hf => ?_)
        refine wk_callSi X [.int v4] [] dX11_put_67 rfl vo_X11_284 rfl (by decide) (Nat.le_of_ble_eq_true rfl) hf (c_X11_bits l _ _) (fun r5 hf => ?_)
        refine wk_iconst X dX11_put_70 ic_4 ?_
        refine wk_icmp_ne X 82 dX11_put_71 (by decide) hf (fun hf => ?_) (fun hf => ?_)
        · exact wq_sub [1, 2, 3, 0] rfl (w_X11_put_82 X _ _ _ _ _ hf)
        · exact wq_sub [1] rfl (w_X11_put_74 X _ _ hf)
  · exact wq_sub [] rfl (w_X11_put_39 X _ hf)
def f_X11_put_31 (x0 : Nat) (x1 : Int32) (x2 : Int32) (t0 : Nat) (h : hp_H) : Option (Int32 × hp_H) := f_X11_put_32 x0 x1 x2 t0 0 h
set_option maxRecDepth 20000 in
theorem w_X11_put_31 (X : wx G p s m args meth c cX11_put 4 RX11 (some .int)) (x0 : Nat) (x1 : Int32) (x2 : Int32) (t0 : Nat) (h : hp_H) (hf : f_X11_put_31 x0 x1 x2 t0 h = some o) : wq p l e (mt_R (3) 0 0) s m args below meth c (MQ below (mt_Q G (some (.int o.1)) o.2) args s 0 0 (hp_A G)) G 4 0 0 31 [(0, .ref x0), (1, .int x1), (2, .int x2)] [.ref t0] h := by
  unfold f_X11_put_31 at hf
  refine wk_iconst X dX11_put_31 ic_0 ?_
  exact wq_sub [0, 1, 2] rfl (w_X11_put_32 X _ _ _ _ _ _ hf)
end Sf_X11_put
def f_X11_put (x0 : Nat) (x1 : Int32) (x2 : Int32) (h : hp_H) : Option (Int32 × hp_H) := gd h x0 11 ((wr_I h x0 11 0 0).bind fun h1 => (f_X11_isMan x0 x1 h1).bind fun r2 => if r2.1 = 0 then (f_X11_put_39 r2.2) else (if x2 < (-1) then (f_X11_put_31 x0 x1 x2 x0 r2.2) else ((rd_I r2.2 x0 11 3).bind fun v3 => if v3 ≤ x2 then (f_X11_put_31 x0 x1 x2 x0 r2.2) else (f_X11_put_32 x0 x1 x2 x0 1 r2.2))))
set_option maxRecDepth 20000 in
theorem c_X11_put (l : Launch) (x0 : Nat) (x1 : Int32) (x2 : Int32) (h : hp_H) (r : Int32 × hp_H) (hf : f_X11_put x0 x1 x2 h = some r) : cv l (3) yX11_put cX11_put 4 (some .int) 11 x0 [.int x1, .int x2] h (some (.int r.1)) r.2 := by
  unfold f_X11_put at hf
  refine cv_of (lv := [(0, .ref x0), (1, .int x1), (2, .int x2)]) hf (by decide +kernel) (Nat.le_of_ble_eq_true rfl) rfl (fun hf p e s m args below meth c G X => ?_)
  refine wk_aload_n X dX11_put_0 0 rfl ?_
  refine wk_iconst X dX11_put_1 ic_0 ?_
  refine wk_putI X dX11_put_2 fo_X11_84 hf (fun h1 hf => ?_)
  refine wk_aload_n X dX11_put_5 0 rfl ?_
  refine wk_iload_n X dX11_put_6 1 rfl ?_
  refine wk_callVi X [.int x1] [] dX11_put_7 rfl vo_X11_327 rfl (by decide) (Nat.le_of_ble_eq_true rfl) hf (c_X11_isMan l _ _ _) (fun r2 hf => ?_)
  refine wk_if_eq X 39 dX11_put_10 (by decide) hf (fun hf => ?_) (fun hf => ?_)
  · exact wq_sub [] rfl (w_X11_put_39 X _ hf)
  · refine wk_aload_n X dX11_put_13 0 rfl ?_
    refine wk_iload_n X dX11_put_14 2 rfl ?_
    refine wk_iconst X dX11_put_15 ic_m1 ?_
    refine wk_icmp_lt X 31 dX11_put_16 (by decide) hf (fun hf => ?_) (fun hf => ?_)
    · exact wq_sub [0, 1, 2] rfl (w_X11_put_31 X _ _ _ _ _ hf)
    · refine wk_iload_n X dX11_put_19 2 rfl ?_
      refine wk_aload_n X dX11_put_20 0 rfl ?_
      refine wk_getI X dX11_put_21 fo_X11_254 hf (fun v3 hf => ?_)
      refine wk_icmp_ge X 31 dX11_put_24 (by decide) hf (fun hf => ?_) (fun hf => ?_)
      · exact wq_sub [0, 1, 2] rfl (w_X11_put_31 X _ _ _ _ _ hf)
      · refine wk_iconst X dX11_put_27 ic_1 ?_
        refine wk_goto X 32 dX11_put_28 (by decide) ?_
        exact wq_sub [0, 1, 2] rfl (w_X11_put_32 X _ _ _ _ _ _ hf)
section Sf_X11_heel
variable {p : Program} {l : Launch} {e : Env} {s : State} {m : MethodId} {args : Array Value} {below : List Frame} {meth : Method} {c : Code} {G : hp_G} {o : Int32 × hp_H}
def f_X11_heel_38  (h : hp_H) : Option (Int32 × hp_H) := some (0, h)
set_option maxRecDepth 20000 in
theorem w_X11_heel_38 (X : wx G p s m args meth c cX11_heel 3 RX11 (some .int))  (h : hp_H) (hf : f_X11_heel_38 h = some o) : wq p l e (mt_R (3) 0 0) s m args below meth c (MQ below (mt_Q G (some (.int o.1)) o.2) args s 0 0 (hp_A G)) G 3 0 0 38 [] [] h := by
  unfold f_X11_heel_38 at hf
  refine wk_iconst X dX11_heel_38 ic_0 ?_
  exact wk_ireturn X dX11_heel_39 hf
def f_X11_heel_31 (x0 : Nat) (x1 : Int32) (x2 : Int32) (t0 : Nat) (t1 : Int32) (h : hp_H) : Option (Int32 × hp_H) := (f_X11_right t0 t1 1 h).bind fun r1 => if r1.1 = 0 then (f_X11_heel_38 r1.2) else ((f_X11_keeps x0 r1.2).bind fun r2 => (rd_R r2 x0 11 36).bind fun v3 => (rd_A r2 0 v3 (1 + x1)).bind fun v4 => (wr_A r2 v3 (1 + x1) (v4 ^^^ (1 <<< (x2 &&& 31)))).bind fun h5 => (rd_R h5 x0 11 36).bind fun v6 => (rd_A h5 0 v6 (1 + x1)).bind fun v7 => some (v7, h5))
set_option maxRecDepth 20000 in
theorem w_X11_heel_31 (X : wx G p s m args meth c cX11_heel 3 RX11 (some .int)) (x0 : Nat) (x1 : Int32) (x2 : Int32) (t0 : Nat) (t1 : Int32) (h : hp_H) (hf : f_X11_heel_31 x0 x1 x2 t0 t1 h = some o) : wq p l e (mt_R (3) 0 0) s m args below meth c (MQ below (mt_Q G (some (.int o.1)) o.2) args s 0 0 (hp_A G)) G 3 0 0 31 [(0, .ref x0), (1, .int x1), (2, .int x2)] [.int t1, .ref t0] h := by
  unfold f_X11_heel_31 at hf
  refine wk_iconst X dX11_heel_31 ic_1 ?_
  refine wk_callVi X [.int t1, .int 1] [] dX11_heel_32 rfl vo_X11_244 rfl (by decide) (Nat.le_of_ble_eq_true rfl) hf (c_X11_right l _ _ _ _) (fun r1 hf => ?_)
  refine wk_if_ne X 40 dX11_heel_35 (by decide) hf (fun hf => ?_) (fun hf => ?_)
  · refine wk_aload_n X dX11_heel_40 0 rfl ?_
    refine wk_callVv X [] [] dX11_heel_41 rfl vo_X11_340 rfl (by decide) (Nat.le_of_ble_eq_true rfl) hf (c_X11_keeps l _ _) (fun r2 hf => ?_)
    refine wk_aload_n X dX11_heel_44 0 rfl ?_
    refine wk_getR X dX11_heel_45 fo_X11_51 hf (fun v3 hf => ?_)
    refine wk_iconst X dX11_heel_48 ic_1 ?_
    refine wk_iload_n X dX11_heel_49 1 rfl ?_
    refine wk_iadd X dX11_heel_50 ?_
    refine wk_dup2 X dX11_heel_51 rfl rfl ?_
    refine wk_iald X dX11_heel_52 hf (fun v4 hf => ?_)
    refine wk_iconst X dX11_heel_53 ic_1 ?_
    refine wk_iload_n X dX11_heel_54 2 rfl ?_
    refine wk_ishl X dX11_heel_55 ?_
    refine wk_ixor X dX11_heel_56 ?_
    refine wk_iast X dX11_heel_57 hf (fun h5 hf => ?_)
    refine wk_aload_n X dX11_heel_58 0 rfl ?_
    refine wk_getR X dX11_heel_59 fo_X11_51 hf (fun v6 hf => ?_)
    refine wk_iconst X dX11_heel_62 ic_1 ?_
    refine wk_iload_n X dX11_heel_63 1 rfl ?_
    refine wk_iadd X dX11_heel_64 ?_
    refine wk_iald X dX11_heel_65 hf (fun v7 hf => ?_)
    exact wk_ireturn X dX11_heel_66 hf
  · exact wq_sub [] rfl (w_X11_heel_38 X _ hf)
def f_X11_heel_30 (x0 : Nat) (x1 : Int32) (x2 : Int32) (t0 : Nat) (h : hp_H) : Option (Int32 × hp_H) := f_X11_heel_31 x0 x1 x2 t0 0 h
set_option maxRecDepth 20000 in
theorem w_X11_heel_30 (X : wx G p s m args meth c cX11_heel 3 RX11 (some .int)) (x0 : Nat) (x1 : Int32) (x2 : Int32) (t0 : Nat) (h : hp_H) (hf : f_X11_heel_30 x0 x1 x2 t0 h = some o) : wq p l e (mt_R (3) 0 0) s m args below meth c (MQ below (mt_Q G (some (.int o.1)) o.2) args s 0 0 (hp_A G)) G 3 0 0 30 [(0, .ref x0), (1, .int x1), (2, .int x2)] [.ref t0] h := by
  unfold f_X11_heel_30 at hf
  refine wk_iconst X dX11_heel_30 ic_0 ?_
  exact wq_sub [0, 1, 2] rfl (w_X11_heel_31 X _ _ _ _ _ _ hf)
end Sf_X11_heel
def f_X11_heel (x0 : Nat) (x1 : Int32) (x2 : Int32) (h : hp_H) : Option (Int32 × hp_H) := gd h x0 11 ((wr_I h x0 11 0 0).bind fun h1 => (f_X11_isMan x0 x1 h1).bind fun r2 => if r2.1 = 0 then (f_X11_heel_38 r2.2) else (if x2 < 0 then (f_X11_heel_30 x0 x1 x2 x0 r2.2) else ((rd_I r2.2 x0 11 1).bind fun v3 => if v3 ≤ x2 then (f_X11_heel_30 x0 x1 x2 x0 r2.2) else (f_X11_heel_31 x0 x1 x2 x0 1 r2.2))))
set_option maxRecDepth 20000 in
theorem c_X11_heel (l : Launch) (x0 : Nat) (x1 : Int32) (x2 : Int32) (h : hp_H) (r : Int32 × hp_H) (hf : f_X11_heel x0 x1 x2 h = some r) : cv l (3) yX11_heel cX11_heel 3 (some .int) 11 x0 [.int x1, .int x2] h (some (.int r.1)) r.2 := by
  unfold f_X11_heel at hf
  refine cv_of (lv := [(0, .ref x0), (1, .int x1), (2, .int x2)]) hf (by decide +kernel) (Nat.le_of_ble_eq_true rfl) rfl (fun hf p e s m args below meth c G X => ?_)
  refine wk_aload_n X dX11_heel_0 0 rfl ?_
  refine wk_iconst X dX11_heel_1 ic_0 ?_
  refine wk_putI X dX11_heel_2 fo_X11_84 hf (fun h1 hf => ?_)
  refine wk_aload_n X dX11_heel_5 0 rfl ?_
  refine wk_iload_n X dX11_heel_6 1 rfl ?_
  refine wk_callVi X [.int x1] [] dX11_heel_7 rfl vo_X11_327 rfl (by decide) (Nat.le_of_ble_eq_true rfl) hf (c_X11_isMan l _ _ _) (fun r2 hf => ?_)
  refine wk_if_eq X 38 dX11_heel_10 (by decide) hf (fun hf => ?_) (fun hf => ?_)
  · exact wq_sub [] rfl (w_X11_heel_38 X _ hf)
  · refine wk_aload_n X dX11_heel_13 0 rfl ?_
    refine wk_iload_n X dX11_heel_14 2 rfl ?_
    refine wk_if_lt X 30 dX11_heel_15 (by decide) hf (fun hf => ?_) (fun hf => ?_)
    · exact wq_sub [0, 1, 2] rfl (w_X11_heel_30 X _ _ _ _ _ hf)
    · refine wk_iload_n X dX11_heel_18 2 rfl ?_
      refine wk_aload_n X dX11_heel_19 0 rfl ?_
      refine wk_getI X dX11_heel_20 fo_X11_7 hf (fun v3 hf => ?_)
      refine wk_icmp_ge X 30 dX11_heel_23 (by decide) hf (fun hf => ?_) (fun hf => ?_)
      · exact wq_sub [0, 1, 2] rfl (w_X11_heel_30 X _ _ _ _ _ hf)
      · refine wk_iconst X dX11_heel_26 ic_1 ?_
        refine wk_goto X 31 dX11_heel_27 (by decide) ?_
        exact wq_sub [0, 1, 2] rfl (w_X11_heel_31 X _ _ _ _ _ _ hf)
section Sf_X11_loud
variable {p : Program} {l : Launch} {e : Env} {s : State} {m : MethodId} {args : Array Value} {below : List Frame} {meth : Method} {c : Code} {G : hp_G} {o : Int32 × hp_H}
end Sf_X11_loud
def f_X11_loud (x0 : Nat) (x1 : Int32) (x2 : Int32) (h : hp_H) : Option (Int32 × hp_H) := gd h x0 11 ((wr_I h x0 11 0 0).bind fun h1 => (f_X11_isMan x0 x1 h1).bind fun r2 => if r2.1 = 0 then (some (0, r2.2)) else ((f_X11_within x2 1 9 r2.2).bind fun r3 => if r3.1 = 0 then ((f_X11_refuses x0 1 r3.2).bind fun r9 => some (r9.1, r9.2)) else ((f_X11_keeps x0 r3.2).bind fun r4 => (rd_R r4 x0 11 36).bind fun v5 => (rd_A r4 0 v5 (9 + x1)).bind fun v6 => (rd_R r4 x0 11 36).bind fun v7 => (wr_A r4 v7 (9 + x1) x2).bind fun h8 => some (v6, h8))))
set_option maxRecDepth 20000 in
theorem c_X11_loud (l : Launch) (x0 : Nat) (x1 : Int32) (x2 : Int32) (h : hp_H) (r : Int32 × hp_H) (hf : f_X11_loud x0 x1 x2 h = some r) : cv l (3) yX11_loud cX11_loud 4 (some .int) 11 x0 [.int x1, .int x2] h (some (.int r.1)) r.2 := by
  unfold f_X11_loud at hf
  refine cv_of (lv := [(0, .ref x0), (1, .int x1), (2, .int x2)]) hf (by decide +kernel) (Nat.le_of_ble_eq_true rfl) rfl (fun hf p e s m args below meth c G X => ?_)
  refine wk_aload_n X dX11_loud_0 0 rfl ?_
  refine wk_iconst X dX11_loud_1 ic_0 ?_
  refine wk_putI X dX11_loud_2 fo_X11_84 hf (fun h1 hf => ?_)
  refine wk_aload_n X dX11_loud_5 0 rfl ?_
  refine wk_iload_n X dX11_loud_6 1 rfl ?_
  refine wk_callVi X [.int x1] [] dX11_loud_7 rfl vo_X11_327 rfl (by decide) (Nat.le_of_ble_eq_true rfl) hf (c_X11_isMan l _ _ _) (fun r2 hf => ?_)
  refine wk_if_ne X 15 dX11_loud_10 (by decide) hf (fun hf => ?_) (fun hf => ?_)
  · refine wk_iload_n X dX11_loud_15 2 rfl ?_
    refine wk_iconst X dX11_loud_16 ic_1 ?_
    refine wk_bipush X dX11_loud_17 ib_9 ?_
    refine wk_callSi X [.int x2, .int 1, .int 9] [] dX11_loud_19 rfl vo_X11_314 rfl (by decide) (Nat.le_of_ble_eq_true rfl) hf (c_X11_within l _ _ _ _) (fun r3 hf => ?_)
    refine wk_if_ne X 31 dX11_loud_22 (by decide) hf (fun hf => ?_) (fun hf => ?_)
    · refine wk_aload_n X dX11_loud_31 0 rfl ?_
      refine wk_callVv X [] [] dX11_loud_32 rfl vo_X11_340 rfl (by decide) (Nat.le_of_ble_eq_true rfl) hf (c_X11_keeps l _ _) (fun r4 hf => ?_)
      refine wk_aload_n X dX11_loud_35 0 rfl ?_
      refine wk_getR X dX11_loud_36 fo_X11_51 hf (fun v5 hf => ?_)
      refine wk_bipush X dX11_loud_39 ib_9 ?_
      refine wk_iload_n X dX11_loud_41 1 rfl ?_
      refine wk_iadd X dX11_loud_42 ?_
      refine wk_iald X dX11_loud_43 hf (fun v6 hf => ?_)
      refine wk_istore_n (lv' := [(3, .int v6), (0, .ref x0), (1, .int x1), (2, .int x2)]) X dX11_loud_44 (by decide) rfl ?_
      refine wk_aload_n X dX11_loud_45 1 rfl ?_
      refine wk_getR X dX11_loud_46 fo_X11_51 hf (fun v7 hf => ?_)
      refine wk_bipush X dX11_loud_49 ib_9 ?_
      refine wk_iload_n X dX11_loud_51 2 rfl ?_
      refine wk_iadd X dX11_loud_52 ?_
      refine wk_iload_n X dX11_loud_53 3 rfl ?_
      refine wk_iast X dX11_loud_54 hf (fun h8 hf => ?_)
      refine wk_iload_n X dX11_loud_55 0 rfl ?_
      exact wk_ireturn X dX11_loud_56 hf
    · refine wk_aload_n X dX11_loud_25 0 rfl ?_
      refine wk_iconst X dX11_loud_26 ic_1 ?_
      refine wk_callVi X [.int 1] [] dX11_loud_27 rfl vo_X11_337 rfl (by decide) (Nat.le_of_ble_eq_true rfl) hf (c_X11_refuses l _ _ _) (fun r9 hf => ?_)
      exact wk_ireturn X dX11_loud_30 hf
  · refine wk_iconst X dX11_loud_13 ic_0 ?_
    exact wk_ireturn X dX11_loud_14 hf
section Sf_X11_change
variable {p : Program} {l : Launch} {e : Env} {s : State} {m : MethodId} {args : Array Value} {below : List Frame} {meth : Method} {c : Code} {G : hp_G} {o : Int32 × hp_H}
def f_X11_change_21  (h : hp_H) : Option (Int32 × hp_H) := if 0 = 0 ∨ 0 = 1 then some (0, h) else none
set_option maxRecDepth 20000 in
theorem w_X11_change_21 (X : wx G p s m args meth c cX11_change 4 RX11 (some .boolean))  (h : hp_H) (hf : f_X11_change_21 h = some o) : wq p l e (mt_R (3) 0 0) s m args below meth c (MQ below (mt_Q G (some (.int o.1)) o.2) args s 0 0 (hp_A G)) G 4 0 0 21 [] [] h := by
  unfold f_X11_change_21 at hf
  refine wk_iconst X dX11_change_21 ic_0 ?_
  exact wk_zreturn X dX11_change_22 hf
def f_X11_change_41 (t0 : Int32) (h : hp_H) : Option (Int32 × hp_H) := if t0 = 0 ∨ t0 = 1 then some (t0, h) else none
set_option maxRecDepth 20000 in
theorem w_X11_change_41 (X : wx G p s m args meth c cX11_change 4 RX11 (some .boolean)) (t0 : Int32) (h : hp_H) (hf : f_X11_change_41 t0 h = some o) : wq p l e (mt_R (3) 0 0) s m args below meth c (MQ below (mt_Q G (some (.int o.1)) o.2) args s 0 0 (hp_A G)) G 4 0 0 41 [] [.int t0] h := by
  unfold f_X11_change_41 at hf
  exact wk_zreturn X dX11_change_41 hf
end Sf_X11_change
def f_X11_change (x0 : Nat) (x1 : Int32) (x2 : Int32) (h : hp_H) : Option (Int32 × hp_H) := gd h x0 11 ((wr_I h x0 11 0 0).bind fun h1 => (f_X11_isRow x0 x1 h1).bind fun r2 => if r2.1 = 0 then (f_X11_change_21 r2.2) else ((f_X11_isRow x0 x2 r2.2).bind fun r3 => if r3.1 = 0 then (f_X11_change_21 r3.2) else (if x1 = x2 then ((f_X11_refuses x0 1 r3.2).bind fun r13 => if r13.1 ≤ 0 then (f_X11_change_41 0 r13.2) else (f_X11_change_41 1 r13.2)) else ((f_X11_keeps x0 r3.2).bind fun r4 => (rd_R r4 x0 11 36).bind fun v5 => (rd_A r4 0 v5 (25 + x1)).bind fun v6 => (rd_R r4 x0 11 36).bind fun v7 => (rd_R r4 x0 11 36).bind fun v8 => (rd_A r4 0 v8 (25 + x2)).bind fun v9 => (wr_A r4 v7 (25 + x1) v9).bind fun h10 => (rd_R h10 x0 11 36).bind fun v11 => (wr_A h10 v11 (25 + x2) v6).bind fun h12 => if 1 = 0 ∨ 1 = 1 then some (1, h12) else none))))
set_option maxRecDepth 20000 in
theorem c_X11_change (l : Launch) (x0 : Nat) (x1 : Int32) (x2 : Int32) (h : hp_H) (r : Int32 × hp_H) (hf : f_X11_change x0 x1 x2 h = some r) : cv l (3) yX11_change cX11_change 4 (some .boolean) 11 x0 [.int x1, .int x2] h (some (.int r.1)) r.2 := by
  unfold f_X11_change at hf
  refine cv_of (lv := [(0, .ref x0), (1, .int x1), (2, .int x2)]) hf (by decide +kernel) (Nat.le_of_ble_eq_true rfl) rfl (fun hf p e s m args below meth c G X => ?_)
  refine wk_aload_n X dX11_change_0 0 rfl ?_
  refine wk_iconst X dX11_change_1 ic_0 ?_
  refine wk_putI X dX11_change_2 fo_X11_84 hf (fun h1 hf => ?_)
  refine wk_aload_n X dX11_change_5 0 rfl ?_
  refine wk_iload_n X dX11_change_6 1 rfl ?_
  refine wk_callVi X [.int x1] [] dX11_change_7 rfl vo_X11_334 rfl (by decide) (Nat.le_of_ble_eq_true rfl) hf (c_X11_isRow l _ _ _) (fun r2 hf => ?_)
  refine wk_if_eq X 21 dX11_change_10 (by decide) hf (fun hf => ?_) (fun hf => ?_)
  · exact wq_sub [] rfl (w_X11_change_21 X _ hf)
  · refine wk_aload_n X dX11_change_13 0 rfl ?_
    refine wk_iload_n X dX11_change_14 2 rfl ?_
    refine wk_callVi X [.int x2] [] dX11_change_15 rfl vo_X11_334 rfl (by decide) (Nat.le_of_ble_eq_true rfl) hf (c_X11_isRow l _ _ _) (fun r3 hf => ?_)
    refine wk_if_ne X 23 dX11_change_18 (by decide) hf (fun hf => ?_) (fun hf => ?_)
    · refine wk_iload_n X dX11_change_23 1 rfl ?_
      refine wk_iload_n X dX11_change_24 2 rfl ?_
      refine wk_icmp_ne X 42 dX11_change_25 (by decide) hf (fun hf => ?_) (fun hf => ?_)
      · refine wk_aload_n X dX11_change_42 0 rfl ?_
        refine wk_callVv X [] [] dX11_change_43 rfl vo_X11_340 rfl (by decide) (Nat.le_of_ble_eq_true rfl) hf (c_X11_keeps l _ _) (fun r4 hf => ?_)
        refine wk_aload_n X dX11_change_46 0 rfl ?_
        refine wk_getR X dX11_change_47 fo_X11_51 hf (fun v5 hf => ?_)
        refine wk_bipush X dX11_change_50 ib_25 ?_
        refine wk_iload_n X dX11_change_52 1 rfl ?_
        refine wk_iadd X dX11_change_53 ?_
        refine wk_iald X dX11_change_54 hf (fun v6 hf => ?_)
        refine wk_istore_n (lv' := [(3, .int v6), (0, .ref x0), (1, .int x1), (2, .int x2)]) X dX11_change_55 (by decide) rfl ?_
        refine wk_aload_n X dX11_change_56 1 rfl ?_
        refine wk_getR X dX11_change_57 fo_X11_51 hf (fun v7 hf => ?_)
        refine wk_bipush X dX11_change_60 ib_25 ?_
        refine wk_iload_n X dX11_change_62 2 rfl ?_
        refine wk_iadd X dX11_change_63 ?_
        refine wk_aload_n X dX11_change_64 1 rfl ?_
        refine wk_getR X dX11_change_65 fo_X11_51 hf (fun v8 hf => ?_)
        refine wk_bipush X dX11_change_68 ib_25 ?_
        refine wk_iload_n X dX11_change_70 3 rfl ?_
        refine wk_iadd X dX11_change_71 ?_
        refine wk_iald X dX11_change_72 hf (fun v9 hf => ?_)
        refine wk_iast X dX11_change_73 hf (fun h10 hf => ?_)
        refine wk_aload_n X dX11_change_74 1 rfl ?_
        refine wk_getR X dX11_change_75 fo_X11_51 hf (fun v11 hf => ?_)
        refine wk_bipush X dX11_change_78 ib_25 ?_
        refine wk_iload_n X dX11_change_80 3 rfl ?_
        refine wk_iadd X dX11_change_81 ?_
        refine wk_iload_n X dX11_change_82 0 rfl ?_
        refine wk_iast X dX11_change_83 hf (fun h12 hf => ?_)
        refine wk_iconst X dX11_change_84 ic_1 ?_
        exact wk_zreturn X dX11_change_85 hf
      · refine wk_aload_n X dX11_change_28 0 rfl ?_
        refine wk_iconst X dX11_change_29 ic_1 ?_
        refine wk_callVi X [.int 1] [] dX11_change_30 rfl vo_X11_337 rfl (by decide) (Nat.le_of_ble_eq_true rfl) hf (c_X11_refuses l _ _ _) (fun r13 hf => ?_)
        refine wk_if_le X 40 dX11_change_33 (by decide) hf (fun hf => ?_) (fun hf => ?_)
        · refine wk_iconst X dX11_change_40 ic_0 ?_
          exact wq_sub [] rfl (w_X11_change_41 X _ _ hf)
        · refine wk_iconst X dX11_change_36 ic_1 ?_
          refine wk_goto X 41 dX11_change_37 (by decide) ?_
          exact wq_sub [] rfl (w_X11_change_41 X _ _ hf)
    · exact wq_sub [] rfl (w_X11_change_21 X _ hf)
section Sf_X11_goesTo
variable {p : Program} {l : Launch} {e : Env} {s : State} {m : MethodId} {args : Array Value} {below : List Frame} {meth : Method} {c : Code} {G : hp_G} {o : hp_H}
end Sf_X11_goesTo
def f_X11_goesTo (x0 : Nat) (x1 : Int32) (h : hp_H) : Option (hp_H) := gd h x0 11 ((f_X11_tries x0 h).bind fun r1 => (f_X11_nightsGo x0 x1 r1).bind fun r2 => some r2)
set_option maxRecDepth 20000 in
theorem c_X11_goesTo (l : Launch) (x0 : Nat) (x1 : Int32) (h : hp_H) (r : hp_H) (hf : f_X11_goesTo x0 x1 h = some r) : cv l (7) yX11_goesTo cX11_goesTo 2 none 11 x0 [.int x1] h none r := by
  unfold f_X11_goesTo at hf
  refine cv_of (lv := [(0, .ref x0), (1, .int x1)]) hf (by decide +kernel) (Nat.le_of_ble_eq_true rfl) rfl (fun hf p e s m args below meth c G X => ?_)
  refine wk_aload_n X dX11_goesTo_0 0 rfl ?_
  refine wk_callVv X [] [] dX11_goesTo_1 rfl vo_X11_347 rfl (by decide) (Nat.le_of_ble_eq_true rfl) hf (c_X11_tries l _ _) (fun r1 hf => ?_)
  refine wk_aload_n X dX11_goesTo_4 0 rfl ?_
  refine wk_iload_n X dX11_goesTo_5 1 rfl ?_
  refine wk_callVv X [.int x1] [] dX11_goesTo_6 rfl vo_X11_350 rfl (by decide) (Nat.le_of_ble_eq_true rfl) hf (c_X11_nightsGo l _ _ _) (fun r2 hf => ?_)
  exact wk_return X dX11_goesTo_9 hf
section Sf_X11_then
variable {p : Program} {l : Launch} {e : Env} {s : State} {m : MethodId} {args : Array Value} {below : List Frame} {meth : Method} {c : Code} {G : hp_G} {o : Int32 × hp_H}
def f_X11_then_32  (h : hp_H) : Option (Int32 × hp_H) := some (0, h)
set_option maxRecDepth 20000 in
theorem w_X11_then_32 (X : wx G p s m args meth c cX11_then 4 RX11 (some .int))  (h : hp_H) (hf : f_X11_then_32 h = some o) : wq p l e (mt_R (8) 0 0) s m args below meth c (MQ below (mt_Q G (some (.int o.1)) o.2) args s 0 0 (hp_A G)) G 4 0 0 32 [] [] h := by
  unfold f_X11_then_32 at hf
  refine wk_iconst X dX11_then_32 ic_0 ?_
  exact wk_ireturn X dX11_then_33 hf
def f_X11_then_60 (t0 : Int32) (h : hp_H) : Option (Int32 × hp_H) := some (t0, h)
set_option maxRecDepth 20000 in
theorem w_X11_then_60 (X : wx G p s m args meth c cX11_then 4 RX11 (some .int)) (t0 : Int32) (h : hp_H) (hf : f_X11_then_60 t0 h = some o) : wq p l e (mt_R (8) 0 0) s m args below meth c (MQ below (mt_Q G (some (.int o.1)) o.2) args s 0 0 (hp_A G)) G 4 0 0 60 [] [.int t0] h := by
  unfold f_X11_then_60 at hf
  exact wk_ireturn X dX11_then_60 hf
end Sf_X11_then
def f_X11_then (x0 : Nat) (x1 : Int32) (x2 : Int32) (x3 : Int32) (h : hp_H) : Option (Int32 × hp_H) := gd h x0 11 ((wr_I h x0 11 0 0).bind fun h1 => (f_X11_isRow x0 x1 h1).bind fun r2 => if r2.1 = 0 then (f_X11_then_32 r2.2) else ((f_X11_isWhat x0 x3 1 r2.2).bind fun r3 => if r3.1 = 0 then (f_X11_then_32 r3.2) else ((f_X11_isNights x0 x2 0 2 r3.2).bind fun r4 => if r4.1 = 0 then (f_X11_then_32 r4.2) else ((f_X11_goesTo x0 x2 r4.2).bind fun r5 => if x3 = 0 then ((f_X11_heardOf x0 33 x1 r5).bind fun r7 => f_X11_then_60 r7.1 r7.2) else ((f_X11_namedOf x0 33 x1 r5).bind fun r6 => f_X11_then_60 r6.1 r6.2)))))
set_option maxRecDepth 20000 in
theorem c_X11_then (l : Launch) (x0 : Nat) (x1 : Int32) (x2 : Int32) (x3 : Int32) (h : hp_H) (r : Int32 × hp_H) (hf : f_X11_then x0 x1 x2 x3 h = some r) : cv l (8) yX11_then cX11_then 4 (some .int) 11 x0 [.int x1, .int x2, .int x3] h (some (.int r.1)) r.2 := by
  unfold f_X11_then at hf
  refine cv_of (lv := [(0, .ref x0), (1, .int x1), (2, .int x2), (3, .int x3)]) hf (by decide +kernel) (Nat.le_of_ble_eq_true rfl) rfl (fun hf p e s m args below meth c G X => ?_)
  refine wk_aload_n X dX11_then_0 0 rfl ?_
  refine wk_iconst X dX11_then_1 ic_0 ?_
  refine wk_putI X dX11_then_2 fo_X11_84 hf (fun h1 hf => ?_)
  refine wk_aload_n X dX11_then_5 0 rfl ?_
  refine wk_iload_n X dX11_then_6 1 rfl ?_
  refine wk_callVi X [.int x1] [] dX11_then_7 rfl vo_X11_334 rfl (by decide) (Nat.le_of_ble_eq_true rfl) hf (c_X11_isRow l _ _ _) (fun r2 hf => ?_)
  refine wk_if_eq X 32 dX11_then_10 (by decide) hf (fun hf => ?_) (fun hf => ?_)
  · exact wq_sub [] rfl (w_X11_then_32 X _ hf)
  · refine wk_aload_n X dX11_then_13 0 rfl ?_
    refine wk_iload_n X dX11_then_14 3 rfl ?_
    refine wk_iconst X dX11_then_15 ic_1 ?_
    refine wk_callVi X [.int x3, .int 1] [] dX11_then_16 rfl vo_X11_330 rfl (by decide) (Nat.le_of_ble_eq_true rfl) hf (c_X11_isWhat l _ _ _ _) (fun r3 hf => ?_)
    refine wk_if_eq X 32 dX11_then_19 (by decide) hf (fun hf => ?_) (fun hf => ?_)
    · exact wq_sub [] rfl (w_X11_then_32 X _ hf)
    · refine wk_aload_n X dX11_then_22 0 rfl ?_
      refine wk_iload_n X dX11_then_23 2 rfl ?_
      refine wk_iconst X dX11_then_24 ic_0 ?_
      refine wk_iconst X dX11_then_25 ic_2 ?_
      refine wk_callVi X [.int x2, .int 0, .int 2] [] dX11_then_26 rfl vo_X11_353 rfl (by decide) (Nat.le_of_ble_eq_true rfl) hf (c_X11_isNights l _ _ _ _ _) (fun r4 hf => ?_)
      refine wk_if_ne X 34 dX11_then_29 (by decide) hf (fun hf => ?_) (fun hf => ?_)
      · refine wk_aload_n X dX11_then_34 0 rfl ?_
        refine wk_iload_n X dX11_then_35 2 rfl ?_
        refine wk_callVv X [.int x2] [] dX11_then_36 rfl vo_X11_356 rfl (by decide) (Nat.le_of_ble_eq_true rfl) hf (c_X11_goesTo l _ _ _) (fun r5 hf => ?_)
        refine wk_iload_n X dX11_then_39 3 rfl ?_
        refine wk_if_ne X 53 dX11_then_40 (by decide) hf (fun hf => ?_) (fun hf => ?_)
        · refine wk_aload_n X dX11_then_53 0 rfl ?_
          refine wk_bipush X dX11_then_54 ib_33 ?_
          refine wk_iload_n X dX11_then_56 1 rfl ?_
          refine wk_callVi X [.int 33, .int x1] [] dX11_then_57 rfl vo_X11_302 rfl (by decide) (Nat.le_of_ble_eq_true rfl) hf (c_X11_namedOf l _ _ _ _) (fun r6 hf => ?_)
          exact wq_sub [] rfl (w_X11_then_60 X _ _ hf)
        · refine wk_aload_n X dX11_then_43 0 rfl ?_
          refine wk_bipush X dX11_then_44 ib_33 ?_
          refine wk_iload_n X dX11_then_46 1 rfl ?_
          refine wk_callVi X [.int 33, .int x1] [] dX11_then_47 rfl vo_X11_290 rfl (by decide) (Nat.le_of_ble_eq_true rfl) hf (c_X11_heardOf l _ _ _ _) (fun r7 hf => ?_)
          refine wk_goto X 60 dX11_then_50 (by decide) ?_
          exact wq_sub [] rfl (w_X11_then_60 X _ _ hf)
      · exact wq_sub [] rfl (w_X11_then_32 X _ hf)
section Sf_X11_honour
variable {p : Program} {l : Launch} {e : Env} {s : State} {m : MethodId} {args : Array Value} {below : List Frame} {meth : Method} {c : Code} {G : hp_G} {o : Int32 × hp_H}
def f_X11_honour_23  (h : hp_H) : Option (Int32 × hp_H) := some (0, h)
set_option maxRecDepth 20000 in
theorem w_X11_honour_23 (X : wx G p s m args meth c cX11_honour 3 RX11 (some .int))  (h : hp_H) (hf : f_X11_honour_23 h = some o) : wq p l e (mt_R (8) 0 0) s m args below meth c (MQ below (mt_Q G (some (.int o.1)) o.2) args s 0 0 (hp_A G)) G 3 0 0 23 [] [] h := by
  unfold f_X11_honour_23 at hf
  refine wk_iconst X dX11_honour_23 ic_0 ?_
  exact wk_ireturn X dX11_honour_24 hf
end Sf_X11_honour
def f_X11_honour (x0 : Nat) (x1 : Int32) (x2 : Int32) (h : hp_H) : Option (Int32 × hp_H) := gd h x0 11 ((wr_I h x0 11 0 0).bind fun h1 => (f_X11_isMan x0 x1 h1).bind fun r2 => if r2.1 = 0 then (f_X11_honour_23 r2.2) else ((f_X11_isNights x0 x2 0 2 r2.2).bind fun r3 => if r3.1 = 0 then (f_X11_honour_23 r3.2) else ((f_X11_goesTo x0 x2 r3.2).bind fun r4 => (rd_R r4 x0 11 36).bind fun v5 => (rd_A r4 0 v5 (50 + x1)).bind fun v6 => some (v6, r4))))
set_option maxRecDepth 20000 in
theorem c_X11_honour (l : Launch) (x0 : Nat) (x1 : Int32) (x2 : Int32) (h : hp_H) (r : Int32 × hp_H) (hf : f_X11_honour x0 x1 x2 h = some r) : cv l (8) yX11_honour cX11_honour 3 (some .int) 11 x0 [.int x1, .int x2] h (some (.int r.1)) r.2 := by
  unfold f_X11_honour at hf
  refine cv_of (lv := [(0, .ref x0), (1, .int x1), (2, .int x2)]) hf (by decide +kernel) (Nat.le_of_ble_eq_true rfl) rfl (fun hf p e s m args below meth c G X => ?_)
  refine wk_aload_n X dX11_honour_0 0 rfl ?_
  refine wk_iconst X dX11_honour_1 ic_0 ?_
  refine wk_putI X dX11_honour_2 fo_X11_84 hf (fun h1 hf => ?_)
  refine wk_aload_n X dX11_honour_5 0 rfl ?_
  refine wk_iload_n X dX11_honour_6 1 rfl ?_
  refine wk_callVi X [.int x1] [] dX11_honour_7 rfl vo_X11_327 rfl (by decide) (Nat.le_of_ble_eq_true rfl) hf (c_X11_isMan l _ _ _) (fun r2 hf => ?_)
  refine wk_if_eq X 23 dX11_honour_10 (by decide) hf (fun hf => ?_) (fun hf => ?_)
  · exact wq_sub [] rfl (w_X11_honour_23 X _ hf)
  · refine wk_aload_n X dX11_honour_13 0 rfl ?_
    refine wk_iload_n X dX11_honour_14 2 rfl ?_
    refine wk_iconst X dX11_honour_15 ic_0 ?_
    refine wk_iconst X dX11_honour_16 ic_2 ?_
    refine wk_callVi X [.int x2, .int 0, .int 2] [] dX11_honour_17 rfl vo_X11_353 rfl (by decide) (Nat.le_of_ble_eq_true rfl) hf (c_X11_isNights l _ _ _ _ _) (fun r3 hf => ?_)
    refine wk_if_ne X 25 dX11_honour_20 (by decide) hf (fun hf => ?_) (fun hf => ?_)
    · refine wk_aload_n X dX11_honour_25 0 rfl ?_
      refine wk_iload_n X dX11_honour_26 2 rfl ?_
      refine wk_callVv X [.int x2] [] dX11_honour_27 rfl vo_X11_356 rfl (by decide) (Nat.le_of_ble_eq_true rfl) hf (c_X11_goesTo l _ _ _) (fun r4 hf => ?_)
      refine wk_aload_n X dX11_honour_30 0 rfl ?_
      refine wk_getR X dX11_honour_31 fo_X11_51 hf (fun v5 hf => ?_)
      refine wk_bipush X dX11_honour_34 ib_50 ?_
      refine wk_iload_n X dX11_honour_36 1 rfl ?_
      refine wk_iadd X dX11_honour_37 ?_
      refine wk_iald X dX11_honour_38 hf (fun v6 hf => ?_)
      exact wk_ireturn X dX11_honour_39 hf
    · exact wq_sub [] rfl (w_X11_honour_23 X _ hf)
section Sf_X11_first
variable {p : Program} {l : Launch} {e : Env} {s : State} {m : MethodId} {args : Array Value} {below : List Frame} {meth : Method} {c : Code} {G : hp_G} {o : Int32 × hp_H}
def f_X11_first_53  (h : hp_H) : Option (Int32 × hp_H) := some ((-1), h)
set_option maxRecDepth 20000 in
theorem w_X11_first_53 (X : wx G p s m args meth c cX11_first 3 RX11 (some .int))  (h : hp_H) (hf : f_X11_first_53 h = some o) : wq p l e (mt_R (6) 0 0) s m args below meth c (MQ below (mt_Q G (some (.int o.1)) o.2) args s 0 0 (hp_A G)) G 3 0 0 53 [] [] h := by
  unfold f_X11_first_53 at hf
  refine wk_iconst X dX11_first_53 ic_m1 ?_
  exact wk_ireturn X dX11_first_54 hf
def f_X11_first_45 (x2 : Int32) (h : hp_H) : Option (Int32 × hp_H) := some (x2, h)
set_option maxRecDepth 20000 in
theorem w_X11_first_45 (X : wx G p s m args meth c cX11_first 3 RX11 (some .int)) (x2 : Int32) (h : hp_H) (hf : f_X11_first_45 x2 h = some o) : wq p l e (mt_R (6) 0 0) s m args below meth c (MQ below (mt_Q G (some (.int o.1)) o.2) args s 0 0 (hp_A G)) G 3 0 0 45 [(2, .int x2)] [] h := by
  unfold f_X11_first_45 at hf
  refine wk_iload_n X dX11_first_45 0 rfl ?_
  exact wk_ireturn X dX11_first_46 hf
def f_X11_first_21 (k21 : Nat → Int32 → Int32 → hp_H → Option (Int32 × hp_H)) (x0 : Nat) (x1 : Int32) (x2 : Int32) (h : hp_H) : Option (Int32 × hp_H) := if 40 < x2 then (f_X11_first_53 h) else ((f_X11_nightGoes x0 33 h).bind fun r1 => (rd_I r1 x0 11 42).bind fun v2 => if ((v2 >>> (x1 &&& 31)) &&& (1 : Int32)) = 1 then (f_X11_first_45 x2 r1) else (k21 x0 x1 (x2 + 1) r1))
set_option maxRecDepth 20000 in
theorem w_X11_first_21 (X : wx G p s m args meth c cX11_first 3 RX11 (some .int)) (k21 : Nat → Int32 → Int32 → hp_H → Option (Int32 × hp_H)) (hk21 : ∀ (x0 : Nat) (x1 : Int32) (x2 : Int32) (h : hp_H), k21 x0 x1 x2 h = some o → wq p l e (mt_R (6) 0 0) s m args below meth c (MQ below (mt_Q G (some (.int o.1)) o.2) args s 0 0 (hp_A G)) G 3 0 0 21 [(0, .ref x0), (1, .int x1), (2, .int x2)] [] h) (x0 : Nat) (x1 : Int32) (x2 : Int32) (h : hp_H) (hf : f_X11_first_21 k21 x0 x1 x2 h = some o) : wq p l e (mt_R (6) 0 0) s m args below meth c (MQ below (mt_Q G (some (.int o.1)) o.2) args s 0 0 (hp_A G)) G 3 0 0 21 [(0, .ref x0), (1, .int x1), (2, .int x2)] [] h := by
  unfold f_X11_first_21 at hf
  refine wk_iload_n X dX11_first_21 2 rfl ?_
  refine wk_bipush X dX11_first_22 ib_40 ?_
  refine wk_icmp_gt X 53 dX11_first_24 (by decide) hf (fun hf => ?_) (fun hf => ?_)
  · exact wq_sub [] rfl (w_X11_first_53 X _ hf)
  · refine wk_aload_n X dX11_first_27 0 rfl ?_
    refine wk_bipush X dX11_first_28 ib_33 ?_
    refine wk_callVv X [.int 33] [] dX11_first_30 rfl vo_X11_308 rfl (by decide) (Nat.le_of_ble_eq_true rfl) hf (c_X11_nightGoes l _ _ _) (fun r1 hf => ?_)
    refine wk_aload_n X dX11_first_33 0 rfl ?_
    refine wk_getI X dX11_first_34 fo_X11_296 hf (fun v2 hf => ?_)
    refine wk_iload_n X dX11_first_37 1 rfl ?_
    refine wk_ishr X dX11_first_38 ?_
    refine wk_iconst X dX11_first_39 ic_1 ?_
    refine wk_iand X dX11_first_40 ?_
    refine wk_iconst X dX11_first_41 ic_1 ?_
    refine wk_icmp_ne X 47 dX11_first_42 (by decide) hf (fun hf => ?_) (fun hf => ?_)
    · refine wk_iinc (lv' := [(2, .int (x2 + 1)), (0, .ref x0), (1, .int x1)]) X dX11_first_47 2 rfl ic_1 (by decide) rfl ?_
      refine wk_goto X 21 dX11_first_50 (by decide) ?_
      exact wq_sub [1, 2, 0] rfl (hk21 _ _ _ _ hf)
    · exact wq_sub [2] rfl (w_X11_first_45 X _ _ hf)
def l_X11_first_21 (x0 : Nat) (x1 : Int32) (x2 : Int32) (h : hp_H) : Option (Int32 × hp_H) := lp (fun k (s : Nat × Int32 × Int32 × hp_H) => f_X11_first_21  (fun a0 a1 a2 a3 => k (a0, a1, a2, a3)) s.1 s.2.1 s.2.2.1 s.2.2.2) 100000 (x0, x1, x2, h)
theorem wl_X11_first_21 (X : wx G p s m args meth c cX11_first 3 RX11 (some .int)) (x0 : Nat) (x1 : Int32) (x2 : Int32) (h : hp_H) (hf : l_X11_first_21 x0 x1 x2 h = some o) : wq p l e (mt_R (6) 0 0) s m args below meth c (MQ below (mt_Q G (some (.int o.1)) o.2) args s 0 0 (hp_A G)) G 3 0 0 21 [(0, .ref x0), (1, .int x1), (2, .int x2)] [] h :=
  lp_ind (P := fun (s_ : Nat × Int32 × Int32 × hp_H) => wq p l e (mt_R (6) 0 0) s m args below meth c (MQ below (mt_Q G (some (.int o.1)) o.2) args s 0 0 (hp_A G)) G 3 0 0 21 [(0, .ref s_.1), (1, .int s_.2.1), (2, .int s_.2.2.1)] [] s_.2.2.2) (fun k s hk hf => w_X11_first_21 X  (fun a0 a1 a2 a3 => k (a0, a1, a2, a3)) (fun a0 a1 a2 a3 hf => hk (a0, a1, a2, a3) hf) s.1 s.2.1 s.2.2.1 s.2.2.2 hf) 100000 (x0, x1, x2, h) hf
end Sf_X11_first
def f_X11_first (x0 : Nat) (x1 : Int32) (h : hp_H) : Option (Int32 × hp_H) := gd h x0 11 ((wr_I h x0 11 0 0).bind fun h1 => (f_X11_isMan x0 x1 h1).bind fun r2 => if r2.1 = 0 then (some (0, r2.2)) else ((f_X11_tries x0 r2.2).bind fun r3 => l_X11_first_21 x0 x1 1 r3))
set_option maxRecDepth 20000 in
theorem c_X11_first (l : Launch) (x0 : Nat) (x1 : Int32) (h : hp_H) (r : Int32 × hp_H) (hf : f_X11_first x0 x1 h = some r) : cv l (6) yX11_first cX11_first 3 (some .int) 11 x0 [.int x1] h (some (.int r.1)) r.2 := by
  unfold f_X11_first at hf
  refine cv_of (lv := [(0, .ref x0), (1, .int x1)]) hf (by decide +kernel) (Nat.le_of_ble_eq_true rfl) rfl (fun hf p e s m args below meth c G X => ?_)
  refine wk_aload_n X dX11_first_0 0 rfl ?_
  refine wk_iconst X dX11_first_1 ic_0 ?_
  refine wk_putI X dX11_first_2 fo_X11_84 hf (fun h1 hf => ?_)
  refine wk_aload_n X dX11_first_5 0 rfl ?_
  refine wk_iload_n X dX11_first_6 1 rfl ?_
  refine wk_callVi X [.int x1] [] dX11_first_7 rfl vo_X11_327 rfl (by decide) (Nat.le_of_ble_eq_true rfl) hf (c_X11_isMan l _ _ _) (fun r2 hf => ?_)
  refine wk_if_ne X 15 dX11_first_10 (by decide) hf (fun hf => ?_) (fun hf => ?_)
  · refine wk_aload_n X dX11_first_15 0 rfl ?_
    refine wk_callVv X [] [] dX11_first_16 rfl vo_X11_347 rfl (by decide) (Nat.le_of_ble_eq_true rfl) hf (c_X11_tries l _ _) (fun r3 hf => ?_)
    refine wk_iconst X dX11_first_19 ic_1 ?_
    refine wk_istore_n (lv' := [(2, .int 1), (0, .ref x0), (1, .int x1)]) X dX11_first_20 (by decide) rfl ?_
    exact wq_sub [1, 2, 0] rfl (wl_X11_first_21 X _ _ _ _ hf)
  · refine wk_iconst X dX11_first_13 ic_0 ?_
    exact wk_ireturn X dX11_first_14 hf
section Sf_X11_mistaken
variable {p : Program} {l : Launch} {e : Env} {s : State} {m : MethodId} {args : Array Value} {below : List Frame} {meth : Method} {c : Code} {G : hp_G} {o : Int32 × hp_H}
end Sf_X11_mistaken
def f_X11_mistaken (x0 : Nat) (x1 : Int32) (h : hp_H) : Option (Int32 × hp_H) := gd h x0 11 ((wr_I h x0 11 0 0).bind fun h1 => (f_X11_isNights x0 x1 1 1 h1).bind fun r2 => if r2.1 = 0 then (some (0, r2.2)) else ((f_X11_goesTo x0 x1 r2.2).bind fun r3 => (rd_I r3 x0 11 43).bind fun v4 => some (v4, r3)))
set_option maxRecDepth 20000 in
theorem c_X11_mistaken (l : Launch) (x0 : Nat) (x1 : Int32) (h : hp_H) (r : Int32 × hp_H) (hf : f_X11_mistaken x0 x1 h = some r) : cv l (8) yX11_mistaken cX11_mistaken 2 (some .int) 11 x0 [.int x1] h (some (.int r.1)) r.2 := by
  unfold f_X11_mistaken at hf
  refine cv_of (lv := [(0, .ref x0), (1, .int x1)]) hf (by decide +kernel) (Nat.le_of_ble_eq_true rfl) rfl (fun hf p e s m args below meth c G X => ?_)
  refine wk_aload_n X dX11_mistaken_0 0 rfl ?_
  refine wk_iconst X dX11_mistaken_1 ic_0 ?_
  refine wk_putI X dX11_mistaken_2 fo_X11_84 hf (fun h1 hf => ?_)
  refine wk_aload_n X dX11_mistaken_5 0 rfl ?_
  refine wk_iload_n X dX11_mistaken_6 1 rfl ?_
  refine wk_iconst X dX11_mistaken_7 ic_1 ?_
  refine wk_iconst X dX11_mistaken_8 ic_1 ?_
  refine wk_callVi X [.int x1, .int 1, .int 1] [] dX11_mistaken_9 rfl vo_X11_353 rfl (by decide) (Nat.le_of_ble_eq_true rfl) hf (c_X11_isNights l _ _ _ _ _) (fun r2 hf => ?_)
  refine wk_if_ne X 17 dX11_mistaken_12 (by decide) hf (fun hf => ?_) (fun hf => ?_)
  · refine wk_aload_n X dX11_mistaken_17 0 rfl ?_
    refine wk_iload_n X dX11_mistaken_18 1 rfl ?_
    refine wk_callVv X [.int x1] [] dX11_mistaken_19 rfl vo_X11_356 rfl (by decide) (Nat.le_of_ble_eq_true rfl) hf (c_X11_goesTo l _ _ _) (fun r3 hf => ?_)
    refine wk_aload_n X dX11_mistaken_22 0 rfl ?_
    refine wk_getI X dX11_mistaken_23 fo_X11_299 hf (fun v4 hf => ?_)
    exact wk_ireturn X dX11_mistaken_26 hf
  · refine wk_iconst X dX11_mistaken_15 ic_0 ?_
    exact wk_ireturn X dX11_mistaken_16 hf
section Sf_X11_unsung
variable {p : Program} {l : Launch} {e : Env} {s : State} {m : MethodId} {args : Array Value} {below : List Frame} {meth : Method} {c : Code} {G : hp_G} {o : Int32 × hp_H}
def f_X11_unsung_58 (x2 : Int32) (h : hp_H) : Option (Int32 × hp_H) := some (x2, h)
set_option maxRecDepth 20000 in
theorem w_X11_unsung_58 (X : wx G p s m args meth c cX11_unsung 4 RX11 (some .int)) (x2 : Int32) (h : hp_H) (hf : f_X11_unsung_58 x2 h = some o) : wq p l e (mt_R (6) 0 0) s m args below meth c (MQ below (mt_Q G (some (.int o.1)) o.2) args s 0 0 (hp_A G)) G 4 0 0 58 [(2, .int x2)] [] h := by
  unfold f_X11_unsung_58 at hf
  refine wk_iload_n X dX11_unsung_58 0 rfl ?_
  exact wk_ireturn X dX11_unsung_59 hf
def f_X11_unsung_32 (k32 : Nat → Int32 → Int32 → Int32 → hp_H → Option (Int32 × hp_H)) (x0 : Nat) (x1 : Int32) (x2 : Int32) (x3 : Int32) (h : hp_H) : Option (Int32 × hp_H) := if x1 ≤ x3 then (f_X11_unsung_58 x2 h) else ((f_X11_nightGoes x0 33 h).bind fun r1 => (rd_I r1 x0 11 42).bind fun v2 => k32 x0 x1 (x2 &&& (v2 ^^^ (-1))) (x3 + 1) r1)
set_option maxRecDepth 20000 in
theorem w_X11_unsung_32 (X : wx G p s m args meth c cX11_unsung 4 RX11 (some .int)) (k32 : Nat → Int32 → Int32 → Int32 → hp_H → Option (Int32 × hp_H)) (hk32 : ∀ (x0 : Nat) (x1 : Int32) (x2 : Int32) (x3 : Int32) (h : hp_H), k32 x0 x1 x2 x3 h = some o → wq p l e (mt_R (6) 0 0) s m args below meth c (MQ below (mt_Q G (some (.int o.1)) o.2) args s 0 0 (hp_A G)) G 4 0 0 32 [(0, .ref x0), (1, .int x1), (2, .int x2), (3, .int x3)] [] h) (x0 : Nat) (x1 : Int32) (x2 : Int32) (x3 : Int32) (h : hp_H) (hf : f_X11_unsung_32 k32 x0 x1 x2 x3 h = some o) : wq p l e (mt_R (6) 0 0) s m args below meth c (MQ below (mt_Q G (some (.int o.1)) o.2) args s 0 0 (hp_A G)) G 4 0 0 32 [(0, .ref x0), (1, .int x1), (2, .int x2), (3, .int x3)] [] h := by
  unfold f_X11_unsung_32 at hf
  refine wk_iload_n X dX11_unsung_32 3 rfl ?_
  refine wk_iload_n X dX11_unsung_33 1 rfl ?_
  refine wk_icmp_ge X 58 dX11_unsung_34 (by decide) hf (fun hf => ?_) (fun hf => ?_)
  · exact wq_sub [2] rfl (w_X11_unsung_58 X _ _ hf)
  · refine wk_aload_n X dX11_unsung_37 0 rfl ?_
    refine wk_bipush X dX11_unsung_38 ib_33 ?_
    refine wk_callVv X [.int 33] [] dX11_unsung_40 rfl vo_X11_308 rfl (by decide) (Nat.le_of_ble_eq_true rfl) hf (c_X11_nightGoes l _ _ _) (fun r1 hf => ?_)
    refine wk_iload_n X dX11_unsung_43 2 rfl ?_
    refine wk_aload_n X dX11_unsung_44 0 rfl ?_
    refine wk_getI X dX11_unsung_45 fo_X11_296 hf (fun v2 hf => ?_)
    refine wk_iconst X dX11_unsung_48 ic_m1 ?_
    refine wk_ixor X dX11_unsung_49 ?_
    refine wk_iand X dX11_unsung_50 ?_
    refine wk_istore_n (lv' := [(2, .int (x2 &&& (v2 ^^^ (-1)))), (0, .ref x0), (1, .int x1), (3, .int x3)]) X dX11_unsung_51 (by decide) rfl ?_
    refine wk_iinc (lv' := [(3, .int (x3 + 1)), (2, .int (x2 &&& (v2 ^^^ (-1)))), (0, .ref x0), (1, .int x1)]) X dX11_unsung_52 3 rfl ic_1 (by decide) rfl ?_
    refine wk_goto X 32 dX11_unsung_55 (by decide) ?_
    exact wq_sub [2, 3, 1, 0] rfl (hk32 _ _ _ _ _ hf)
def l_X11_unsung_32 (x0 : Nat) (x1 : Int32) (x2 : Int32) (x3 : Int32) (h : hp_H) : Option (Int32 × hp_H) := lp (fun k (s : Nat × Int32 × Int32 × Int32 × hp_H) => f_X11_unsung_32  (fun a0 a1 a2 a3 a4 => k (a0, a1, a2, a3, a4)) s.1 s.2.1 s.2.2.1 s.2.2.2.1 s.2.2.2.2) 100000 (x0, x1, x2, x3, h)
theorem wl_X11_unsung_32 (X : wx G p s m args meth c cX11_unsung 4 RX11 (some .int)) (x0 : Nat) (x1 : Int32) (x2 : Int32) (x3 : Int32) (h : hp_H) (hf : l_X11_unsung_32 x0 x1 x2 x3 h = some o) : wq p l e (mt_R (6) 0 0) s m args below meth c (MQ below (mt_Q G (some (.int o.1)) o.2) args s 0 0 (hp_A G)) G 4 0 0 32 [(0, .ref x0), (1, .int x1), (2, .int x2), (3, .int x3)] [] h :=
  lp_ind (P := fun (s_ : Nat × Int32 × Int32 × Int32 × hp_H) => wq p l e (mt_R (6) 0 0) s m args below meth c (MQ below (mt_Q G (some (.int o.1)) o.2) args s 0 0 (hp_A G)) G 4 0 0 32 [(0, .ref s_.1), (1, .int s_.2.1), (2, .int s_.2.2.1), (3, .int s_.2.2.2.1)] [] s_.2.2.2.2) (fun k s hk hf => w_X11_unsung_32 X  (fun a0 a1 a2 a3 a4 => k (a0, a1, a2, a3, a4)) (fun a0 a1 a2 a3 a4 hf => hk (a0, a1, a2, a3, a4) hf) s.1 s.2.1 s.2.2.1 s.2.2.2.1 s.2.2.2.2 hf) 100000 (x0, x1, x2, x3, h) hf
end Sf_X11_unsung
def f_X11_unsung (x0 : Nat) (x1 : Int32) (h : hp_H) : Option (Int32 × hp_H) := gd h x0 11 ((wr_I h x0 11 0 0).bind fun h1 => (f_X11_isNights x0 x1 1 1 h1).bind fun r2 => if r2.1 = 0 then (some (0, r2.2)) else ((rd_I r2.2 x0 11 2).bind fun v3 => (f_X11_tries x0 r2.2).bind fun r4 => l_X11_unsung_32 x0 x1 ((1 <<< (v3 &&& 31)) - (1 : Int32)) 0 r4))
set_option maxRecDepth 20000 in
theorem c_X11_unsung (l : Launch) (x0 : Nat) (x1 : Int32) (h : hp_H) (r : Int32 × hp_H) (hf : f_X11_unsung x0 x1 h = some r) : cv l (6) yX11_unsung cX11_unsung 4 (some .int) 11 x0 [.int x1] h (some (.int r.1)) r.2 := by
  unfold f_X11_unsung at hf
  refine cv_of (lv := [(0, .ref x0), (1, .int x1)]) hf (by decide +kernel) (Nat.le_of_ble_eq_true rfl) rfl (fun hf p e s m args below meth c G X => ?_)
  refine wk_aload_n X dX11_unsung_0 0 rfl ?_
  refine wk_iconst X dX11_unsung_1 ic_0 ?_
  refine wk_putI X dX11_unsung_2 fo_X11_84 hf (fun h1 hf => ?_)
  refine wk_aload_n X dX11_unsung_5 0 rfl ?_
  refine wk_iload_n X dX11_unsung_6 1 rfl ?_
  refine wk_iconst X dX11_unsung_7 ic_1 ?_
  refine wk_iconst X dX11_unsung_8 ic_1 ?_
  refine wk_callVi X [.int x1, .int 1, .int 1] [] dX11_unsung_9 rfl vo_X11_353 rfl (by decide) (Nat.le_of_ble_eq_true rfl) hf (c_X11_isNights l _ _ _ _ _) (fun r2 hf => ?_)
  refine wk_if_ne X 17 dX11_unsung_12 (by decide) hf (fun hf => ?_) (fun hf => ?_)
  · refine wk_iconst X dX11_unsung_17 ic_1 ?_
    refine wk_aload_n X dX11_unsung_18 0 rfl ?_
    refine wk_getI X dX11_unsung_19 fo_X11_251 hf (fun v3 hf => ?_)
    refine wk_ishl X dX11_unsung_22 ?_
    refine wk_iconst X dX11_unsung_23 ic_1 ?_
    refine wk_isub X dX11_unsung_24 ?_
    refine wk_istore_n (lv' := [(2, .int ((1 <<< (v3 &&& 31)) - (1 : Int32))), (0, .ref x0), (1, .int x1)]) X dX11_unsung_25 (by decide) rfl ?_
    refine wk_aload_n X dX11_unsung_26 1 rfl ?_
    refine wk_callVv X [] [] dX11_unsung_27 rfl vo_X11_347 rfl (by decide) (Nat.le_of_ble_eq_true rfl) hf (c_X11_tries l _ _) (fun r4 hf => ?_)
    refine wk_iconst X dX11_unsung_30 ic_0 ?_
    refine wk_istore_n (lv' := [(3, .int 0), (2, .int ((1 <<< (v3 &&& 31)) - (1 : Int32))), (0, .ref x0), (1, .int x1)]) X dX11_unsung_31 (by decide) rfl ?_
    exact wq_sub [2, 3, 1, 0] rfl (wl_X11_unsung_32 X _ _ _ _ _ hf)
  · refine wk_iconst X dX11_unsung_15 ic_0 ?_
    exact wk_ireturn X dX11_unsung_16 hf
section Sf_X11_farOf
variable {p : Program} {l : Launch} {e : Env} {s : State} {m : MethodId} {args : Array Value} {below : List Frame} {meth : Method} {c : Code} {G : hp_G} {o : Int32 × hp_H}
end Sf_X11_farOf
def f_X11_farOf (x0 : Nat) (x1 : Int32) (x2 : Int32) (h : hp_H) : Option (Int32 × hp_H) := gd h x0 11 ((rd_R h x0 11 36).bind fun v1 => (rd_A h 0 v1 (1 + x1)).bind fun v2 => (rd_R h x0 11 36).bind fun v3 => (rd_A h 0 v3 (1 + x2)).bind fun v4 => (f_X11_bits (v2 ^^^ v4) h).bind fun r5 => some (r5.1, r5.2))
set_option maxRecDepth 20000 in
theorem c_X11_farOf (l : Launch) (x0 : Nat) (x1 : Int32) (x2 : Int32) (h : hp_H) (r : Int32 × hp_H) (hf : f_X11_farOf x0 x1 x2 h = some r) : cv l (2) yX11_farOf cX11_farOf 3 (some .int) 11 x0 [.int x1, .int x2] h (some (.int r.1)) r.2 := by
  unfold f_X11_farOf at hf
  refine cv_of (lv := [(0, .ref x0), (1, .int x1), (2, .int x2)]) hf (by decide +kernel) (Nat.le_of_ble_eq_true rfl) rfl (fun hf p e s m args below meth c G X => ?_)
  refine wk_aload_n X dX11_farOf_0 0 rfl ?_
  refine wk_getR X dX11_farOf_1 fo_X11_51 hf (fun v1 hf => ?_)
  refine wk_iconst X dX11_farOf_4 ic_1 ?_
  refine wk_iload_n X dX11_farOf_5 1 rfl ?_
  refine wk_iadd X dX11_farOf_6 ?_
  refine wk_iald X dX11_farOf_7 hf (fun v2 hf => ?_)
  refine wk_aload_n X dX11_farOf_8 0 rfl ?_
  refine wk_getR X dX11_farOf_9 fo_X11_51 hf (fun v3 hf => ?_)
  refine wk_iconst X dX11_farOf_12 ic_1 ?_
  refine wk_iload_n X dX11_farOf_13 2 rfl ?_
  refine wk_iadd X dX11_farOf_14 ?_
  refine wk_iald X dX11_farOf_15 hf (fun v4 hf => ?_)
  refine wk_ixor X dX11_farOf_16 ?_
  refine wk_callSi X [.int (v2 ^^^ v4)] [] dX11_farOf_17 rfl vo_X11_284 rfl (by decide) (Nat.le_of_ble_eq_true rfl) hf (c_X11_bits l _ _) (fun r5 hf => ?_)
  exact wk_ireturn X dX11_farOf_20 hf
section Sf_X11_far
variable {p : Program} {l : Launch} {e : Env} {s : State} {m : MethodId} {args : Array Value} {below : List Frame} {meth : Method} {c : Code} {G : hp_G} {o : Int32 × hp_H}
def f_X11_far_31 (t0 : Int32) (h : hp_H) : Option (Int32 × hp_H) := some (t0, h)
set_option maxRecDepth 20000 in
theorem w_X11_far_31 (X : wx G p s m args meth c cX11_far 3 RX11 (some .int)) (t0 : Int32) (h : hp_H) (hf : f_X11_far_31 t0 h = some o) : wq p l e (mt_R (3) 0 0) s m args below meth c (MQ below (mt_Q G (some (.int o.1)) o.2) args s 0 0 (hp_A G)) G 3 0 0 31 [] [.int t0] h := by
  unfold f_X11_far_31 at hf
  exact wk_ireturn X dX11_far_31 hf
def f_X11_far_30  (h : hp_H) : Option (Int32 × hp_H) := f_X11_far_31 0 h
set_option maxRecDepth 20000 in
theorem w_X11_far_30 (X : wx G p s m args meth c cX11_far 3 RX11 (some .int))  (h : hp_H) (hf : f_X11_far_30 h = some o) : wq p l e (mt_R (3) 0 0) s m args below meth c (MQ below (mt_Q G (some (.int o.1)) o.2) args s 0 0 (hp_A G)) G 3 0 0 30 [] [] h := by
  unfold f_X11_far_30 at hf
  refine wk_iconst X dX11_far_30 ic_0 ?_
  exact wq_sub [] rfl (w_X11_far_31 X _ _ hf)
end Sf_X11_far
def f_X11_far (x0 : Nat) (x1 : Int32) (x2 : Int32) (h : hp_H) : Option (Int32 × hp_H) := gd h x0 11 ((wr_I h x0 11 0 0).bind fun h1 => (f_X11_isMan x0 x1 h1).bind fun r2 => if r2.1 = 0 then (f_X11_far_30 r2.2) else ((f_X11_isMan x0 x2 r2.2).bind fun r3 => if r3.1 = 0 then (f_X11_far_30 r3.2) else ((f_X11_farOf x0 x1 x2 r3.2).bind fun r4 => f_X11_far_31 r4.1 r4.2)))
set_option maxRecDepth 20000 in
theorem c_X11_far (l : Launch) (x0 : Nat) (x1 : Int32) (x2 : Int32) (h : hp_H) (r : Int32 × hp_H) (hf : f_X11_far x0 x1 x2 h = some r) : cv l (3) yX11_far cX11_far 3 (some .int) 11 x0 [.int x1, .int x2] h (some (.int r.1)) r.2 := by
  unfold f_X11_far at hf
  refine cv_of (lv := [(0, .ref x0), (1, .int x1), (2, .int x2)]) hf (by decide +kernel) (Nat.le_of_ble_eq_true rfl) rfl (fun hf p e s m args below meth c G X => ?_)
  refine wk_aload_n X dX11_far_0 0 rfl ?_
  refine wk_iconst X dX11_far_1 ic_0 ?_
  refine wk_putI X dX11_far_2 fo_X11_84 hf (fun h1 hf => ?_)
  refine wk_aload_n X dX11_far_5 0 rfl ?_
  refine wk_iload_n X dX11_far_6 1 rfl ?_
  refine wk_callVi X [.int x1] [] dX11_far_7 rfl vo_X11_327 rfl (by decide) (Nat.le_of_ble_eq_true rfl) hf (c_X11_isMan l _ _ _) (fun r2 hf => ?_)
  refine wk_if_eq X 30 dX11_far_10 (by decide) hf (fun hf => ?_) (fun hf => ?_)
  · exact wq_sub [] rfl (w_X11_far_30 X _ hf)
  · refine wk_aload_n X dX11_far_13 0 rfl ?_
    refine wk_iload_n X dX11_far_14 2 rfl ?_
    refine wk_callVi X [.int x2] [] dX11_far_15 rfl vo_X11_327 rfl (by decide) (Nat.le_of_ble_eq_true rfl) hf (c_X11_isMan l _ _ _) (fun r3 hf => ?_)
    refine wk_if_eq X 30 dX11_far_18 (by decide) hf (fun hf => ?_) (fun hf => ?_)
    · exact wq_sub [] rfl (w_X11_far_30 X _ hf)
    · refine wk_aload_n X dX11_far_21 0 rfl ?_
      refine wk_iload_n X dX11_far_22 1 rfl ?_
      refine wk_iload_n X dX11_far_23 2 rfl ?_
      refine wk_callVi X [.int x1, .int x2] [] dX11_far_24 rfl vo_X11_359 rfl (by decide) (Nat.le_of_ble_eq_true rfl) hf (c_X11_farOf l _ _ _ _) (fun r4 hf => ?_)
      refine wk_goto X 31 dX11_far_27 (by decide) ?_
      exact wq_sub [] rfl (w_X11_far_31 X _ _ hf)
section Sf_X11_nearest
variable {p : Program} {l : Launch} {e : Env} {s : State} {m : MethodId} {args : Array Value} {below : List Frame} {meth : Method} {c : Code} {G : hp_G} {o : Int32 × hp_H}
def f_X11_nearest_77 (x1 : Int32) (h : hp_H) : Option (Int32 × hp_H) := some (x1, h)
set_option maxRecDepth 20000 in
theorem w_X11_nearest_77 (X : wx G p s m args meth c cX11_nearest 5 RX11 (some .int)) (x1 : Int32) (h : hp_H) (hf : f_X11_nearest_77 x1 h = some o) : wq p l e (mt_R (3) 0 0) s m args below meth c (MQ below (mt_Q G (some (.int o.1)) o.2) args s 0 0 (hp_A G)) G 5 0 0 77 [(1, .int x1)] [] h := by
  unfold f_X11_nearest_77 at hf
  refine wk_iload_n X dX11_nearest_77 0 rfl ?_
  exact wk_ireturn X dX11_nearest_78 hf
def f_X11_nearest_71 (k13 : Nat → Int32 → Int32 → Int32 → hp_H → Option (Int32 × hp_H)) (x0 : Nat) (x1 : Int32) (x2 : Int32) (x3 : Int32) (h : hp_H) : Option (Int32 × hp_H) := k13 x0 x1 x2 (x3 + 1) h
set_option maxRecDepth 20000 in
theorem w_X11_nearest_71 (X : wx G p s m args meth c cX11_nearest 5 RX11 (some .int)) (k13 : Nat → Int32 → Int32 → Int32 → hp_H → Option (Int32 × hp_H)) (hk13 : ∀ (x0 : Nat) (x1 : Int32) (x2 : Int32) (x3 : Int32) (h : hp_H), k13 x0 x1 x2 x3 h = some o → wq p l e (mt_R (3) 0 0) s m args below meth c (MQ below (mt_Q G (some (.int o.1)) o.2) args s 0 0 (hp_A G)) G 5 0 0 13 [(0, .ref x0), (1, .int x1), (2, .int x2), (3, .int x3)] [] h) (x0 : Nat) (x1 : Int32) (x2 : Int32) (x3 : Int32) (h : hp_H) (hf : f_X11_nearest_71 k13 x0 x1 x2 x3 h = some o) : wq p l e (mt_R (3) 0 0) s m args below meth c (MQ below (mt_Q G (some (.int o.1)) o.2) args s 0 0 (hp_A G)) G 5 0 0 71 [(0, .ref x0), (1, .int x1), (2, .int x2), (3, .int x3)] [] h := by
  unfold f_X11_nearest_71 at hf
  refine wk_iinc (lv' := [(3, .int (x3 + 1)), (0, .ref x0), (1, .int x1), (2, .int x2)]) X dX11_nearest_71 3 rfl ic_1 (by decide) rfl ?_
  refine wk_goto X 13 dX11_nearest_74 (by decide) ?_
  exact wq_sub [1, 2, 3, 0] rfl (hk13 _ _ _ _ _ hf)
def f_X11_nearest_65 (k13 : Nat → Int32 → Int32 → Int32 → hp_H → Option (Int32 × hp_H)) (k26 : Nat → Int32 → Int32 → Int32 → Int32 → hp_H → Option (Int32 × hp_H)) (x0 : Nat) (x1 : Int32) (x2 : Int32) (x3 : Int32) (x4 : Int32) (h : hp_H) : Option (Int32 × hp_H) := k26 x0 x1 x2 x3 (x4 + 1) h
set_option maxRecDepth 20000 in
theorem w_X11_nearest_65 (X : wx G p s m args meth c cX11_nearest 5 RX11 (some .int)) (k13 : Nat → Int32 → Int32 → Int32 → hp_H → Option (Int32 × hp_H)) (hk13 : ∀ (x0 : Nat) (x1 : Int32) (x2 : Int32) (x3 : Int32) (h : hp_H), k13 x0 x1 x2 x3 h = some o → wq p l e (mt_R (3) 0 0) s m args below meth c (MQ below (mt_Q G (some (.int o.1)) o.2) args s 0 0 (hp_A G)) G 5 0 0 13 [(0, .ref x0), (1, .int x1), (2, .int x2), (3, .int x3)] [] h) (k26 : Nat → Int32 → Int32 → Int32 → Int32 → hp_H → Option (Int32 × hp_H)) (hk26 : ∀ (x0 : Nat) (x1 : Int32) (x2 : Int32) (x3 : Int32) (x4 : Int32) (h : hp_H), k26 x0 x1 x2 x3 x4 h = some o → wq p l e (mt_R (3) 0 0) s m args below meth c (MQ below (mt_Q G (some (.int o.1)) o.2) args s 0 0 (hp_A G)) G 5 0 0 26 [(0, .ref x0), (1, .int x1), (2, .int x2), (3, .int x3), (4, .int x4)] [] h) (x0 : Nat) (x1 : Int32) (x2 : Int32) (x3 : Int32) (x4 : Int32) (h : hp_H) (hf : f_X11_nearest_65 k13 k26 x0 x1 x2 x3 x4 h = some o) : wq p l e (mt_R (3) 0 0) s m args below meth c (MQ below (mt_Q G (some (.int o.1)) o.2) args s 0 0 (hp_A G)) G 5 0 0 65 [(0, .ref x0), (1, .int x1), (2, .int x2), (3, .int x3), (4, .int x4)] [] h := by
  unfold f_X11_nearest_65 at hf
  refine wk_iinc (lv' := [(4, .int (x4 + 1)), (0, .ref x0), (1, .int x1), (2, .int x2), (3, .int x3)]) X dX11_nearest_65 4 rfl ic_1 (by decide) rfl ?_
  refine wk_goto X 26 dX11_nearest_68 (by decide) ?_
  exact wq_sub [1, 2, 3, 4, 0] rfl (hk26 _ _ _ _ _ _ hf)
def f_X11_nearest_26 (k13 : Nat → Int32 → Int32 → Int32 → hp_H → Option (Int32 × hp_H)) (k26 : Nat → Int32 → Int32 → Int32 → Int32 → hp_H → Option (Int32 × hp_H)) (x0 : Nat) (x1 : Int32) (x2 : Int32) (x3 : Int32) (x4 : Int32) (h : hp_H) : Option (Int32 × hp_H) := (rd_I h x0 11 2).bind fun v1 => if v1 ≤ x4 then (f_X11_nearest_71 k13 x0 x1 x2 x3 h) else ((f_X11_farOf x0 x3 x4 h).bind fun r2 => if r2.1 < x2 then ((f_X11_farOf x0 x3 x4 r2.2).bind fun r3 => f_X11_nearest_65 k13 k26 x0 ((10 * x3) + x4) r3.1 x3 x4 r3.2) else (f_X11_nearest_65 k13 k26 x0 x1 x2 x3 x4 r2.2))
set_option maxRecDepth 20000 in
theorem w_X11_nearest_26 (X : wx G p s m args meth c cX11_nearest 5 RX11 (some .int)) (k13 : Nat → Int32 → Int32 → Int32 → hp_H → Option (Int32 × hp_H)) (hk13 : ∀ (x0 : Nat) (x1 : Int32) (x2 : Int32) (x3 : Int32) (h : hp_H), k13 x0 x1 x2 x3 h = some o → wq p l e (mt_R (3) 0 0) s m args below meth c (MQ below (mt_Q G (some (.int o.1)) o.2) args s 0 0 (hp_A G)) G 5 0 0 13 [(0, .ref x0), (1, .int x1), (2, .int x2), (3, .int x3)] [] h) (k26 : Nat → Int32 → Int32 → Int32 → Int32 → hp_H → Option (Int32 × hp_H)) (hk26 : ∀ (x0 : Nat) (x1 : Int32) (x2 : Int32) (x3 : Int32) (x4 : Int32) (h : hp_H), k26 x0 x1 x2 x3 x4 h = some o → wq p l e (mt_R (3) 0 0) s m args below meth c (MQ below (mt_Q G (some (.int o.1)) o.2) args s 0 0 (hp_A G)) G 5 0 0 26 [(0, .ref x0), (1, .int x1), (2, .int x2), (3, .int x3), (4, .int x4)] [] h) (x0 : Nat) (x1 : Int32) (x2 : Int32) (x3 : Int32) (x4 : Int32) (h : hp_H) (hf : f_X11_nearest_26 k13 k26 x0 x1 x2 x3 x4 h = some o) : wq p l e (mt_R (3) 0 0) s m args below meth c (MQ below (mt_Q G (some (.int o.1)) o.2) args s 0 0 (hp_A G)) G 5 0 0 26 [(0, .ref x0), (1, .int x1), (2, .int x2), (3, .int x3), (4, .int x4)] [] h := by
  unfold f_X11_nearest_26 at hf
  refine wk_iload X dX11_nearest_26 4 rfl ?_
  refine wk_aload_n X dX11_nearest_28 0 rfl ?_
  refine wk_getI X dX11_nearest_29 fo_X11_251 hf (fun v1 hf => ?_)
  refine wk_icmp_ge X 71 dX11_nearest_32 (by decide) hf (fun hf => ?_) (fun hf => ?_)
  · exact wq_sub [0, 1, 2, 3] rfl (w_X11_nearest_71 X k13 hk13 _ _ _ _ _ hf)
  · refine wk_aload_n X dX11_nearest_35 0 rfl ?_
    refine wk_iload_n X dX11_nearest_36 3 rfl ?_
    refine wk_iload X dX11_nearest_37 4 rfl ?_
    refine wk_callVi X [.int x3, .int x4] [] dX11_nearest_39 rfl vo_X11_359 rfl (by decide) (Nat.le_of_ble_eq_true rfl) hf (c_X11_farOf l _ _ _ _) (fun r2 hf => ?_)
    refine wk_iload_n X dX11_nearest_42 2 rfl ?_
    refine wk_icmp_lt X 49 dX11_nearest_43 (by decide) hf (fun hf => ?_) (fun hf => ?_)
    · refine wk_bipush X dX11_nearest_49 ib_10 ?_
      refine wk_iload_n X dX11_nearest_51 3 rfl ?_
      refine wk_imul X dX11_nearest_52 ?_
      refine wk_iload X dX11_nearest_53 4 rfl ?_
      refine wk_iadd X dX11_nearest_55 ?_
      refine wk_istore_n (lv' := [(1, .int ((10 * x3) + x4)), (0, .ref x0), (2, .int x2), (3, .int x3), (4, .int x4)]) X dX11_nearest_56 (by decide) rfl ?_
      refine wk_aload_n X dX11_nearest_57 1 rfl ?_
      refine wk_iload_n X dX11_nearest_58 3 rfl ?_
      refine wk_iload X dX11_nearest_59 4 rfl ?_
      refine wk_callVi X [.int x3, .int x4] [] dX11_nearest_61 rfl vo_X11_359 rfl (by decide) (Nat.le_of_ble_eq_true rfl) hf (c_X11_farOf l _ _ _ _) (fun r3 hf => ?_)
      refine wk_istore_n (lv' := [(2, .int r3.1), (1, .int ((10 * x3) + x4)), (0, .ref x0), (3, .int x3), (4, .int x4)]) X dX11_nearest_64 (by decide) rfl ?_
      exact wq_sub [2, 1, 0, 3, 4] rfl (w_X11_nearest_65 X k13 hk13 k26 hk26 _ _ _ _ _ _ hf)
    · refine wk_goto X 65 dX11_nearest_46 (by decide) ?_
      exact wq_sub [0, 1, 2, 3, 4] rfl (w_X11_nearest_65 X k13 hk13 k26 hk26 _ _ _ _ _ _ hf)
def l_X11_nearest_26 (k13 : Nat → Int32 → Int32 → Int32 → hp_H → Option (Int32 × hp_H)) (x0 : Nat) (x1 : Int32) (x2 : Int32) (x3 : Int32) (x4 : Int32) (h : hp_H) : Option (Int32 × hp_H) := lp (fun k (s : Nat × Int32 × Int32 × Int32 × Int32 × hp_H) => f_X11_nearest_26 k13 (fun a0 a1 a2 a3 a4 a5 => k (a0, a1, a2, a3, a4, a5)) s.1 s.2.1 s.2.2.1 s.2.2.2.1 s.2.2.2.2.1 s.2.2.2.2.2) 100000 (x0, x1, x2, x3, x4, h)
theorem wl_X11_nearest_26 (X : wx G p s m args meth c cX11_nearest 5 RX11 (some .int)) (k13 : Nat → Int32 → Int32 → Int32 → hp_H → Option (Int32 × hp_H)) (hk13 : ∀ (x0 : Nat) (x1 : Int32) (x2 : Int32) (x3 : Int32) (h : hp_H), k13 x0 x1 x2 x3 h = some o → wq p l e (mt_R (3) 0 0) s m args below meth c (MQ below (mt_Q G (some (.int o.1)) o.2) args s 0 0 (hp_A G)) G 5 0 0 13 [(0, .ref x0), (1, .int x1), (2, .int x2), (3, .int x3)] [] h) (x0 : Nat) (x1 : Int32) (x2 : Int32) (x3 : Int32) (x4 : Int32) (h : hp_H) (hf : l_X11_nearest_26 k13 x0 x1 x2 x3 x4 h = some o) : wq p l e (mt_R (3) 0 0) s m args below meth c (MQ below (mt_Q G (some (.int o.1)) o.2) args s 0 0 (hp_A G)) G 5 0 0 26 [(0, .ref x0), (1, .int x1), (2, .int x2), (3, .int x3), (4, .int x4)] [] h :=
  lp_ind (P := fun (s_ : Nat × Int32 × Int32 × Int32 × Int32 × hp_H) => wq p l e (mt_R (3) 0 0) s m args below meth c (MQ below (mt_Q G (some (.int o.1)) o.2) args s 0 0 (hp_A G)) G 5 0 0 26 [(0, .ref s_.1), (1, .int s_.2.1), (2, .int s_.2.2.1), (3, .int s_.2.2.2.1), (4, .int s_.2.2.2.2.1)] [] s_.2.2.2.2.2) (fun k s hk hf => w_X11_nearest_26 X k13 hk13 (fun a0 a1 a2 a3 a4 a5 => k (a0, a1, a2, a3, a4, a5)) (fun a0 a1 a2 a3 a4 a5 hf => hk (a0, a1, a2, a3, a4, a5) hf) s.1 s.2.1 s.2.2.1 s.2.2.2.1 s.2.2.2.2.1 s.2.2.2.2.2 hf) 100000 (x0, x1, x2, x3, x4, h) hf
def f_X11_nearest_13 (k13 : Nat → Int32 → Int32 → Int32 → hp_H → Option (Int32 × hp_H)) (x0 : Nat) (x1 : Int32) (x2 : Int32) (x3 : Int32) (h : hp_H) : Option (Int32 × hp_H) := (rd_I h x0 11 2).bind fun v1 => if v1 ≤ x3 then (f_X11_nearest_77 x1 h) else (l_X11_nearest_26 k13 x0 x1 x2 x3 (x3 + 1) h)
set_option maxRecDepth 20000 in
theorem w_X11_nearest_13 (X : wx G p s m args meth c cX11_nearest 5 RX11 (some .int)) (k13 : Nat → Int32 → Int32 → Int32 → hp_H → Option (Int32 × hp_H)) (hk13 : ∀ (x0 : Nat) (x1 : Int32) (x2 : Int32) (x3 : Int32) (h : hp_H), k13 x0 x1 x2 x3 h = some o → wq p l e (mt_R (3) 0 0) s m args below meth c (MQ below (mt_Q G (some (.int o.1)) o.2) args s 0 0 (hp_A G)) G 5 0 0 13 [(0, .ref x0), (1, .int x1), (2, .int x2), (3, .int x3)] [] h) (x0 : Nat) (x1 : Int32) (x2 : Int32) (x3 : Int32) (h : hp_H) (hf : f_X11_nearest_13 k13 x0 x1 x2 x3 h = some o) : wq p l e (mt_R (3) 0 0) s m args below meth c (MQ below (mt_Q G (some (.int o.1)) o.2) args s 0 0 (hp_A G)) G 5 0 0 13 [(0, .ref x0), (1, .int x1), (2, .int x2), (3, .int x3)] [] h := by
  unfold f_X11_nearest_13 at hf
  refine wk_iload_n X dX11_nearest_13 3 rfl ?_
  refine wk_aload_n X dX11_nearest_14 0 rfl ?_
  refine wk_getI X dX11_nearest_15 fo_X11_251 hf (fun v1 hf => ?_)
  refine wk_icmp_ge X 77 dX11_nearest_18 (by decide) hf (fun hf => ?_) (fun hf => ?_)
  · exact wq_sub [1] rfl (w_X11_nearest_77 X _ _ hf)
  · refine wk_iload_n X dX11_nearest_21 3 rfl ?_
    refine wk_iconst X dX11_nearest_22 ic_1 ?_
    refine wk_iadd X dX11_nearest_23 ?_
    refine wk_istore (lv' := [(4, .int (x3 + 1)), (0, .ref x0), (1, .int x1), (2, .int x2), (3, .int x3)]) X dX11_nearest_24 (by decide) rfl ?_
    exact wq_sub [1, 2, 3, 4, 0] rfl (wl_X11_nearest_26 X k13 hk13 _ _ _ _ _ _ hf)
def l_X11_nearest_13 (x0 : Nat) (x1 : Int32) (x2 : Int32) (x3 : Int32) (h : hp_H) : Option (Int32 × hp_H) := lp (fun k (s : Nat × Int32 × Int32 × Int32 × hp_H) => f_X11_nearest_13  (fun a0 a1 a2 a3 a4 => k (a0, a1, a2, a3, a4)) s.1 s.2.1 s.2.2.1 s.2.2.2.1 s.2.2.2.2) 100000 (x0, x1, x2, x3, h)
theorem wl_X11_nearest_13 (X : wx G p s m args meth c cX11_nearest 5 RX11 (some .int)) (x0 : Nat) (x1 : Int32) (x2 : Int32) (x3 : Int32) (h : hp_H) (hf : l_X11_nearest_13 x0 x1 x2 x3 h = some o) : wq p l e (mt_R (3) 0 0) s m args below meth c (MQ below (mt_Q G (some (.int o.1)) o.2) args s 0 0 (hp_A G)) G 5 0 0 13 [(0, .ref x0), (1, .int x1), (2, .int x2), (3, .int x3)] [] h :=
  lp_ind (P := fun (s_ : Nat × Int32 × Int32 × Int32 × hp_H) => wq p l e (mt_R (3) 0 0) s m args below meth c (MQ below (mt_Q G (some (.int o.1)) o.2) args s 0 0 (hp_A G)) G 5 0 0 13 [(0, .ref s_.1), (1, .int s_.2.1), (2, .int s_.2.2.1), (3, .int s_.2.2.2.1)] [] s_.2.2.2.2) (fun k s hk hf => w_X11_nearest_13 X  (fun a0 a1 a2 a3 a4 => k (a0, a1, a2, a3, a4)) (fun a0 a1 a2 a3 a4 hf => hk (a0, a1, a2, a3, a4) hf) s.1 s.2.1 s.2.2.1 s.2.2.2.1 s.2.2.2.2 hf) 100000 (x0, x1, x2, x3, h) hf
end Sf_X11_nearest
def f_X11_nearest (x0 : Nat) (h : hp_H) : Option (Int32 × hp_H) := gd h x0 11 ((wr_I h x0 11 0 0).bind fun h1 => l_X11_nearest_13 x0 (-1) 99999 0 h1)
set_option maxRecDepth 20000 in
theorem c_X11_nearest (l : Launch) (x0 : Nat) (h : hp_H) (r : Int32 × hp_H) (hf : f_X11_nearest x0 h = some r) : cv l (3) yX11_nearest cX11_nearest 5 (some .int) 11 x0 [] h (some (.int r.1)) r.2 := by
  unfold f_X11_nearest at hf
  refine cv_of (lv := [(0, .ref x0)]) hf (by decide +kernel) (Nat.le_of_ble_eq_true rfl) rfl (fun hf p e s m args below meth c G X => ?_)
  refine wk_aload_n X dX11_nearest_0 0 rfl ?_
  refine wk_iconst X dX11_nearest_1 ic_0 ?_
  refine wk_putI X dX11_nearest_2 fo_X11_84 hf (fun h1 hf => ?_)
  refine wk_iconst X dX11_nearest_5 ic_m1 ?_
  refine wk_istore_n (lv' := [(1, .int (-1)), (0, .ref x0)]) X dX11_nearest_6 (by decide) rfl ?_
  refine wk_ldcw X dX11_nearest_7 mt_X11_362 ?_
  refine wk_istore_n (lv' := [(2, .int 99999), (1, .int (-1)), (0, .ref x0)]) X dX11_nearest_10 (by decide) rfl ?_
  refine wk_iconst X dX11_nearest_11 ic_0 ?_
  refine wk_istore_n (lv' := [(3, .int 0), (2, .int 99999), (1, .int (-1)), (0, .ref x0)]) X dX11_nearest_12 (by decide) rfl ?_
  exact wq_sub [3, 2, 1, 0] rfl (wl_X11_nearest_13 X _ _ _ _ _ hf)
section Sf_X11_apart
variable {p : Program} {l : Launch} {e : Env} {s : State} {m : MethodId} {args : Array Value} {below : List Frame} {meth : Method} {c : Code} {G : hp_G} {o : Int32 × hp_H}
def f_X11_apart_147 (x2 : Int32) (h : hp_H) : Option (Int32 × hp_H) := some (x2, h)
set_option maxRecDepth 20000 in
theorem w_X11_apart_147 (X : wx G p s m args meth c cX11_apart 7 RX11 (some .int)) (x2 : Int32) (h : hp_H) (hf : f_X11_apart_147 x2 h = some o) : wq p l e (mt_R (3) 0 0) s m args below meth c (MQ below (mt_Q G (some (.int o.1)) o.2) args s 0 0 (hp_A G)) G 7 0 0 147 [(2, .int x2)] [] h := by
  unfold f_X11_apart_147 at hf
  refine wk_iload_n X dX11_apart_147 0 rfl ?_
  exact wk_ireturn X dX11_apart_148 hf
def f_X11_apart_141 (k26 : Nat → Int32 → Int32 → Int32 → hp_H → Option (Int32 × hp_H)) (x0 : Nat) (x1 : Int32) (x2 : Int32) (x3 : Int32) (h : hp_H) : Option (Int32 × hp_H) := k26 x0 x1 x2 (x3 + 1) h
set_option maxRecDepth 20000 in
theorem w_X11_apart_141 (X : wx G p s m args meth c cX11_apart 7 RX11 (some .int)) (k26 : Nat → Int32 → Int32 → Int32 → hp_H → Option (Int32 × hp_H)) (hk26 : ∀ (x0 : Nat) (x1 : Int32) (x2 : Int32) (x3 : Int32) (h : hp_H), k26 x0 x1 x2 x3 h = some o → wq p l e (mt_R (3) 0 0) s m args below meth c (MQ below (mt_Q G (some (.int o.1)) o.2) args s 0 0 (hp_A G)) G 7 0 0 26 [(0, .ref x0), (1, .int x1), (2, .int x2), (3, .int x3)] [] h) (x0 : Nat) (x1 : Int32) (x2 : Int32) (x3 : Int32) (h : hp_H) (hf : f_X11_apart_141 k26 x0 x1 x2 x3 h = some o) : wq p l e (mt_R (3) 0 0) s m args below meth c (MQ below (mt_Q G (some (.int o.1)) o.2) args s 0 0 (hp_A G)) G 7 0 0 141 [(0, .ref x0), (1, .int x1), (2, .int x2), (3, .int x3)] [] h := by
  unfold f_X11_apart_141 at hf
  refine wk_iinc (lv' := [(3, .int (x3 + 1)), (0, .ref x0), (1, .int x1), (2, .int x2)]) X dX11_apart_141 3 rfl ic_1 (by decide) rfl ?_
  refine wk_goto X 26 dX11_apart_144 (by decide) ?_
  exact wq_sub [1, 2, 3, 0] rfl (hk26 _ _ _ _ _ hf)
def f_X11_apart_140 (k26 : Nat → Int32 → Int32 → Int32 → hp_H → Option (Int32 × hp_H)) (x0 : Nat) (x1 : Int32) (x3 : Int32) (t0 : Int32) (h : hp_H) : Option (Int32 × hp_H) := f_X11_apart_141 k26 x0 x1 t0 x3 h
set_option maxRecDepth 20000 in
theorem w_X11_apart_140 (X : wx G p s m args meth c cX11_apart 7 RX11 (some .int)) (k26 : Nat → Int32 → Int32 → Int32 → hp_H → Option (Int32 × hp_H)) (hk26 : ∀ (x0 : Nat) (x1 : Int32) (x2 : Int32) (x3 : Int32) (h : hp_H), k26 x0 x1 x2 x3 h = some o → wq p l e (mt_R (3) 0 0) s m args below meth c (MQ below (mt_Q G (some (.int o.1)) o.2) args s 0 0 (hp_A G)) G 7 0 0 26 [(0, .ref x0), (1, .int x1), (2, .int x2), (3, .int x3)] [] h) (x0 : Nat) (x1 : Int32) (x3 : Int32) (t0 : Int32) (h : hp_H) (hf : f_X11_apart_140 k26 x0 x1 x3 t0 h = some o) : wq p l e (mt_R (3) 0 0) s m args below meth c (MQ below (mt_Q G (some (.int o.1)) o.2) args s 0 0 (hp_A G)) G 7 0 0 140 [(0, .ref x0), (1, .int x1), (3, .int x3)] [.int t0] h := by
  unfold f_X11_apart_140 at hf
  refine wk_istore_n (lv' := [(2, .int t0), (0, .ref x0), (1, .int x1), (3, .int x3)]) X dX11_apart_140 (by decide) rfl ?_
  exact wq_sub [1, 2, 0, 3] rfl (w_X11_apart_141 X k26 hk26 _ _ _ _ _ hf)
def f_X11_apart_130 (k26 : Nat → Int32 → Int32 → Int32 → hp_H → Option (Int32 × hp_H)) (x0 : Nat) (x1 : Int32) (x2 : Int32) (x3 : Int32) (x4 : Int32) (h : hp_H) : Option (Int32 × hp_H) := if x4 = 0 then (f_X11_apart_140 k26 x0 x1 x3 x2 h) else (f_X11_apart_140 k26 x0 x1 x3 x3 h)
set_option maxRecDepth 20000 in
theorem w_X11_apart_130 (X : wx G p s m args meth c cX11_apart 7 RX11 (some .int)) (k26 : Nat → Int32 → Int32 → Int32 → hp_H → Option (Int32 × hp_H)) (hk26 : ∀ (x0 : Nat) (x1 : Int32) (x2 : Int32) (x3 : Int32) (h : hp_H), k26 x0 x1 x2 x3 h = some o → wq p l e (mt_R (3) 0 0) s m args below meth c (MQ below (mt_Q G (some (.int o.1)) o.2) args s 0 0 (hp_A G)) G 7 0 0 26 [(0, .ref x0), (1, .int x1), (2, .int x2), (3, .int x3)] [] h) (x0 : Nat) (x1 : Int32) (x2 : Int32) (x3 : Int32) (x4 : Int32) (h : hp_H) (hf : f_X11_apart_130 k26 x0 x1 x2 x3 x4 h = some o) : wq p l e (mt_R (3) 0 0) s m args below meth c (MQ below (mt_Q G (some (.int o.1)) o.2) args s 0 0 (hp_A G)) G 7 0 0 130 [(0, .ref x0), (1, .int x1), (2, .int x2), (3, .int x3), (4, .int x4)] [] h := by
  unfold f_X11_apart_130 at hf
  refine wk_iload X dX11_apart_130 4 rfl ?_
  refine wk_if_eq X 139 dX11_apart_132 (by decide) hf (fun hf => ?_) (fun hf => ?_)
  · refine wk_iload_n X dX11_apart_139 2 rfl ?_
    exact wq_sub [0, 1, 3] rfl (w_X11_apart_140 X k26 hk26 _ _ _ _ _ hf)
  · refine wk_iload_n X dX11_apart_135 3 rfl ?_
    refine wk_goto X 140 dX11_apart_136 (by decide) ?_
    exact wq_sub [0, 1, 3] rfl (w_X11_apart_140 X k26 hk26 _ _ _ _ _ hf)
def f_X11_apart_124 (k26 : Nat → Int32 → Int32 → Int32 → hp_H → Option (Int32 × hp_H)) (k56 : Nat → Int32 → Int32 → Int32 → Int32 → Int32 → hp_H → Option (Int32 × hp_H)) (x0 : Nat) (x1 : Int32) (x2 : Int32) (x3 : Int32) (x4 : Int32) (x5 : Int32) (h : hp_H) : Option (Int32 × hp_H) := k56 x0 x1 x2 x3 x4 (x5 + 1) h
set_option maxRecDepth 20000 in
theorem w_X11_apart_124 (X : wx G p s m args meth c cX11_apart 7 RX11 (some .int)) (k26 : Nat → Int32 → Int32 → Int32 → hp_H → Option (Int32 × hp_H)) (hk26 : ∀ (x0 : Nat) (x1 : Int32) (x2 : Int32) (x3 : Int32) (h : hp_H), k26 x0 x1 x2 x3 h = some o → wq p l e (mt_R (3) 0 0) s m args below meth c (MQ below (mt_Q G (some (.int o.1)) o.2) args s 0 0 (hp_A G)) G 7 0 0 26 [(0, .ref x0), (1, .int x1), (2, .int x2), (3, .int x3)] [] h) (k56 : Nat → Int32 → Int32 → Int32 → Int32 → Int32 → hp_H → Option (Int32 × hp_H)) (hk56 : ∀ (x0 : Nat) (x1 : Int32) (x2 : Int32) (x3 : Int32) (x4 : Int32) (x5 : Int32) (h : hp_H), k56 x0 x1 x2 x3 x4 x5 h = some o → wq p l e (mt_R (3) 0 0) s m args below meth c (MQ below (mt_Q G (some (.int o.1)) o.2) args s 0 0 (hp_A G)) G 7 0 0 56 [(0, .ref x0), (1, .int x1), (2, .int x2), (3, .int x3), (4, .int x4), (5, .int x5)] [] h) (x0 : Nat) (x1 : Int32) (x2 : Int32) (x3 : Int32) (x4 : Int32) (x5 : Int32) (h : hp_H) (hf : f_X11_apart_124 k26 k56 x0 x1 x2 x3 x4 x5 h = some o) : wq p l e (mt_R (3) 0 0) s m args below meth c (MQ below (mt_Q G (some (.int o.1)) o.2) args s 0 0 (hp_A G)) G 7 0 0 124 [(0, .ref x0), (1, .int x1), (2, .int x2), (3, .int x3), (4, .int x4), (5, .int x5)] [] h := by
  unfold f_X11_apart_124 at hf
  refine wk_iinc (lv' := [(5, .int (x5 + 1)), (0, .ref x0), (1, .int x1), (2, .int x2), (3, .int x3), (4, .int x4)]) X dX11_apart_124 5 rfl ic_1 (by decide) rfl ?_
  refine wk_goto X 56 dX11_apart_127 (by decide) ?_
  exact wq_sub [1, 2, 3, 4, 5, 0] rfl (hk56 _ _ _ _ _ _ _ hf)
def f_X11_apart_116 (k26 : Nat → Int32 → Int32 → Int32 → hp_H → Option (Int32 × hp_H)) (k56 : Nat → Int32 → Int32 → Int32 → Int32 → Int32 → hp_H → Option (Int32 × hp_H)) (k73 : Nat → Int32 → Int32 → Int32 → Int32 → Int32 → Int32 → hp_H → Option (Int32 × hp_H)) (x0 : Nat) (x1 : Int32) (x2 : Int32) (x3 : Int32) (x5 : Int32) (x6 : Int32) (t0 : Int32) (h : hp_H) : Option (Int32 × hp_H) := k73 x0 x1 x2 x3 t0 x5 (x6 + 1) h
set_option maxRecDepth 20000 in
theorem w_X11_apart_116 (X : wx G p s m args meth c cX11_apart 7 RX11 (some .int)) (k26 : Nat → Int32 → Int32 → Int32 → hp_H → Option (Int32 × hp_H)) (hk26 : ∀ (x0 : Nat) (x1 : Int32) (x2 : Int32) (x3 : Int32) (h : hp_H), k26 x0 x1 x2 x3 h = some o → wq p l e (mt_R (3) 0 0) s m args below meth c (MQ below (mt_Q G (some (.int o.1)) o.2) args s 0 0 (hp_A G)) G 7 0 0 26 [(0, .ref x0), (1, .int x1), (2, .int x2), (3, .int x3)] [] h) (k56 : Nat → Int32 → Int32 → Int32 → Int32 → Int32 → hp_H → Option (Int32 × hp_H)) (hk56 : ∀ (x0 : Nat) (x1 : Int32) (x2 : Int32) (x3 : Int32) (x4 : Int32) (x5 : Int32) (h : hp_H), k56 x0 x1 x2 x3 x4 x5 h = some o → wq p l e (mt_R (3) 0 0) s m args below meth c (MQ below (mt_Q G (some (.int o.1)) o.2) args s 0 0 (hp_A G)) G 7 0 0 56 [(0, .ref x0), (1, .int x1), (2, .int x2), (3, .int x3), (4, .int x4), (5, .int x5)] [] h) (k73 : Nat → Int32 → Int32 → Int32 → Int32 → Int32 → Int32 → hp_H → Option (Int32 × hp_H)) (hk73 : ∀ (x0 : Nat) (x1 : Int32) (x2 : Int32) (x3 : Int32) (x4 : Int32) (x5 : Int32) (x6 : Int32) (h : hp_H), k73 x0 x1 x2 x3 x4 x5 x6 h = some o → wq p l e (mt_R (3) 0 0) s m args below meth c (MQ below (mt_Q G (some (.int o.1)) o.2) args s 0 0 (hp_A G)) G 7 0 0 73 [(0, .ref x0), (1, .int x1), (2, .int x2), (3, .int x3), (4, .int x4), (5, .int x5), (6, .int x6)] [] h) (x0 : Nat) (x1 : Int32) (x2 : Int32) (x3 : Int32) (x5 : Int32) (x6 : Int32) (t0 : Int32) (h : hp_H) (hf : f_X11_apart_116 k26 k56 k73 x0 x1 x2 x3 x5 x6 t0 h = some o) : wq p l e (mt_R (3) 0 0) s m args below meth c (MQ below (mt_Q G (some (.int o.1)) o.2) args s 0 0 (hp_A G)) G 7 0 0 116 [(0, .ref x0), (1, .int x1), (2, .int x2), (3, .int x3), (5, .int x5), (6, .int x6)] [.int t0] h := by
  unfold f_X11_apart_116 at hf
  refine wk_istore (lv' := [(4, .int t0), (0, .ref x0), (1, .int x1), (2, .int x2), (3, .int x3), (5, .int x5), (6, .int x6)]) X dX11_apart_116 (by decide) rfl ?_
  refine wk_iinc (lv' := [(6, .int (x6 + 1)), (4, .int t0), (0, .ref x0), (1, .int x1), (2, .int x2), (3, .int x3), (5, .int x5)]) X dX11_apart_118 6 rfl ic_1 (by decide) rfl ?_
  refine wk_goto X 73 dX11_apart_121 (by decide) ?_
  exact wq_sub [2, 3, 4, 5, 1, 6, 0] rfl (hk73 _ _ _ _ _ _ _ _ hf)
def f_X11_apart_115 (k26 : Nat → Int32 → Int32 → Int32 → hp_H → Option (Int32 × hp_H)) (k56 : Nat → Int32 → Int32 → Int32 → Int32 → Int32 → hp_H → Option (Int32 × hp_H)) (k73 : Nat → Int32 → Int32 → Int32 → Int32 → Int32 → Int32 → hp_H → Option (Int32 × hp_H)) (x0 : Nat) (x1 : Int32) (x2 : Int32) (x3 : Int32) (x5 : Int32) (x6 : Int32) (h : hp_H) : Option (Int32 × hp_H) := f_X11_apart_116 k26 k56 k73 x0 x1 x2 x3 x5 x6 0 h
set_option maxRecDepth 20000 in
theorem w_X11_apart_115 (X : wx G p s m args meth c cX11_apart 7 RX11 (some .int)) (k26 : Nat → Int32 → Int32 → Int32 → hp_H → Option (Int32 × hp_H)) (hk26 : ∀ (x0 : Nat) (x1 : Int32) (x2 : Int32) (x3 : Int32) (h : hp_H), k26 x0 x1 x2 x3 h = some o → wq p l e (mt_R (3) 0 0) s m args below meth c (MQ below (mt_Q G (some (.int o.1)) o.2) args s 0 0 (hp_A G)) G 7 0 0 26 [(0, .ref x0), (1, .int x1), (2, .int x2), (3, .int x3)] [] h) (k56 : Nat → Int32 → Int32 → Int32 → Int32 → Int32 → hp_H → Option (Int32 × hp_H)) (hk56 : ∀ (x0 : Nat) (x1 : Int32) (x2 : Int32) (x3 : Int32) (x4 : Int32) (x5 : Int32) (h : hp_H), k56 x0 x1 x2 x3 x4 x5 h = some o → wq p l e (mt_R (3) 0 0) s m args below meth c (MQ below (mt_Q G (some (.int o.1)) o.2) args s 0 0 (hp_A G)) G 7 0 0 56 [(0, .ref x0), (1, .int x1), (2, .int x2), (3, .int x3), (4, .int x4), (5, .int x5)] [] h) (k73 : Nat → Int32 → Int32 → Int32 → Int32 → Int32 → Int32 → hp_H → Option (Int32 × hp_H)) (hk73 : ∀ (x0 : Nat) (x1 : Int32) (x2 : Int32) (x3 : Int32) (x4 : Int32) (x5 : Int32) (x6 : Int32) (h : hp_H), k73 x0 x1 x2 x3 x4 x5 x6 h = some o → wq p l e (mt_R (3) 0 0) s m args below meth c (MQ below (mt_Q G (some (.int o.1)) o.2) args s 0 0 (hp_A G)) G 7 0 0 73 [(0, .ref x0), (1, .int x1), (2, .int x2), (3, .int x3), (4, .int x4), (5, .int x5), (6, .int x6)] [] h) (x0 : Nat) (x1 : Int32) (x2 : Int32) (x3 : Int32) (x5 : Int32) (x6 : Int32) (h : hp_H) (hf : f_X11_apart_115 k26 k56 k73 x0 x1 x2 x3 x5 x6 h = some o) : wq p l e (mt_R (3) 0 0) s m args below meth c (MQ below (mt_Q G (some (.int o.1)) o.2) args s 0 0 (hp_A G)) G 7 0 0 115 [(0, .ref x0), (1, .int x1), (2, .int x2), (3, .int x3), (5, .int x5), (6, .int x6)] [] h := by
  unfold f_X11_apart_115 at hf
  refine wk_iconst X dX11_apart_115 ic_0 ?_
  exact wq_sub [0, 1, 2, 3, 4, 5] rfl (w_X11_apart_116 X k26 hk26 k56 hk56 k73 hk73 _ _ _ _ _ _ _ _ hf)
def f_X11_apart_111 (k26 : Nat → Int32 → Int32 → Int32 → hp_H → Option (Int32 × hp_H)) (k56 : Nat → Int32 → Int32 → Int32 → Int32 → Int32 → hp_H → Option (Int32 × hp_H)) (k73 : Nat → Int32 → Int32 → Int32 → Int32 → Int32 → Int32 → hp_H → Option (Int32 × hp_H)) (x0 : Nat) (x1 : Int32) (x2 : Int32) (x3 : Int32) (x5 : Int32) (x6 : Int32) (h : hp_H) : Option (Int32 × hp_H) := f_X11_apart_116 k26 k56 k73 x0 x1 x2 x3 x5 x6 1 h
set_option maxRecDepth 20000 in
theorem w_X11_apart_111 (X : wx G p s m args meth c cX11_apart 7 RX11 (some .int)) (k26 : Nat → Int32 → Int32 → Int32 → hp_H → Option (Int32 × hp_H)) (hk26 : ∀ (x0 : Nat) (x1 : Int32) (x2 : Int32) (x3 : Int32) (h : hp_H), k26 x0 x1 x2 x3 h = some o → wq p l e (mt_R (3) 0 0) s m args below meth c (MQ below (mt_Q G (some (.int o.1)) o.2) args s 0 0 (hp_A G)) G 7 0 0 26 [(0, .ref x0), (1, .int x1), (2, .int x2), (3, .int x3)] [] h) (k56 : Nat → Int32 → Int32 → Int32 → Int32 → Int32 → hp_H → Option (Int32 × hp_H)) (hk56 : ∀ (x0 : Nat) (x1 : Int32) (x2 : Int32) (x3 : Int32) (x4 : Int32) (x5 : Int32) (h : hp_H), k56 x0 x1 x2 x3 x4 x5 h = some o → wq p l e (mt_R (3) 0 0) s m args below meth c (MQ below (mt_Q G (some (.int o.1)) o.2) args s 0 0 (hp_A G)) G 7 0 0 56 [(0, .ref x0), (1, .int x1), (2, .int x2), (3, .int x3), (4, .int x4), (5, .int x5)] [] h) (k73 : Nat → Int32 → Int32 → Int32 → Int32 → Int32 → Int32 → hp_H → Option (Int32 × hp_H)) (hk73 : ∀ (x0 : Nat) (x1 : Int32) (x2 : Int32) (x3 : Int32) (x4 : Int32) (x5 : Int32) (x6 : Int32) (h : hp_H), k73 x0 x1 x2 x3 x4 x5 x6 h = some o → wq p l e (mt_R (3) 0 0) s m args below meth c (MQ below (mt_Q G (some (.int o.1)) o.2) args s 0 0 (hp_A G)) G 7 0 0 73 [(0, .ref x0), (1, .int x1), (2, .int x2), (3, .int x3), (4, .int x4), (5, .int x5), (6, .int x6)] [] h) (x0 : Nat) (x1 : Int32) (x2 : Int32) (x3 : Int32) (x5 : Int32) (x6 : Int32) (h : hp_H) (hf : f_X11_apart_111 k26 k56 k73 x0 x1 x2 x3 x5 x6 h = some o) : wq p l e (mt_R (3) 0 0) s m args below meth c (MQ below (mt_Q G (some (.int o.1)) o.2) args s 0 0 (hp_A G)) G 7 0 0 111 [(0, .ref x0), (1, .int x1), (2, .int x2), (3, .int x3), (5, .int x5), (6, .int x6)] [] h := by
  unfold f_X11_apart_111 at hf
  refine wk_iconst X dX11_apart_111 ic_1 ?_
  refine wk_goto X 116 dX11_apart_112 (by decide) ?_
  exact wq_sub [0, 1, 2, 3, 4, 5] rfl (w_X11_apart_116 X k26 hk26 k56 hk56 k73 hk73 _ _ _ _ _ _ _ _ hf)
def f_X11_apart_73 (k26 : Nat → Int32 → Int32 → Int32 → hp_H → Option (Int32 × hp_H)) (k56 : Nat → Int32 → Int32 → Int32 → Int32 → Int32 → hp_H → Option (Int32 × hp_H)) (k73 : Nat → Int32 → Int32 → Int32 → Int32 → Int32 → Int32 → hp_H → Option (Int32 × hp_H)) (x0 : Nat) (x1 : Int32) (x2 : Int32) (x3 : Int32) (x4 : Int32) (x5 : Int32) (x6 : Int32) (h : hp_H) : Option (Int32 × hp_H) := if x5 ≤ x6 then (f_X11_apart_124 k26 k56 x0 x1 x2 x3 x4 x5 h) else (if x4 = 0 then (f_X11_apart_115 k26 k56 k73 x0 x1 x2 x3 x5 x6 h) else (if (((x3 >>> (x5 &&& 31)) &&& (x3 >>> (x6 &&& 31))) &&& (1 : Int32)) = 0 then (f_X11_apart_111 k26 k56 k73 x0 x1 x2 x3 x5 x6 h) else ((f_X11_farOf x0 x5 x6 h).bind fun r1 => if r1.1 < x1 then (f_X11_apart_115 k26 k56 k73 x0 x1 x2 x3 x5 x6 r1.2) else (f_X11_apart_111 k26 k56 k73 x0 x1 x2 x3 x5 x6 r1.2))))
set_option maxRecDepth 20000 in
theorem w_X11_apart_73 (X : wx G p s m args meth c cX11_apart 7 RX11 (some .int)) (k26 : Nat → Int32 → Int32 → Int32 → hp_H → Option (Int32 × hp_H)) (hk26 : ∀ (x0 : Nat) (x1 : Int32) (x2 : Int32) (x3 : Int32) (h : hp_H), k26 x0 x1 x2 x3 h = some o → wq p l e (mt_R (3) 0 0) s m args below meth c (MQ below (mt_Q G (some (.int o.1)) o.2) args s 0 0 (hp_A G)) G 7 0 0 26 [(0, .ref x0), (1, .int x1), (2, .int x2), (3, .int x3)] [] h) (k56 : Nat → Int32 → Int32 → Int32 → Int32 → Int32 → hp_H → Option (Int32 × hp_H)) (hk56 : ∀ (x0 : Nat) (x1 : Int32) (x2 : Int32) (x3 : Int32) (x4 : Int32) (x5 : Int32) (h : hp_H), k56 x0 x1 x2 x3 x4 x5 h = some o → wq p l e (mt_R (3) 0 0) s m args below meth c (MQ below (mt_Q G (some (.int o.1)) o.2) args s 0 0 (hp_A G)) G 7 0 0 56 [(0, .ref x0), (1, .int x1), (2, .int x2), (3, .int x3), (4, .int x4), (5, .int x5)] [] h) (k73 : Nat → Int32 → Int32 → Int32 → Int32 → Int32 → Int32 → hp_H → Option (Int32 × hp_H)) (hk73 : ∀ (x0 : Nat) (x1 : Int32) (x2 : Int32) (x3 : Int32) (x4 : Int32) (x5 : Int32) (x6 : Int32) (h : hp_H), k73 x0 x1 x2 x3 x4 x5 x6 h = some o → wq p l e (mt_R (3) 0 0) s m args below meth c (MQ below (mt_Q G (some (.int o.1)) o.2) args s 0 0 (hp_A G)) G 7 0 0 73 [(0, .ref x0), (1, .int x1), (2, .int x2), (3, .int x3), (4, .int x4), (5, .int x5), (6, .int x6)] [] h) (x0 : Nat) (x1 : Int32) (x2 : Int32) (x3 : Int32) (x4 : Int32) (x5 : Int32) (x6 : Int32) (h : hp_H) (hf : f_X11_apart_73 k26 k56 k73 x0 x1 x2 x3 x4 x5 x6 h = some o) : wq p l e (mt_R (3) 0 0) s m args below meth c (MQ below (mt_Q G (some (.int o.1)) o.2) args s 0 0 (hp_A G)) G 7 0 0 73 [(0, .ref x0), (1, .int x1), (2, .int x2), (3, .int x3), (4, .int x4), (5, .int x5), (6, .int x6)] [] h := by
  unfold f_X11_apart_73 at hf
  refine wk_iload X dX11_apart_73 6 rfl ?_
  refine wk_iload X dX11_apart_75 5 rfl ?_
  refine wk_icmp_ge X 124 dX11_apart_77 (by decide) hf (fun hf => ?_) (fun hf => ?_)
  · exact wq_sub [0, 1, 2, 3, 4, 5] rfl (w_X11_apart_124 X k26 hk26 k56 hk56 _ _ _ _ _ _ _ hf)
  · refine wk_iload X dX11_apart_80 4 rfl ?_
    refine wk_if_eq X 115 dX11_apart_82 (by decide) hf (fun hf => ?_) (fun hf => ?_)
    · exact wq_sub [0, 1, 2, 3, 5, 6] rfl (w_X11_apart_115 X k26 hk26 k56 hk56 k73 hk73 _ _ _ _ _ _ _ hf)
    · refine wk_iload_n X dX11_apart_85 3 rfl ?_
      refine wk_iload X dX11_apart_86 5 rfl ?_
      refine wk_ishr X dX11_apart_88 ?_
      refine wk_iload_n X dX11_apart_89 3 rfl ?_
      refine wk_iload X dX11_apart_90 6 rfl ?_
      refine wk_ishr X dX11_apart_92 ?_
      refine wk_iand X dX11_apart_93 ?_
      refine wk_iconst X dX11_apart_94 ic_1 ?_
      refine wk_iand X dX11_apart_95 ?_
      refine wk_if_eq X 111 dX11_apart_96 (by decide) hf (fun hf => ?_) (fun hf => ?_)
      · exact wq_sub [0, 1, 2, 3, 5, 6] rfl (w_X11_apart_111 X k26 hk26 k56 hk56 k73 hk73 _ _ _ _ _ _ _ hf)
      · refine wk_aload_n X dX11_apart_99 0 rfl ?_
        refine wk_iload X dX11_apart_100 5 rfl ?_
        refine wk_iload X dX11_apart_102 6 rfl ?_
        refine wk_callVi X [.int x5, .int x6] [] dX11_apart_104 rfl vo_X11_359 rfl (by decide) (Nat.le_of_ble_eq_true rfl) hf (c_X11_farOf l _ _ _ _) (fun r1 hf => ?_)
        refine wk_iload_n X dX11_apart_107 1 rfl ?_
        refine wk_icmp_lt X 115 dX11_apart_108 (by decide) hf (fun hf => ?_) (fun hf => ?_)
        · exact wq_sub [0, 1, 2, 3, 5, 6] rfl (w_X11_apart_115 X k26 hk26 k56 hk56 k73 hk73 _ _ _ _ _ _ _ hf)
        · exact wq_sub [0, 1, 2, 3, 5, 6] rfl (w_X11_apart_111 X k26 hk26 k56 hk56 k73 hk73 _ _ _ _ _ _ _ hf)
def l_X11_apart_73 (k26 : Nat → Int32 → Int32 → Int32 → hp_H → Option (Int32 × hp_H)) (k56 : Nat → Int32 → Int32 → Int32 → Int32 → Int32 → hp_H → Option (Int32 × hp_H)) (x0 : Nat) (x1 : Int32) (x2 : Int32) (x3 : Int32) (x4 : Int32) (x5 : Int32) (x6 : Int32) (h : hp_H) : Option (Int32 × hp_H) := lp (fun k (s : Nat × Int32 × Int32 × Int32 × Int32 × Int32 × Int32 × hp_H) => f_X11_apart_73 k26 k56 (fun a0 a1 a2 a3 a4 a5 a6 a7 => k (a0, a1, a2, a3, a4, a5, a6, a7)) s.1 s.2.1 s.2.2.1 s.2.2.2.1 s.2.2.2.2.1 s.2.2.2.2.2.1 s.2.2.2.2.2.2.1 s.2.2.2.2.2.2.2) 100000 (x0, x1, x2, x3, x4, x5, x6, h)
theorem wl_X11_apart_73 (X : wx G p s m args meth c cX11_apart 7 RX11 (some .int)) (k26 : Nat → Int32 → Int32 → Int32 → hp_H → Option (Int32 × hp_H)) (hk26 : ∀ (x0 : Nat) (x1 : Int32) (x2 : Int32) (x3 : Int32) (h : hp_H), k26 x0 x1 x2 x3 h = some o → wq p l e (mt_R (3) 0 0) s m args below meth c (MQ below (mt_Q G (some (.int o.1)) o.2) args s 0 0 (hp_A G)) G 7 0 0 26 [(0, .ref x0), (1, .int x1), (2, .int x2), (3, .int x3)] [] h) (k56 : Nat → Int32 → Int32 → Int32 → Int32 → Int32 → hp_H → Option (Int32 × hp_H)) (hk56 : ∀ (x0 : Nat) (x1 : Int32) (x2 : Int32) (x3 : Int32) (x4 : Int32) (x5 : Int32) (h : hp_H), k56 x0 x1 x2 x3 x4 x5 h = some o → wq p l e (mt_R (3) 0 0) s m args below meth c (MQ below (mt_Q G (some (.int o.1)) o.2) args s 0 0 (hp_A G)) G 7 0 0 56 [(0, .ref x0), (1, .int x1), (2, .int x2), (3, .int x3), (4, .int x4), (5, .int x5)] [] h) (x0 : Nat) (x1 : Int32) (x2 : Int32) (x3 : Int32) (x4 : Int32) (x5 : Int32) (x6 : Int32) (h : hp_H) (hf : l_X11_apart_73 k26 k56 x0 x1 x2 x3 x4 x5 x6 h = some o) : wq p l e (mt_R (3) 0 0) s m args below meth c (MQ below (mt_Q G (some (.int o.1)) o.2) args s 0 0 (hp_A G)) G 7 0 0 73 [(0, .ref x0), (1, .int x1), (2, .int x2), (3, .int x3), (4, .int x4), (5, .int x5), (6, .int x6)] [] h :=
  lp_ind (P := fun (s_ : Nat × Int32 × Int32 × Int32 × Int32 × Int32 × Int32 × hp_H) => wq p l e (mt_R (3) 0 0) s m args below meth c (MQ below (mt_Q G (some (.int o.1)) o.2) args s 0 0 (hp_A G)) G 7 0 0 73 [(0, .ref s_.1), (1, .int s_.2.1), (2, .int s_.2.2.1), (3, .int s_.2.2.2.1), (4, .int s_.2.2.2.2.1), (5, .int s_.2.2.2.2.2.1), (6, .int s_.2.2.2.2.2.2.1)] [] s_.2.2.2.2.2.2.2) (fun k s hk hf => w_X11_apart_73 X k26 hk26 k56 hk56 (fun a0 a1 a2 a3 a4 a5 a6 a7 => k (a0, a1, a2, a3, a4, a5, a6, a7)) (fun a0 a1 a2 a3 a4 a5 a6 a7 hf => hk (a0, a1, a2, a3, a4, a5, a6, a7) hf) s.1 s.2.1 s.2.2.1 s.2.2.2.1 s.2.2.2.2.1 s.2.2.2.2.2.1 s.2.2.2.2.2.2.1 s.2.2.2.2.2.2.2 hf) 100000 (x0, x1, x2, x3, x4, x5, x6, h) hf
def f_X11_apart_56 (k26 : Nat → Int32 → Int32 → Int32 → hp_H → Option (Int32 × hp_H)) (k56 : Nat → Int32 → Int32 → Int32 → Int32 → Int32 → hp_H → Option (Int32 × hp_H)) (x0 : Nat) (x1 : Int32) (x2 : Int32) (x3 : Int32) (x4 : Int32) (x5 : Int32) (h : hp_H) : Option (Int32 × hp_H) := (rd_I h x0 11 2).bind fun v1 => if v1 ≤ x5 then (f_X11_apart_130 k26 x0 x1 x2 x3 x4 h) else (if x4 = 0 then (f_X11_apart_130 k26 x0 x1 x2 x3 x4 h) else (l_X11_apart_73 k26 k56 x0 x1 x2 x3 x4 x5 0 h))
set_option maxRecDepth 20000 in
theorem w_X11_apart_56 (X : wx G p s m args meth c cX11_apart 7 RX11 (some .int)) (k26 : Nat → Int32 → Int32 → Int32 → hp_H → Option (Int32 × hp_H)) (hk26 : ∀ (x0 : Nat) (x1 : Int32) (x2 : Int32) (x3 : Int32) (h : hp_H), k26 x0 x1 x2 x3 h = some o → wq p l e (mt_R (3) 0 0) s m args below meth c (MQ below (mt_Q G (some (.int o.1)) o.2) args s 0 0 (hp_A G)) G 7 0 0 26 [(0, .ref x0), (1, .int x1), (2, .int x2), (3, .int x3)] [] h) (k56 : Nat → Int32 → Int32 → Int32 → Int32 → Int32 → hp_H → Option (Int32 × hp_H)) (hk56 : ∀ (x0 : Nat) (x1 : Int32) (x2 : Int32) (x3 : Int32) (x4 : Int32) (x5 : Int32) (h : hp_H), k56 x0 x1 x2 x3 x4 x5 h = some o → wq p l e (mt_R (3) 0 0) s m args below meth c (MQ below (mt_Q G (some (.int o.1)) o.2) args s 0 0 (hp_A G)) G 7 0 0 56 [(0, .ref x0), (1, .int x1), (2, .int x2), (3, .int x3), (4, .int x4), (5, .int x5)] [] h) (x0 : Nat) (x1 : Int32) (x2 : Int32) (x3 : Int32) (x4 : Int32) (x5 : Int32) (h : hp_H) (hf : f_X11_apart_56 k26 k56 x0 x1 x2 x3 x4 x5 h = some o) : wq p l e (mt_R (3) 0 0) s m args below meth c (MQ below (mt_Q G (some (.int o.1)) o.2) args s 0 0 (hp_A G)) G 7 0 0 56 [(0, .ref x0), (1, .int x1), (2, .int x2), (3, .int x3), (4, .int x4), (5, .int x5)] [] h := by
  unfold f_X11_apart_56 at hf
  refine wk_iload X dX11_apart_56 5 rfl ?_
  refine wk_aload_n X dX11_apart_58 0 rfl ?_
  refine wk_getI X dX11_apart_59 fo_X11_251 hf (fun v1 hf => ?_)
  refine wk_icmp_ge X 130 dX11_apart_62 (by decide) hf (fun hf => ?_) (fun hf => ?_)
  · exact wq_sub [0, 1, 2, 3, 4] rfl (w_X11_apart_130 X k26 hk26 _ _ _ _ _ _ hf)
  · refine wk_iload X dX11_apart_65 4 rfl ?_
    refine wk_if_eq X 130 dX11_apart_67 (by decide) hf (fun hf => ?_) (fun hf => ?_)
    · exact wq_sub [0, 1, 2, 3, 4] rfl (w_X11_apart_130 X k26 hk26 _ _ _ _ _ _ hf)
    · refine wk_iconst X dX11_apart_70 ic_0 ?_
      refine wk_istore (lv' := [(6, .int 0), (0, .ref x0), (1, .int x1), (2, .int x2), (3, .int x3), (4, .int x4), (5, .int x5)]) X dX11_apart_71 (by decide) rfl ?_
      exact wq_sub [1, 2, 3, 4, 5, 6, 0] rfl (wl_X11_apart_73 X k26 hk26 k56 hk56 _ _ _ _ _ _ _ _ hf)
def l_X11_apart_56 (k26 : Nat → Int32 → Int32 → Int32 → hp_H → Option (Int32 × hp_H)) (x0 : Nat) (x1 : Int32) (x2 : Int32) (x3 : Int32) (x4 : Int32) (x5 : Int32) (h : hp_H) : Option (Int32 × hp_H) := lp (fun k (s : Nat × Int32 × Int32 × Int32 × Int32 × Int32 × hp_H) => f_X11_apart_56 k26 (fun a0 a1 a2 a3 a4 a5 a6 => k (a0, a1, a2, a3, a4, a5, a6)) s.1 s.2.1 s.2.2.1 s.2.2.2.1 s.2.2.2.2.1 s.2.2.2.2.2.1 s.2.2.2.2.2.2) 100000 (x0, x1, x2, x3, x4, x5, h)
theorem wl_X11_apart_56 (X : wx G p s m args meth c cX11_apart 7 RX11 (some .int)) (k26 : Nat → Int32 → Int32 → Int32 → hp_H → Option (Int32 × hp_H)) (hk26 : ∀ (x0 : Nat) (x1 : Int32) (x2 : Int32) (x3 : Int32) (h : hp_H), k26 x0 x1 x2 x3 h = some o → wq p l e (mt_R (3) 0 0) s m args below meth c (MQ below (mt_Q G (some (.int o.1)) o.2) args s 0 0 (hp_A G)) G 7 0 0 26 [(0, .ref x0), (1, .int x1), (2, .int x2), (3, .int x3)] [] h) (x0 : Nat) (x1 : Int32) (x2 : Int32) (x3 : Int32) (x4 : Int32) (x5 : Int32) (h : hp_H) (hf : l_X11_apart_56 k26 x0 x1 x2 x3 x4 x5 h = some o) : wq p l e (mt_R (3) 0 0) s m args below meth c (MQ below (mt_Q G (some (.int o.1)) o.2) args s 0 0 (hp_A G)) G 7 0 0 56 [(0, .ref x0), (1, .int x1), (2, .int x2), (3, .int x3), (4, .int x4), (5, .int x5)] [] h :=
  lp_ind (P := fun (s_ : Nat × Int32 × Int32 × Int32 × Int32 × Int32 × hp_H) => wq p l e (mt_R (3) 0 0) s m args below meth c (MQ below (mt_Q G (some (.int o.1)) o.2) args s 0 0 (hp_A G)) G 7 0 0 56 [(0, .ref s_.1), (1, .int s_.2.1), (2, .int s_.2.2.1), (3, .int s_.2.2.2.1), (4, .int s_.2.2.2.2.1), (5, .int s_.2.2.2.2.2.1)] [] s_.2.2.2.2.2.2) (fun k s hk hf => w_X11_apart_56 X k26 hk26 (fun a0 a1 a2 a3 a4 a5 a6 => k (a0, a1, a2, a3, a4, a5, a6)) (fun a0 a1 a2 a3 a4 a5 a6 hf => hk (a0, a1, a2, a3, a4, a5, a6) hf) s.1 s.2.1 s.2.2.1 s.2.2.2.1 s.2.2.2.2.1 s.2.2.2.2.2.1 s.2.2.2.2.2.2 hf) 100000 (x0, x1, x2, x3, x4, x5, h) hf
def f_X11_apart_26 (k26 : Nat → Int32 → Int32 → Int32 → hp_H → Option (Int32 × hp_H)) (x0 : Nat) (x1 : Int32) (x2 : Int32) (x3 : Int32) (h : hp_H) : Option (Int32 × hp_H) := (rd_I h x0 11 2).bind fun v1 => if (1 <<< (v1 &&& 31)) ≤ x3 then (f_X11_apart_147 x2 h) else ((f_X11_bits x3 h).bind fun r2 => (f_X11_bits x2 r2.2).bind fun r3 => if r3.1 < r2.1 then (l_X11_apart_56 k26 x0 x1 x2 x3 1 0 r3.2) else (f_X11_apart_141 k26 x0 x1 x2 x3 r3.2))
set_option maxRecDepth 20000 in
theorem w_X11_apart_26 (X : wx G p s m args meth c cX11_apart 7 RX11 (some .int)) (k26 : Nat → Int32 → Int32 → Int32 → hp_H → Option (Int32 × hp_H)) (hk26 : ∀ (x0 : Nat) (x1 : Int32) (x2 : Int32) (x3 : Int32) (h : hp_H), k26 x0 x1 x2 x3 h = some o → wq p l e (mt_R (3) 0 0) s m args below meth c (MQ below (mt_Q G (some (.int o.1)) o.2) args s 0 0 (hp_A G)) G 7 0 0 26 [(0, .ref x0), (1, .int x1), (2, .int x2), (3, .int x3)] [] h) (x0 : Nat) (x1 : Int32) (x2 : Int32) (x3 : Int32) (h : hp_H) (hf : f_X11_apart_26 k26 x0 x1 x2 x3 h = some o) : wq p l e (mt_R (3) 0 0) s m args below meth c (MQ below (mt_Q G (some (.int o.1)) o.2) args s 0 0 (hp_A G)) G 7 0 0 26 [(0, .ref x0), (1, .int x1), (2, .int x2), (3, .int x3)] [] h := by
  unfold f_X11_apart_26 at hf
  refine wk_iload_n X dX11_apart_26 3 rfl ?_
  refine wk_iconst X dX11_apart_27 ic_1 ?_
  refine wk_aload_n X dX11_apart_28 0 rfl ?_
  refine wk_getI X dX11_apart_29 fo_X11_251 hf (fun v1 hf => ?_)
  refine wk_ishl X dX11_apart_32 ?_
  refine wk_icmp_ge X 147 dX11_apart_33 (by decide) hf (fun hf => ?_) (fun hf => ?_)
  · exact wq_sub [2] rfl (w_X11_apart_147 X _ _ hf)
  · refine wk_iload_n X dX11_apart_36 3 rfl ?_
    refine wk_callSi X [.int x3] [] dX11_apart_37 rfl vo_X11_284 rfl (by decide) (Nat.le_of_ble_eq_true rfl) hf (c_X11_bits l _ _) (fun r2 hf => ?_)
    refine wk_iload_n X dX11_apart_40 2 rfl ?_
    refine wk_callSi X [.int x2] [.int r2.1] dX11_apart_41 rfl vo_X11_284 rfl (by decide) (Nat.le_of_ble_eq_true rfl) hf (c_X11_bits l _ _) (fun r3 hf => ?_)
    refine wk_icmp_gt X 50 dX11_apart_44 (by decide) hf (fun hf => ?_) (fun hf => ?_)
    · refine wk_iconst X dX11_apart_50 ic_1 ?_
      refine wk_istore (lv' := [(4, .int 1), (0, .ref x0), (1, .int x1), (2, .int x2), (3, .int x3)]) X dX11_apart_51 (by decide) rfl ?_
      refine wk_iconst X dX11_apart_53 ic_0 ?_
      refine wk_istore (lv' := [(5, .int 0), (4, .int 1), (0, .ref x0), (1, .int x1), (2, .int x2), (3, .int x3)]) X dX11_apart_54 (by decide) rfl ?_
      exact wq_sub [2, 3, 4, 5, 1, 0] rfl (wl_X11_apart_56 X k26 hk26 _ _ _ _ _ _ _ hf)
    · refine wk_goto X 141 dX11_apart_47 (by decide) ?_
      exact wq_sub [0, 1, 2, 3] rfl (w_X11_apart_141 X k26 hk26 _ _ _ _ _ hf)
def l_X11_apart_26 (x0 : Nat) (x1 : Int32) (x2 : Int32) (x3 : Int32) (h : hp_H) : Option (Int32 × hp_H) := lp (fun k (s : Nat × Int32 × Int32 × Int32 × hp_H) => f_X11_apart_26  (fun a0 a1 a2 a3 a4 => k (a0, a1, a2, a3, a4)) s.1 s.2.1 s.2.2.1 s.2.2.2.1 s.2.2.2.2) 100000 (x0, x1, x2, x3, h)
theorem wl_X11_apart_26 (X : wx G p s m args meth c cX11_apart 7 RX11 (some .int)) (x0 : Nat) (x1 : Int32) (x2 : Int32) (x3 : Int32) (h : hp_H) (hf : l_X11_apart_26 x0 x1 x2 x3 h = some o) : wq p l e (mt_R (3) 0 0) s m args below meth c (MQ below (mt_Q G (some (.int o.1)) o.2) args s 0 0 (hp_A G)) G 7 0 0 26 [(0, .ref x0), (1, .int x1), (2, .int x2), (3, .int x3)] [] h :=
  lp_ind (P := fun (s_ : Nat × Int32 × Int32 × Int32 × hp_H) => wq p l e (mt_R (3) 0 0) s m args below meth c (MQ below (mt_Q G (some (.int o.1)) o.2) args s 0 0 (hp_A G)) G 7 0 0 26 [(0, .ref s_.1), (1, .int s_.2.1), (2, .int s_.2.2.1), (3, .int s_.2.2.2.1)] [] s_.2.2.2.2) (fun k s hk hf => w_X11_apart_26 X  (fun a0 a1 a2 a3 a4 => k (a0, a1, a2, a3, a4)) (fun a0 a1 a2 a3 a4 hf => hk (a0, a1, a2, a3, a4) hf) s.1 s.2.1 s.2.2.1 s.2.2.2.1 s.2.2.2.2 hf) 100000 (x0, x1, x2, x3, h) hf
end Sf_X11_apart
def f_X11_apart (x0 : Nat) (x1 : Int32) (h : hp_H) : Option (Int32 × hp_H) := gd h x0 11 ((wr_I h x0 11 0 0).bind fun h1 => (f_X11_within x1 1 12 h1).bind fun r2 => (f_X11_right x0 r2.1 1 r2.2).bind fun r3 => if r3.1 = 0 then (some (0, r3.2)) else (l_X11_apart_26 x0 x1 0 0 r3.2))
set_option maxRecDepth 20000 in
theorem c_X11_apart (l : Launch) (x0 : Nat) (x1 : Int32) (h : hp_H) (r : Int32 × hp_H) (hf : f_X11_apart x0 x1 h = some r) : cv l (3) yX11_apart cX11_apart 7 (some .int) 11 x0 [.int x1] h (some (.int r.1)) r.2 := by
  unfold f_X11_apart at hf
  refine cv_of (lv := [(0, .ref x0), (1, .int x1)]) hf (by decide +kernel) (Nat.le_of_ble_eq_true rfl) rfl (fun hf p e s m args below meth c G X => ?_)
  refine wk_aload_n X dX11_apart_0 0 rfl ?_
  refine wk_iconst X dX11_apart_1 ic_0 ?_
  refine wk_putI X dX11_apart_2 fo_X11_84 hf (fun h1 hf => ?_)
  refine wk_aload_n X dX11_apart_5 0 rfl ?_
  refine wk_iload_n X dX11_apart_6 1 rfl ?_
  refine wk_iconst X dX11_apart_7 ic_1 ?_
  refine wk_bipush X dX11_apart_8 ib_12 ?_
  refine wk_callSi X [.int x1, .int 1, .int 12] [.ref x0] dX11_apart_10 rfl vo_X11_314 rfl (by decide) (Nat.le_of_ble_eq_true rfl) hf (c_X11_within l _ _ _ _) (fun r2 hf => ?_)
  refine wk_iconst X dX11_apart_13 ic_1 ?_
  refine wk_callVi X [.int r2.1, .int 1] [] dX11_apart_14 rfl vo_X11_244 rfl (by decide) (Nat.le_of_ble_eq_true rfl) hf (c_X11_right l _ _ _ _) (fun r3 hf => ?_)
  refine wk_if_ne X 22 dX11_apart_17 (by decide) hf (fun hf => ?_) (fun hf => ?_)
  · refine wk_iconst X dX11_apart_22 ic_0 ?_
    refine wk_istore_n (lv' := [(2, .int 0), (0, .ref x0), (1, .int x1)]) X dX11_apart_23 (by decide) rfl ?_
    refine wk_iconst X dX11_apart_24 ic_0 ?_
    refine wk_istore_n (lv' := [(3, .int 0), (2, .int 0), (0, .ref x0), (1, .int x1)]) X dX11_apart_25 (by decide) rfl ?_
    exact wq_sub [2, 3, 1, 0] rfl (wl_X11_apart_26 X _ _ _ _ _ hf)
  · refine wk_iconst X dX11_apart_20 ic_0 ?_
    exact wk_ireturn X dX11_apart_21 hf
