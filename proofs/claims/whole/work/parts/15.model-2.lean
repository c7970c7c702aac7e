section Sf_X11_tread
variable {p : Program} {l : Launch} {e : Env} {s : State} {m : MethodId} {args : Array Value} {below : List Frame} {meth : Method} {c : Code} {G : hp_G} {o : Int32 × hp_H}
def f_X11_tread_118 (t0 : Int32) (h : hp_H) : Option (Int32 × hp_H) := some (t0, h)
set_option maxRecDepth 20000 in
theorem w_X11_tread_118 (X : wx G p s m args meth c cX11_tread 7 RX11 (some .int)) (t0 : Int32) (h : hp_H) (hf : f_X11_tread_118 t0 h = some o) : wq p l e (mt_R (3) 0 0) s m args below meth c (MQ below (mt_Q G (some (.int o.1)) o.2) args s 0 0 (hp_A G)) G 7 0 0 118 [] [.int t0] h := by
  unfold f_X11_tread_118 at hf
  exact wk_ireturn X dX11_tread_118 hf
def f_X11_tread_109 (x1 : Int32) (x2 : Int32) (x3 : Int32) (h : hp_H) : Option (Int32 × hp_H) := if x1 = 0 then (f_X11_tread_118 x3 h) else (f_X11_tread_118 x2 h)
set_option maxRecDepth 20000 in
theorem w_X11_tread_109 (X : wx G p s m args meth c cX11_tread 7 RX11 (some .int)) (x1 : Int32) (x2 : Int32) (x3 : Int32) (h : hp_H) (hf : f_X11_tread_109 x1 x2 x3 h = some o) : wq p l e (mt_R (3) 0 0) s m args below meth c (MQ below (mt_Q G (some (.int o.1)) o.2) args s 0 0 (hp_A G)) G 7 0 0 109 [(1, .int x1), (2, .int x2), (3, .int x3)] [] h := by
  unfold f_X11_tread_109 at hf
  refine wk_iload_n X dX11_tread_109 0 rfl ?_
  refine wk_if_ne X 117 dX11_tread_110 (by decide) hf (fun hf => ?_) (fun hf => ?_)
  · refine wk_iload_n X dX11_tread_117 1 rfl ?_
    exact wq_sub [] rfl (w_X11_tread_118 X _ _ hf)
  · refine wk_iload_n X dX11_tread_113 2 rfl ?_
    refine wk_goto X 118 dX11_tread_114 (by decide) ?_
    exact wq_sub [] rfl (w_X11_tread_118 X _ _ hf)
def f_X11_tread_103 (k32 : Nat → Int32 → Int32 → Int32 → Int32 → hp_H → Option (Int32 × hp_H)) (x0 : Nat) (x1 : Int32) (x2 : Int32) (x3 : Int32) (x4 : Int32) (h : hp_H) : Option (Int32 × hp_H) := k32 x0 x1 x2 x3 (x4 + 1) h
set_option maxRecDepth 20000 in
theorem w_X11_tread_103 (X : wx G p s m args meth c cX11_tread 7 RX11 (some .int)) (k32 : Nat → Int32 → Int32 → Int32 → Int32 → hp_H → Option (Int32 × hp_H)) (hk32 : ∀ (x0 : Nat) (x1 : Int32) (x2 : Int32) (x3 : Int32) (x4 : Int32) (h : hp_H), k32 x0 x1 x2 x3 x4 h = some o → wq p l e (mt_R (3) 0 0) s m args below meth c (MQ below (mt_Q G (some (.int o.1)) o.2) args s 0 0 (hp_A G)) G 7 0 0 32 [(0, .ref x0), (1, .int x1), (2, .int x2), (3, .int x3), (4, .int x4)] [] h) (x0 : Nat) (x1 : Int32) (x2 : Int32) (x3 : Int32) (x4 : Int32) (h : hp_H) (hf : f_X11_tread_103 k32 x0 x1 x2 x3 x4 h = some o) : wq p l e (mt_R (3) 0 0) s m args below meth c (MQ below (mt_Q G (some (.int o.1)) o.2) args s 0 0 (hp_A G)) G 7 0 0 103 [(0, .ref x0), (1, .int x1), (2, .int x2), (3, .int x3), (4, .int x4)] [] h := by
  unfold f_X11_tread_103 at hf
  refine wk_iinc (lv' := [(4, .int (x4 + 1)), (0, .ref x0), (1, .int x1), (2, .int x2), (3, .int x3)]) X dX11_tread_103 4 rfl ic_1 (by decide) rfl ?_
  refine wk_goto X 32 dX11_tread_106 (by decide) ?_
  exact wq_sub [1, 2, 3, 4, 0] rfl (hk32 _ _ _ _ _ _ hf)
def f_X11_tread_88 (k32 : Nat → Int32 → Int32 → Int32 → Int32 → hp_H → Option (Int32 × hp_H)) (x0 : Nat) (x1 : Int32) (x2 : Int32) (x3 : Int32) (x4 : Int32) (x5 : Int32) (h : hp_H) : Option (Int32 × hp_H) := if x3 < x5 then (f_X11_tread_103 k32 x0 x1 x4 x5 x4 h) else (f_X11_tread_103 k32 x0 x1 x2 x3 x4 h)
set_option maxRecDepth 20000 in
theorem w_X11_tread_88 (X : wx G p s m args meth c cX11_tread 7 RX11 (some .int)) (k32 : Nat → Int32 → Int32 → Int32 → Int32 → hp_H → Option (Int32 × hp_H)) (hk32 : ∀ (x0 : Nat) (x1 : Int32) (x2 : Int32) (x3 : Int32) (x4 : Int32) (h : hp_H), k32 x0 x1 x2 x3 x4 h = some o → wq p l e (mt_R (3) 0 0) s m args below meth c (MQ below (mt_Q G (some (.int o.1)) o.2) args s 0 0 (hp_A G)) G 7 0 0 32 [(0, .ref x0), (1, .int x1), (2, .int x2), (3, .int x3), (4, .int x4)] [] h) (x0 : Nat) (x1 : Int32) (x2 : Int32) (x3 : Int32) (x4 : Int32) (x5 : Int32) (h : hp_H) (hf : f_X11_tread_88 k32 x0 x1 x2 x3 x4 x5 h = some o) : wq p l e (mt_R (3) 0 0) s m args below meth c (MQ below (mt_Q G (some (.int o.1)) o.2) args s 0 0 (hp_A G)) G 7 0 0 88 [(0, .ref x0), (1, .int x1), (2, .int x2), (3, .int x3), (4, .int x4), (5, .int x5)] [] h := by
  unfold f_X11_tread_88 at hf
  refine wk_iload X dX11_tread_88 5 rfl ?_
  refine wk_iload_n X dX11_tread_90 3 rfl ?_
  refine wk_icmp_gt X 97 dX11_tread_91 (by decide) hf (fun hf => ?_) (fun hf => ?_)
  · refine wk_iload X dX11_tread_97 4 rfl ?_
    refine wk_istore_n (lv' := [(2, .int x4), (0, .ref x0), (1, .int x1), (3, .int x3), (4, .int x4), (5, .int x5)]) X dX11_tread_99 (by decide) rfl ?_
    refine wk_iload X dX11_tread_100 5 rfl ?_
    refine wk_istore_n (lv' := [(3, .int x5), (2, .int x4), (0, .ref x0), (1, .int x1), (4, .int x4), (5, .int x5)]) X dX11_tread_102 (by decide) rfl ?_
    exact wq_sub [2, 3, 1, 0, 4] rfl (w_X11_tread_103 X k32 hk32 _ _ _ _ _ _ hf)
  · refine wk_goto X 103 dX11_tread_94 (by decide) ?_
    exact wq_sub [0, 1, 2, 3, 4] rfl (w_X11_tread_103 X k32 hk32 _ _ _ _ _ _ hf)
def f_X11_tread_51 (k32 : Nat → Int32 → Int32 → Int32 → Int32 → hp_H → Option (Int32 × hp_H)) (k51 : Nat → Int32 → Int32 → Int32 → Int32 → Int32 → Int32 → hp_H → Option (Int32 × hp_H)) (x0 : Nat) (x1 : Int32) (x2 : Int32) (x3 : Int32) (x4 : Int32) (x5 : Int32) (x6 : Int32) (h : hp_H) : Option (Int32 × hp_H) := (rd_I h x0 11 2).bind fun v1 => if v1 ≤ x6 then (f_X11_tread_88 k32 x0 x1 x2 x3 x4 x5 h) else ((rd_R h x0 11 36).bind fun v2 => (rd_A h 0 v2 (1 + x6)).bind fun v3 => (f_X11_bits (x4 ^^^ v3) h).bind fun r4 => (f_X11_lesser x5 r4.1 r4.2).bind fun r5 => k51 x0 x1 x2 x3 x4 r5.1 (x6 + 1) r5.2)
set_option maxRecDepth 20000 in
theorem w_X11_tread_51 (X : wx G p s m args meth c cX11_tread 7 RX11 (some .int)) (k32 : Nat → Int32 → Int32 → Int32 → Int32 → hp_H → Option (Int32 × hp_H)) (hk32 : ∀ (x0 : Nat) (x1 : Int32) (x2 : Int32) (x3 : Int32) (x4 : Int32) (h : hp_H), k32 x0 x1 x2 x3 x4 h = some o → wq p l e (mt_R (3) 0 0) s m args below meth c (MQ below (mt_Q G (some (.int o.1)) o.2) args s 0 0 (hp_A G)) G 7 0 0 32 [(0, .ref x0), (1, .int x1), (2, .int x2), (3, .int x3), (4, .int x4)] [] h) (k51 : Nat → Int32 → Int32 → Int32 → Int32 → Int32 → Int32 → hp_H → Option (Int32 × hp_H)) (hk51 : ∀ (x0 : Nat) (x1 : Int32) (x2 : Int32) (x3 : Int32) (x4 : Int32) (x5 : Int32) (x6 : Int32) (h : hp_H), k51 x0 x1 x2 x3 x4 x5 x6 h = some o → wq p l e (mt_R (3) 0 0) s m args below meth c (MQ below (mt_Q G (some (.int o.1)) o.2) args s 0 0 (hp_A G)) G 7 0 0 51 [(0, .ref x0), (1, .int x1), (2, .int x2), (3, .int x3), (4, .int x4), (5, .int x5), (6, .int x6)] [] h) (x0 : Nat) (x1 : Int32) (x2 : Int32) (x3 : Int32) (x4 : Int32) (x5 : Int32) (x6 : Int32) (h : hp_H) (hf : f_X11_tread_51 k32 k51 x0 x1 x2 x3 x4 x5 x6 h = some o) : wq p l e (mt_R (3) 0 0) s m args below meth c (MQ below (mt_Q G (some (.int o.1)) o.2) args s 0 0 (hp_A G)) G 7 0 0 51 [(0, .ref x0), (1, .int x1), (2, .int x2), (3, .int x3), (4, .int x4), (5, .int x5), (6, .int x6)] [] h := by
  unfold f_X11_tread_51 at hf
  refine wk_iload X dX11_tread_51 6 rfl ?_
  refine wk_aload_n X dX11_tread_53 0 rfl ?_
  refine wk_getI X dX11_tread_54 fo_X11_251 hf (fun v1 hf => ?_)
  refine wk_icmp_ge X 88 dX11_tread_57 (by decide) hf (fun hf => ?_) (fun hf => ?_)
  · exact wq_sub [0, 1, 2, 3, 4, 5] rfl (w_X11_tread_88 X k32 hk32 _ _ _ _ _ _ _ hf)
  · refine wk_iload X dX11_tread_60 5 rfl ?_
    refine wk_iload X dX11_tread_62 4 rfl ?_
    refine wk_aload_n X dX11_tread_64 0 rfl ?_
    refine wk_getR X dX11_tread_65 fo_X11_51 hf (fun v2 hf => ?_)
    refine wk_iconst X dX11_tread_68 ic_1 ?_
    refine wk_iload X dX11_tread_69 6 rfl ?_
    refine wk_iadd X dX11_tread_71 ?_
    refine wk_iald X dX11_tread_72 hf (fun v3 hf => ?_)
    refine wk_ixor X dX11_tread_73 ?_
    refine wk_callSi X [.int (x4 ^^^ v3)] [.int x5] dX11_tread_74 rfl vo_X11_284 rfl (by decide) (Nat.le_of_ble_eq_true rfl) hf (c_X11_bits l _ _) (fun r4 hf => ?_)
    refine wk_callSi X [.int x5, .int r4.1] [] dX11_tread_77 rfl vo_X11_305 rfl (by decide) (Nat.le_of_ble_eq_true rfl) hf (c_X11_lesser l _ _ _) (fun r5 hf => ?_)
    refine wk_istore (lv' := [(5, .int r5.1), (0, .ref x0), (1, .int x1), (2, .int x2), (3, .int x3), (4, .int x4), (6, .int x6)]) X dX11_tread_80 (by decide) rfl ?_
    refine wk_iinc (lv' := [(6, .int (x6 + 1)), (5, .int r5.1), (0, .ref x0), (1, .int x1), (2, .int x2), (3, .int x3), (4, .int x4)]) X dX11_tread_82 6 rfl ic_1 (by decide) rfl ?_
    refine wk_goto X 51 dX11_tread_85 (by decide) ?_
    exact wq_sub [2, 3, 4, 5, 6, 1, 0] rfl (hk51 _ _ _ _ _ _ _ _ hf)
def l_X11_tread_51 (k32 : Nat → Int32 → Int32 → Int32 → Int32 → hp_H → Option (Int32 × hp_H)) (x0 : Nat) (x1 : Int32) (x2 : Int32) (x3 : Int32) (x4 : Int32) (x5 : Int32) (x6 : Int32) (h : hp_H) : Option (Int32 × hp_H) := lp (fun k (s : Nat × Int32 × Int32 × Int32 × Int32 × Int32 × Int32 × hp_H) => f_X11_tread_51 k32 (fun a0 a1 a2 a3 a4 a5 a6 a7 => k (a0, a1, a2, a3, a4, a5, a6, a7)) s.1 s.2.1 s.2.2.1 s.2.2.2.1 s.2.2.2.2.1 s.2.2.2.2.2.1 s.2.2.2.2.2.2.1 s.2.2.2.2.2.2.2) 100000 (x0, x1, x2, x3, x4, x5, x6, h)
theorem wl_X11_tread_51 (X : wx G p s m args meth c cX11_tread 7 RX11 (some .int)) (k32 : Nat → Int32 → Int32 → Int32 → Int32 → hp_H → Option (Int32 × hp_H)) (hk32 : ∀ (x0 : Nat) (x1 : Int32) (x2 : Int32) (x3 : Int32) (x4 : Int32) (h : hp_H), k32 x0 x1 x2 x3 x4 h = some o → wq p l e (mt_R (3) 0 0) s m args below meth c (MQ below (mt_Q G (some (.int o.1)) o.2) args s 0 0 (hp_A G)) G 7 0 0 32 [(0, .ref x0), (1, .int x1), (2, .int x2), (3, .int x3), (4, .int x4)] [] h) (x0 : Nat) (x1 : Int32) (x2 : Int32) (x3 : Int32) (x4 : Int32) (x5 : Int32) (x6 : Int32) (h : hp_H) (hf : l_X11_tread_51 k32 x0 x1 x2 x3 x4 x5 x6 h = some o) : wq p l e (mt_R (3) 0 0) s m args below meth c (MQ below (mt_Q G (some (.int o.1)) o.2) args s 0 0 (hp_A G)) G 7 0 0 51 [(0, .ref x0), (1, .int x1), (2, .int x2), (3, .int x3), (4, .int x4), (5, .int x5), (6, .int x6)] [] h :=
  lp_ind (P := fun (s_ : Nat × Int32 × Int32 × Int32 × Int32 × Int32 × Int32 × hp_H) => wq p l e (mt_R (3) 0 0) s m args below meth c (MQ below (mt_Q G (some (.int o.1)) o.2) args s 0 0 (hp_A G)) G 7 0 0 51 [(0, .ref s_.1), (1, .int s_.2.1), (2, .int s_.2.2.1), (3, .int s_.2.2.2.1), (4, .int s_.2.2.2.2.1), (5, .int s_.2.2.2.2.2.1), (6, .int s_.2.2.2.2.2.2.1)] [] s_.2.2.2.2.2.2.2) (fun k s hk hf => w_X11_tread_51 X k32 hk32 (fun a0 a1 a2 a3 a4 a5 a6 a7 => k (a0, a1, a2, a3, a4, a5, a6, a7)) (fun a0 a1 a2 a3 a4 a5 a6 a7 hf => hk (a0, a1, a2, a3, a4, a5, a6, a7) hf) s.1 s.2.1 s.2.2.1 s.2.2.2.1 s.2.2.2.2.1 s.2.2.2.2.2.1 s.2.2.2.2.2.2.1 s.2.2.2.2.2.2.2 hf) 100000 (x0, x1, x2, x3, x4, x5, x6, h) hf
def f_X11_tread_32 (k32 : Nat → Int32 → Int32 → Int32 → Int32 → hp_H → Option (Int32 × hp_H)) (x0 : Nat) (x1 : Int32) (x2 : Int32) (x3 : Int32) (x4 : Int32) (h : hp_H) : Option (Int32 × hp_H) := (rd_I h x0 11 1).bind fun v1 => if (1 <<< (v1 &&& 31)) ≤ x4 then (f_X11_tread_109 x1 x2 x3 h) else (l_X11_tread_51 k32 x0 x1 x2 x3 x4 99999 0 h)
set_option maxRecDepth 20000 in
theorem w_X11_tread_32 (X : wx G p s m args meth c cX11_tread 7 RX11 (some .int)) (k32 : Nat → Int32 → Int32 → Int32 → Int32 → hp_H → Option (Int32 × hp_H)) (hk32 : ∀ (x0 : Nat) (x1 : Int32) (x2 : Int32) (x3 : Int32) (x4 : Int32) (h : hp_H), k32 x0 x1 x2 x3 x4 h = some o → wq p l e (mt_R (3) 0 0) s m args below meth c (MQ below (mt_Q G (some (.int o.1)) o.2) args s 0 0 (hp_A G)) G 7 0 0 32 [(0, .ref x0), (1, .int x1), (2, .int x2), (3, .int x3), (4, .int x4)] [] h) (x0 : Nat) (x1 : Int32) (x2 : Int32) (x3 : Int32) (x4 : Int32) (h : hp_H) (hf : f_X11_tread_32 k32 x0 x1 x2 x3 x4 h = some o) : wq p l e (mt_R (3) 0 0) s m args below meth c (MQ below (mt_Q G (some (.int o.1)) o.2) args s 0 0 (hp_A G)) G 7 0 0 32 [(0, .ref x0), (1, .int x1), (2, .int x2), (3, .int x3), (4, .int x4)] [] h := by
  unfold f_X11_tread_32 at hf
  refine wk_iload X dX11_tread_32 4 rfl ?_
  refine wk_iconst X dX11_tread_34 ic_1 ?_
  refine wk_aload_n X dX11_tread_35 0 rfl ?_
  refine wk_getI X dX11_tread_36 fo_X11_7 hf (fun v1 hf => ?_)
  refine wk_ishl X dX11_tread_39 ?_
  refine wk_icmp_ge X 109 dX11_tread_40 (by decide) hf (fun hf => ?_) (fun hf => ?_)
  · exact wq_sub [1, 2, 3] rfl (w_X11_tread_109 X _ _ _ _ hf)
  · refine wk_ldcw X dX11_tread_43 mt_X11_362 ?_
    refine wk_istore (lv' := [(5, .int 99999), (0, .ref x0), (1, .int x1), (2, .int x2), (3, .int x3), (4, .int x4)]) X dX11_tread_46 (by decide) rfl ?_
    refine wk_iconst X dX11_tread_48 ic_0 ?_
    refine wk_istore (lv' := [(6, .int 0), (5, .int 99999), (0, .ref x0), (1, .int x1), (2, .int x2), (3, .int x3), (4, .int x4)]) X dX11_tread_49 (by decide) rfl ?_
    exact wq_sub [2, 3, 4, 5, 6, 1, 0] rfl (wl_X11_tread_51 X k32 hk32 _ _ _ _ _ _ _ _ hf)
def l_X11_tread_32 (x0 : Nat) (x1 : Int32) (x2 : Int32) (x3 : Int32) (x4 : Int32) (h : hp_H) : Option (Int32 × hp_H) := lp (fun k (s : Nat × Int32 × Int32 × Int32 × Int32 × hp_H) => f_X11_tread_32  (fun a0 a1 a2 a3 a4 a5 => k (a0, a1, a2, a3, a4, a5)) s.1 s.2.1 s.2.2.1 s.2.2.2.1 s.2.2.2.2.1 s.2.2.2.2.2) 100000 (x0, x1, x2, x3, x4, h)
theorem wl_X11_tread_32 (X : wx G p s m args meth c cX11_tread 7 RX11 (some .int)) (x0 : Nat) (x1 : Int32) (x2 : Int32) (x3 : Int32) (x4 : Int32) (h : hp_H) (hf : l_X11_tread_32 x0 x1 x2 x3 x4 h = some o) : wq p l e (mt_R (3) 0 0) s m args below meth c (MQ below (mt_Q G (some (.int o.1)) o.2) args s 0 0 (hp_A G)) G 7 0 0 32 [(0, .ref x0), (1, .int x1), (2, .int x2), (3, .int x3), (4, .int x4)] [] h :=
  lp_ind (P := fun (s_ : Nat × Int32 × Int32 × Int32 × Int32 × hp_H) => wq p l e (mt_R (3) 0 0) s m args below meth c (MQ below (mt_Q G (some (.int o.1)) o.2) args s 0 0 (hp_A G)) G 7 0 0 32 [(0, .ref s_.1), (1, .int s_.2.1), (2, .int s_.2.2.1), (3, .int s_.2.2.2.1), (4, .int s_.2.2.2.2.1)] [] s_.2.2.2.2.2) (fun k s hk hf => w_X11_tread_32 X  (fun a0 a1 a2 a3 a4 a5 => k (a0, a1, a2, a3, a4, a5)) (fun a0 a1 a2 a3 a4 a5 hf => hk (a0, a1, a2, a3, a4, a5) hf) s.1 s.2.1 s.2.2.1 s.2.2.2.1 s.2.2.2.2.1 s.2.2.2.2.2 hf) 100000 (x0, x1, x2, x3, x4, h) hf
end Sf_X11_tread
def f_X11_tread (x0 : Nat) (x1 : Int32) (h : hp_H) : Option (Int32 × hp_H) := gd h x0 11 ((wr_I h x0 11 0 0).bind fun h1 => (f_X11_isWhat x0 x1 1 h1).bind fun r2 => if r2.1 = 0 then (some (0, r2.2)) else ((rd_I r2.2 x0 11 2).bind fun v3 => if v3 = 0 then (some ((-1), r2.2)) else (l_X11_tread_32 x0 x1 0 (-1) 0 r2.2)))
set_option maxRecDepth 20000 in
theorem c_X11_tread (l : Launch) (x0 : Nat) (x1 : Int32) (h : hp_H) (r : Int32 × hp_H) (hf : f_X11_tread x0 x1 h = some r) : cv l (3) yX11_tread cX11_tread 7 (some .int) 11 x0 [.int x1] h (some (.int r.1)) r.2 := by
  unfold f_X11_tread at hf
  refine cv_of (lv := [(0, .ref x0), (1, .int x1)]) hf (by decide +kernel) (Nat.le_of_ble_eq_true rfl) rfl (fun hf p e s m args below meth c G X => ?_)
  refine wk_aload_n X dX11_tread_0 0 rfl ?_
  refine wk_iconst X dX11_tread_1 ic_0 ?_
  refine wk_putI X dX11_tread_2 fo_X11_84 hf (fun h1 hf => ?_)
  refine wk_aload_n X dX11_tread_5 0 rfl ?_
  refine wk_iload_n X dX11_tread_6 1 rfl ?_
  refine wk_iconst X dX11_tread_7 ic_1 ?_
  refine wk_callVi X [.int x1, .int 1] [] dX11_tread_8 rfl vo_X11_330 rfl (by decide) (Nat.le_of_ble_eq_true rfl) hf (c_X11_isWhat l _ _ _ _) (fun r2 hf => ?_)
  refine wk_if_ne X 16 dX11_tread_11 (by decide) hf (fun hf => ?_) (fun hf => ?_)
  · refine wk_aload_n X dX11_tread_16 0 rfl ?_
    refine wk_getI X dX11_tread_17 fo_X11_251 hf (fun v3 hf => ?_)
    refine wk_if_ne X 25 dX11_tread_20 (by decide) hf (fun hf => ?_) (fun hf => ?_)
    · refine wk_iconst X dX11_tread_25 ic_0 ?_
      refine wk_istore_n (lv' := [(2, .int 0), (0, .ref x0), (1, .int x1)]) X dX11_tread_26 (by decide) rfl ?_
      refine wk_iconst X dX11_tread_27 ic_m1 ?_
      refine wk_istore_n (lv' := [(3, .int (-1)), (2, .int 0), (0, .ref x0), (1, .int x1)]) X dX11_tread_28 (by decide) rfl ?_
      refine wk_iconst X dX11_tread_29 ic_0 ?_
      refine wk_istore (lv' := [(4, .int 0), (3, .int (-1)), (2, .int 0), (0, .ref x0), (1, .int x1)]) X dX11_tread_30 (by decide) rfl ?_
      exact wq_sub [3, 4, 2, 1, 0] rfl (wl_X11_tread_32 X _ _ _ _ _ _ hf)
    · refine wk_iconst X dX11_tread_23 ic_m1 ?_
      exact wk_ireturn X dX11_tread_24 hf
  · refine wk_iconst X dX11_tread_14 ic_0 ?_
    exact wk_ireturn X dX11_tread_15 hf
section Sf_X11_canTry
variable {p : Program} {l : Launch} {e : Env} {s : State} {m : MethodId} {args : Array Value} {below : List Frame} {meth : Method} {c : Code} {G : hp_G} {o : Int32 × hp_H}
end Sf_X11_canTry
def f_X11_canTry (x0 : Nat) (x1 : Int32) (x2 : Int32) (h : hp_H) : Option (Int32 × hp_H) := gd h x0 11 ((rd_R h x0 11 36).bind fun v1 => (rd_A h 0 v1 (25 + x2)).bind fun v2 => (f_X11_bits (v2 &&& ((1 <<< (x1 &&& 31)) ^^^ ((-1) : Int32))) h).bind fun r3 => if r3.1 = 4 then (if 0 = 0 ∨ 0 = 1 then some (0, r3.2) else none) else ((f_X11_tries x0 r3.2).bind fun r4 => (f_X11_puts0 x0 33 x1 x2 r4).bind fun r5 => if 1 = 0 ∨ 1 = 1 then some (1, r5) else none))
set_option maxRecDepth 20000 in
theorem c_X11_canTry (l : Launch) (x0 : Nat) (x1 : Int32) (x2 : Int32) (h : hp_H) (r : Int32 × hp_H) (hf : f_X11_canTry x0 x1 x2 h = some r) : cv l (2) yX11_canTry cX11_canTry 3 (some .boolean) 11 x0 [.int x1, .int x2] h (some (.int r.1)) r.2 := by
  unfold f_X11_canTry at hf
  refine cv_of (lv := [(0, .ref x0), (1, .int x1), (2, .int x2)]) hf (by decide +kernel) (Nat.le_of_ble_eq_true rfl) rfl (fun hf p e s m args below meth c G X => ?_)
  refine wk_aload_n X dX11_canTry_0 0 rfl ?_
  refine wk_getR X dX11_canTry_1 fo_X11_51 hf (fun v1 hf => ?_)
  refine wk_bipush X dX11_canTry_4 ib_25 ?_
  refine wk_iload_n X dX11_canTry_6 2 rfl ?_
  refine wk_iadd X dX11_canTry_7 ?_
  refine wk_iald X dX11_canTry_8 hf (fun v2 hf => ?_)
  refine wk_iconst X dX11_canTry_9 ic_1 ?_
  refine wk_iload_n X dX11_canTry_10 1 rfl ?_
  refine wk_ishl X dX11_canTry_11 ?_
  refine wk_iconst X dX11_canTry_12 ic_m1 ?_
  refine wk_ixor X dX11_canTry_13 ?_
  refine wk_iand X dX11_canTry_14 ?_
  refine wk_callSi X [.int (v2 &&& ((1 <<< (x1 &&& 31)) ^^^ ((-1) : Int32)))] [] dX11_canTry_15 rfl vo_X11_284 rfl (by decide) (Nat.le_of_ble_eq_true rfl) hf (c_X11_bits l _ _) (fun r3 hf => ?_)
  refine wk_iconst X dX11_canTry_18 ic_4 ?_
  refine wk_icmp_ne X 24 dX11_canTry_19 (by decide) hf (fun hf => ?_) (fun hf => ?_)
  · refine wk_aload_n X dX11_canTry_24 0 rfl ?_
    refine wk_callVv X [] [] dX11_canTry_25 rfl vo_X11_347 rfl (by decide) (Nat.le_of_ble_eq_true rfl) hf (c_X11_tries l _ _) (fun r4 hf => ?_)
    refine wk_aload_n X dX11_canTry_28 0 rfl ?_
    refine wk_bipush X dX11_canTry_29 ib_33 ?_
    refine wk_iload_n X dX11_canTry_31 1 rfl ?_
    refine wk_iload_n X dX11_canTry_32 2 rfl ?_
    refine wk_callVv X [.int 33, .int x1, .int x2] [] dX11_canTry_33 rfl vo_X11_343 rfl (by decide) (Nat.le_of_ble_eq_true rfl) hf (c_X11_puts0 l _ _ _ _ _) (fun r5 hf => ?_)
    refine wk_iconst X dX11_canTry_36 ic_1 ?_
    exact wk_zreturn X dX11_canTry_37 hf
  · refine wk_iconst X dX11_canTry_22 ic_0 ?_
    exact wk_zreturn X dX11_canTry_23 hf
section Sf_X11_passes
variable {p : Program} {l : Launch} {e : Env} {s : State} {m : MethodId} {args : Array Value} {below : List Frame} {meth : Method} {c : Code} {G : hp_G} {o : Int32 × hp_H}
def f_X11_passes_21  (h : hp_H) : Option (Int32 × hp_H) := some (0, h)
set_option maxRecDepth 20000 in
theorem w_X11_passes_21 (X : wx G p s m args meth c cX11_passes 4 RX11 (some .int))  (h : hp_H) (hf : f_X11_passes_21 h = some o) : wq p l e (mt_R (5) 0 0) s m args below meth c (MQ below (mt_Q G (some (.int o.1)) o.2) args s 0 0 (hp_A G)) G 4 0 0 21 [] [] h := by
  unfold f_X11_passes_21 at hf
  refine wk_iconst X dX11_passes_21 ic_0 ?_
  exact wk_ireturn X dX11_passes_22 hf
def f_X11_passes_66  (h : hp_H) : Option (Int32 × hp_H) := some ((-1), h)
set_option maxRecDepth 20000 in
theorem w_X11_passes_66 (X : wx G p s m args meth c cX11_passes 4 RX11 (some .int))  (h : hp_H) (hf : f_X11_passes_66 h = some o) : wq p l e (mt_R (5) 0 0) s m args below meth c (MQ below (mt_Q G (some (.int o.1)) o.2) args s 0 0 (hp_A G)) G 4 0 0 66 [] [] h := by
  unfold f_X11_passes_66 at hf
  refine wk_iconst X dX11_passes_66 ic_m1 ?_
  exact wk_ireturn X dX11_passes_67 hf
def f_X11_passes_60 (k25 : Nat → Int32 → Int32 → Int32 → hp_H → Option (Int32 × hp_H)) (x0 : Nat) (x1 : Int32) (x2 : Int32) (x3 : Int32) (h : hp_H) : Option (Int32 × hp_H) := k25 x0 x1 x2 (x3 + 1) h
set_option maxRecDepth 20000 in
theorem w_X11_passes_60 (X : wx G p s m args meth c cX11_passes 4 RX11 (some .int)) (k25 : Nat → Int32 → Int32 → Int32 → hp_H → Option (Int32 × hp_H)) (hk25 : ∀ (x0 : Nat) (x1 : Int32) (x2 : Int32) (x3 : Int32) (h : hp_H), k25 x0 x1 x2 x3 h = some o → wq p l e (mt_R (5) 0 0) s m args below meth c (MQ below (mt_Q G (some (.int o.1)) o.2) args s 0 0 (hp_A G)) G 4 0 0 25 [(0, .ref x0), (1, .int x1), (2, .int x2), (3, .int x3)] [] h) (x0 : Nat) (x1 : Int32) (x2 : Int32) (x3 : Int32) (h : hp_H) (hf : f_X11_passes_60 k25 x0 x1 x2 x3 h = some o) : wq p l e (mt_R (5) 0 0) s m args below meth c (MQ below (mt_Q G (some (.int o.1)) o.2) args s 0 0 (hp_A G)) G 4 0 0 60 [(0, .ref x0), (1, .int x1), (2, .int x2), (3, .int x3)] [] h := by
  unfold f_X11_passes_60 at hf
  refine wk_iinc (lv' := [(3, .int (x3 + 1)), (0, .ref x0), (1, .int x1), (2, .int x2)]) X dX11_passes_60 3 rfl ic_1 (by decide) rfl ?_
  refine wk_goto X 25 dX11_passes_63 (by decide) ?_
  exact wq_sub [1, 2, 3, 0] rfl (hk25 _ _ _ _ _ hf)
def f_X11_passes_58 (x3 : Int32) (h : hp_H) : Option (Int32 × hp_H) := some (x3, h)
set_option maxRecDepth 20000 in
theorem w_X11_passes_58 (X : wx G p s m args meth c cX11_passes 4 RX11 (some .int)) (x3 : Int32) (h : hp_H) (hf : f_X11_passes_58 x3 h = some o) : wq p l e (mt_R (5) 0 0) s m args below meth c (MQ below (mt_Q G (some (.int o.1)) o.2) args s 0 0 (hp_A G)) G 4 0 0 58 [(3, .int x3)] [] h := by
  unfold f_X11_passes_58 at hf
  refine wk_iload_n X dX11_passes_58 0 rfl ?_
  exact wk_ireturn X dX11_passes_59 hf
def f_X11_passes_25 (k25 : Nat → Int32 → Int32 → Int32 → hp_H → Option (Int32 × hp_H)) (x0 : Nat) (x1 : Int32) (x2 : Int32) (x3 : Int32) (h : hp_H) : Option (Int32 × hp_H) := (rd_I h x0 11 3).bind fun v1 => if v1 ≤ x3 then (f_X11_passes_66 h) else (if x1 = x2 then (f_X11_passes_66 h) else ((f_X11_canTry x0 x1 x3 h).bind fun r2 => if r2.1 = 0 then (f_X11_passes_60 k25 x0 x1 x2 x3 r2.2) else ((f_X11_namedOf x0 33 x3 r2.2).bind fun r3 => if r3.1 = x2 then (f_X11_passes_58 x3 r3.2) else (f_X11_passes_60 k25 x0 x1 x2 x3 r3.2))))
set_option maxRecDepth 20000 in
theorem w_X11_passes_25 (X : wx G p s m args meth c cX11_passes 4 RX11 (some .int)) (k25 : Nat → Int32 → Int32 → Int32 → hp_H → Option (Int32 × hp_H)) (hk25 : ∀ (x0 : Nat) (x1 : Int32) (x2 : Int32) (x3 : Int32) (h : hp_H), k25 x0 x1 x2 x3 h = some o → wq p l e (mt_R (5) 0 0) s m args below meth c (MQ below (mt_Q G (some (.int o.1)) o.2) args s 0 0 (hp_A G)) G 4 0 0 25 [(0, .ref x0), (1, .int x1), (2, .int x2), (3, .int x3)] [] h) (x0 : Nat) (x1 : Int32) (x2 : Int32) (x3 : Int32) (h : hp_H) (hf : f_X11_passes_25 k25 x0 x1 x2 x3 h = some o) : wq p l e (mt_R (5) 0 0) s m args below meth c (MQ below (mt_Q G (some (.int o.1)) o.2) args s 0 0 (hp_A G)) G 4 0 0 25 [(0, .ref x0), (1, .int x1), (2, .int x2), (3, .int x3)] [] h := by
  unfold f_X11_passes_25 at hf
  refine wk_iload_n X dX11_passes_25 3 rfl ?_
  refine wk_aload_n X dX11_passes_26 0 rfl ?_
  refine wk_getI X dX11_passes_27 fo_X11_254 hf (fun v1 hf => ?_)
  refine wk_icmp_ge X 66 dX11_passes_30 (by decide) hf (fun hf => ?_) (fun hf => ?_)
  · exact wq_sub [] rfl (w_X11_passes_66 X _ hf)
  · refine wk_iload_n X dX11_passes_33 1 rfl ?_
    refine wk_iload_n X dX11_passes_34 2 rfl ?_
    refine wk_icmp_eq X 66 dX11_passes_35 (by decide) hf (fun hf => ?_) (fun hf => ?_)
    · exact wq_sub [] rfl (w_X11_passes_66 X _ hf)
    · refine wk_aload_n X dX11_passes_38 0 rfl ?_
      refine wk_iload_n X dX11_passes_39 1 rfl ?_
      refine wk_iload_n X dX11_passes_40 3 rfl ?_
      refine wk_callVi X [.int x1, .int x3] [] dX11_passes_41 rfl vo_X11_363 rfl (by decide) (Nat.le_of_ble_eq_true rfl) hf (c_X11_canTry l _ _ _ _) (fun r2 hf => ?_)
      refine wk_if_eq X 60 dX11_passes_44 (by decide) hf (fun hf => ?_) (fun hf => ?_)
      · exact wq_sub [0, 1, 2, 3] rfl (w_X11_passes_60 X k25 hk25 _ _ _ _ _ hf)
      · refine wk_aload_n X dX11_passes_47 0 rfl ?_
        refine wk_bipush X dX11_passes_48 ib_33 ?_
        refine wk_iload_n X dX11_passes_50 3 rfl ?_
        refine wk_callVi X [.int 33, .int x3] [] dX11_passes_51 rfl vo_X11_302 rfl (by decide) (Nat.le_of_ble_eq_true rfl) hf (c_X11_namedOf l _ _ _ _) (fun r3 hf => ?_)
        refine wk_iload_n X dX11_passes_54 2 rfl ?_
        refine wk_icmp_ne X 60 dX11_passes_55 (by decide) hf (fun hf => ?_) (fun hf => ?_)
        · exact wq_sub [0, 1, 2, 3] rfl (w_X11_passes_60 X k25 hk25 _ _ _ _ _ hf)
        · exact wq_sub [3] rfl (w_X11_passes_58 X _ _ hf)
def l_X11_passes_25 (x0 : Nat) (x1 : Int32) (x2 : Int32) (x3 : Int32) (h : hp_H) : Option (Int32 × hp_H) := lp (fun k (s : Nat × Int32 × Int32 × Int32 × hp_H) => f_X11_passes_25  (fun a0 a1 a2 a3 a4 => k (a0, a1, a2, a3, a4)) s.1 s.2.1 s.2.2.1 s.2.2.2.1 s.2.2.2.2) 100000 (x0, x1, x2, x3, h)
theorem wl_X11_passes_25 (X : wx G p s m args meth c cX11_passes 4 RX11 (some .int)) (x0 : Nat) (x1 : Int32) (x2 : Int32) (x3 : Int32) (h : hp_H) (hf : l_X11_passes_25 x0 x1 x2 x3 h = some o) : wq p l e (mt_R (5) 0 0) s m args below meth c (MQ below (mt_Q G (some (.int o.1)) o.2) args s 0 0 (hp_A G)) G 4 0 0 25 [(0, .ref x0), (1, .int x1), (2, .int x2), (3, .int x3)] [] h :=
  lp_ind (P := fun (s_ : Nat × Int32 × Int32 × Int32 × hp_H) => wq p l e (mt_R (5) 0 0) s m args below meth c (MQ below (mt_Q G (some (.int o.1)) o.2) args s 0 0 (hp_A G)) G 4 0 0 25 [(0, .ref s_.1), (1, .int s_.2.1), (2, .int s_.2.2.1), (3, .int s_.2.2.2.1)] [] s_.2.2.2.2) (fun k s hk hf => w_X11_passes_25 X  (fun a0 a1 a2 a3 a4 => k (a0, a1, a2, a3, a4)) (fun a0 a1 a2 a3 a4 hf => hk (a0, a1, a2, a3, a4) hf) s.1 s.2.1 s.2.2.1 s.2.2.2.1 s.2.2.2.2 hf) 100000 (x0, x1, x2, x3, h) hf
end Sf_X11_passes
def f_X11_passes (x0 : Nat) (x1 : Int32) (x2 : Int32) (h : hp_H) : Option (Int32 × hp_H) := gd h x0 11 ((wr_I h x0 11 0 0).bind fun h1 => (f_X11_isMan x0 x1 h1).bind fun r2 => if r2.1 = 0 then (f_X11_passes_21 r2.2) else ((f_X11_isMan x0 x2 r2.2).bind fun r3 => if r3.1 = 0 then (f_X11_passes_21 r3.2) else (l_X11_passes_25 x0 x1 x2 0 r3.2)))
set_option maxRecDepth 20000 in
theorem c_X11_passes (l : Launch) (x0 : Nat) (x1 : Int32) (x2 : Int32) (h : hp_H) (r : Int32 × hp_H) (hf : f_X11_passes x0 x1 x2 h = some r) : cv l (5) yX11_passes cX11_passes 4 (some .int) 11 x0 [.int x1, .int x2] h (some (.int r.1)) r.2 := by
  unfold f_X11_passes at hf
  refine cv_of (lv := [(0, .ref x0), (1, .int x1), (2, .int x2)]) hf (by decide +kernel) (Nat.le_of_ble_eq_true rfl) rfl (fun hf p e s m args below meth c G X => ?_)
  refine wk_aload_n X dX11_passes_0 0 rfl ?_
  refine wk_iconst X dX11_passes_1 ic_0 ?_
  refine wk_putI X dX11_passes_2 fo_X11_84 hf (fun h1 hf => ?_)
  refine wk_aload_n X dX11_passes_5 0 rfl ?_
  refine wk_iload_n X dX11_passes_6 1 rfl ?_
  refine wk_callVi X [.int x1] [] dX11_passes_7 rfl vo_X11_327 rfl (by decide) (Nat.le_of_ble_eq_true rfl) hf (c_X11_isMan l _ _ _) (fun r2 hf => ?_)
  refine wk_if_eq X 21 dX11_passes_10 (by decide) hf (fun hf => ?_) (fun hf => ?_)
  · exact wq_sub [] rfl (w_X11_passes_21 X _ hf)
  · refine wk_aload_n X dX11_passes_13 0 rfl ?_
    refine wk_iload_n X dX11_passes_14 2 rfl ?_
    refine wk_callVi X [.int x2] [] dX11_passes_15 rfl vo_X11_327 rfl (by decide) (Nat.le_of_ble_eq_true rfl) hf (c_X11_isMan l _ _ _) (fun r3 hf => ?_)
    refine wk_if_ne X 23 dX11_passes_18 (by decide) hf (fun hf => ?_) (fun hf => ?_)
    · refine wk_iconst X dX11_passes_23 ic_0 ?_
      refine wk_istore_n (lv' := [(3, .int 0), (0, .ref x0), (1, .int x1), (2, .int x2)]) X dX11_passes_24 (by decide) rfl ?_
      exact wq_sub [1, 2, 3, 0] rfl (wl_X11_passes_25 X _ _ _ _ _ hf)
    · exact wq_sub [] rfl (w_X11_passes_21 X _ hf)
section Sf_X11_hidden
variable {p : Program} {l : Launch} {e : Env} {s : State} {m : MethodId} {args : Array Value} {below : List Frame} {meth : Method} {c : Code} {G : hp_G} {o : Int32 × hp_H}
def f_X11_hidden_63 (x2 : Int32) (h : hp_H) : Option (Int32 × hp_H) := some (x2, h)
set_option maxRecDepth 20000 in
theorem w_X11_hidden_63 (X : wx G p s m args meth c cX11_hidden 4 RX11 (some .int)) (x2 : Int32) (h : hp_H) (hf : f_X11_hidden_63 x2 h = some o) : wq p l e (mt_R (5) 0 0) s m args below meth c (MQ below (mt_Q G (some (.int o.1)) o.2) args s 0 0 (hp_A G)) G 4 0 0 63 [(2, .int x2)] [] h := by
  unfold f_X11_hidden_63 at hf
  refine wk_iload_n X dX11_hidden_63 0 rfl ?_
  exact wk_ireturn X dX11_hidden_64 hf
def f_X11_hidden_55 (k19 : Nat → Int32 → Int32 → Int32 → hp_H → Option (Int32 × hp_H)) (x0 : Nat) (x1 : Int32) (x3 : Int32) (t0 : Int32) (t1 : Int32) (h : hp_H) : Option (Int32 × hp_H) := k19 x0 x1 (t0 ||| t1) (x3 + 1) h
set_option maxRecDepth 20000 in
theorem w_X11_hidden_55 (X : wx G p s m args meth c cX11_hidden 4 RX11 (some .int)) (k19 : Nat → Int32 → Int32 → Int32 → hp_H → Option (Int32 × hp_H)) (hk19 : ∀ (x0 : Nat) (x1 : Int32) (x2 : Int32) (x3 : Int32) (h : hp_H), k19 x0 x1 x2 x3 h = some o → wq p l e (mt_R (5) 0 0) s m args below meth c (MQ below (mt_Q G (some (.int o.1)) o.2) args s 0 0 (hp_A G)) G 4 0 0 19 [(0, .ref x0), (1, .int x1), (2, .int x2), (3, .int x3)] [] h) (x0 : Nat) (x1 : Int32) (x3 : Int32) (t0 : Int32) (t1 : Int32) (h : hp_H) (hf : f_X11_hidden_55 k19 x0 x1 x3 t0 t1 h = some o) : wq p l e (mt_R (5) 0 0) s m args below meth c (MQ below (mt_Q G (some (.int o.1)) o.2) args s 0 0 (hp_A G)) G 4 0 0 55 [(0, .ref x0), (1, .int x1), (3, .int x3)] [.int t1, .int t0] h := by
  unfold f_X11_hidden_55 at hf
  refine wk_ior X dX11_hidden_55 ?_
  refine wk_istore_n (lv' := [(2, .int (t0 ||| t1)), (0, .ref x0), (1, .int x1), (3, .int x3)]) X dX11_hidden_56 (by decide) rfl ?_
  refine wk_iinc (lv' := [(3, .int (x3 + 1)), (2, .int (t0 ||| t1)), (0, .ref x0), (1, .int x1)]) X dX11_hidden_57 3 rfl ic_1 (by decide) rfl ?_
  refine wk_goto X 19 dX11_hidden_60 (by decide) ?_
  exact wq_sub [2, 3, 1, 0] rfl (hk19 _ _ _ _ _ hf)
def f_X11_hidden_54 (k19 : Nat → Int32 → Int32 → Int32 → hp_H → Option (Int32 × hp_H)) (x0 : Nat) (x1 : Int32) (x3 : Int32) (t0 : Int32) (h : hp_H) : Option (Int32 × hp_H) := f_X11_hidden_55 k19 x0 x1 x3 t0 0 h
set_option maxRecDepth 20000 in
theorem w_X11_hidden_54 (X : wx G p s m args meth c cX11_hidden 4 RX11 (some .int)) (k19 : Nat → Int32 → Int32 → Int32 → hp_H → Option (Int32 × hp_H)) (hk19 : ∀ (x0 : Nat) (x1 : Int32) (x2 : Int32) (x3 : Int32) (h : hp_H), k19 x0 x1 x2 x3 h = some o → wq p l e (mt_R (5) 0 0) s m args below meth c (MQ below (mt_Q G (some (.int o.1)) o.2) args s 0 0 (hp_A G)) G 4 0 0 19 [(0, .ref x0), (1, .int x1), (2, .int x2), (3, .int x3)] [] h) (x0 : Nat) (x1 : Int32) (x3 : Int32) (t0 : Int32) (h : hp_H) (hf : f_X11_hidden_54 k19 x0 x1 x3 t0 h = some o) : wq p l e (mt_R (5) 0 0) s m args below meth c (MQ below (mt_Q G (some (.int o.1)) o.2) args s 0 0 (hp_A G)) G 4 0 0 54 [(0, .ref x0), (1, .int x1), (3, .int x3)] [.int t0] h := by
  unfold f_X11_hidden_54 at hf
  refine wk_iconst X dX11_hidden_54 ic_0 ?_
  exact wq_sub [0, 1, 2] rfl (w_X11_hidden_55 X k19 hk19 _ _ _ _ _ _ hf)
def f_X11_hidden_19 (k19 : Nat → Int32 → Int32 → Int32 → hp_H → Option (Int32 × hp_H)) (x0 : Nat) (x1 : Int32) (x2 : Int32) (x3 : Int32) (h : hp_H) : Option (Int32 × hp_H) := (rd_I h x0 11 3).bind fun v1 => if v1 ≤ x3 then (f_X11_hidden_63 x2 h) else ((f_X11_canTry x0 x1 x3 h).bind fun r2 => if r2.1 = 0 then (f_X11_hidden_54 k19 x0 x1 x3 x2 r2.2) else ((f_X11_namedOf x0 33 x3 r2.2).bind fun r3 => if r3.1 = x1 then (f_X11_hidden_54 k19 x0 x1 x3 x2 r3.2) else (f_X11_hidden_55 k19 x0 x1 x3 x2 (1 <<< (x3 &&& 31)) r3.2)))
set_option maxRecDepth 20000 in
theorem w_X11_hidden_19 (X : wx G p s m args meth c cX11_hidden 4 RX11 (some .int)) (k19 : Nat → Int32 → Int32 → Int32 → hp_H → Option (Int32 × hp_H)) (hk19 : ∀ (x0 : Nat) (x1 : Int32) (x2 : Int32) (x3 : Int32) (h : hp_H), k19 x0 x1 x2 x3 h = some o → wq p l e (mt_R (5) 0 0) s m args below meth c (MQ below (mt_Q G (some (.int o.1)) o.2) args s 0 0 (hp_A G)) G 4 0 0 19 [(0, .ref x0), (1, .int x1), (2, .int x2), (3, .int x3)] [] h) (x0 : Nat) (x1 : Int32) (x2 : Int32) (x3 : Int32) (h : hp_H) (hf : f_X11_hidden_19 k19 x0 x1 x2 x3 h = some o) : wq p l e (mt_R (5) 0 0) s m args below meth c (MQ below (mt_Q G (some (.int o.1)) o.2) args s 0 0 (hp_A G)) G 4 0 0 19 [(0, .ref x0), (1, .int x1), (2, .int x2), (3, .int x3)] [] h := by
  unfold f_X11_hidden_19 at hf
  refine wk_iload_n X dX11_hidden_19 3 rfl ?_
  refine wk_aload_n X dX11_hidden_20 0 rfl ?_
  refine wk_getI X dX11_hidden_21 fo_X11_254 hf (fun v1 hf => ?_)
  refine wk_icmp_ge X 63 dX11_hidden_24 (by decide) hf (fun hf => ?_) (fun hf => ?_)
  · exact wq_sub [2] rfl (w_X11_hidden_63 X _ _ hf)
  · refine wk_iload_n X dX11_hidden_27 2 rfl ?_
    refine wk_aload_n X dX11_hidden_28 0 rfl ?_
    refine wk_iload_n X dX11_hidden_29 1 rfl ?_
    refine wk_iload_n X dX11_hidden_30 3 rfl ?_
    refine wk_callVi X [.int x1, .int x3] [.int x2] dX11_hidden_31 rfl vo_X11_363 rfl (by decide) (Nat.le_of_ble_eq_true rfl) hf (c_X11_canTry l _ _ _ _) (fun r2 hf => ?_)
    refine wk_if_eq X 54 dX11_hidden_34 (by decide) hf (fun hf => ?_) (fun hf => ?_)
    · exact wq_sub [0, 1, 3] rfl (w_X11_hidden_54 X k19 hk19 _ _ _ _ _ hf)
    · refine wk_aload_n X dX11_hidden_37 0 rfl ?_
      refine wk_bipush X dX11_hidden_38 ib_33 ?_
      refine wk_iload_n X dX11_hidden_40 3 rfl ?_
      refine wk_callVi X [.int 33, .int x3] [.int x2] dX11_hidden_41 rfl vo_X11_302 rfl (by decide) (Nat.le_of_ble_eq_true rfl) hf (c_X11_namedOf l _ _ _ _) (fun r3 hf => ?_)
      refine wk_iload_n X dX11_hidden_44 1 rfl ?_
      refine wk_icmp_eq X 54 dX11_hidden_45 (by decide) hf (fun hf => ?_) (fun hf => ?_)
      · exact wq_sub [0, 1, 3] rfl (w_X11_hidden_54 X k19 hk19 _ _ _ _ _ hf)
      · refine wk_iconst X dX11_hidden_48 ic_1 ?_
        refine wk_iload_n X dX11_hidden_49 3 rfl ?_
        refine wk_ishl X dX11_hidden_50 ?_
        refine wk_goto X 55 dX11_hidden_51 (by decide) ?_
        exact wq_sub [0, 1, 3] rfl (w_X11_hidden_55 X k19 hk19 _ _ _ _ _ _ hf)
def l_X11_hidden_19 (x0 : Nat) (x1 : Int32) (x2 : Int32) (x3 : Int32) (h : hp_H) : Option (Int32 × hp_H) := lp (fun k (s : Nat × Int32 × Int32 × Int32 × hp_H) => f_X11_hidden_19  (fun a0 a1 a2 a3 a4 => k (a0, a1, a2, a3, a4)) s.1 s.2.1 s.2.2.1 s.2.2.2.1 s.2.2.2.2) 100000 (x0, x1, x2, x3, h)
theorem wl_X11_hidden_19 (X : wx G p s m args meth c cX11_hidden 4 RX11 (some .int)) (x0 : Nat) (x1 : Int32) (x2 : Int32) (x3 : Int32) (h : hp_H) (hf : l_X11_hidden_19 x0 x1 x2 x3 h = some o) : wq p l e (mt_R (5) 0 0) s m args below meth c (MQ below (mt_Q G (some (.int o.1)) o.2) args s 0 0 (hp_A G)) G 4 0 0 19 [(0, .ref x0), (1, .int x1), (2, .int x2), (3, .int x3)] [] h :=
  lp_ind (P := fun (s_ : Nat × Int32 × Int32 × Int32 × hp_H) => wq p l e (mt_R (5) 0 0) s m args below meth c (MQ below (mt_Q G (some (.int o.1)) o.2) args s 0 0 (hp_A G)) G 4 0 0 19 [(0, .ref s_.1), (1, .int s_.2.1), (2, .int s_.2.2.1), (3, .int s_.2.2.2.1)] [] s_.2.2.2.2) (fun k s hk hf => w_X11_hidden_19 X  (fun a0 a1 a2 a3 a4 => k (a0, a1, a2, a3, a4)) (fun a0 a1 a2 a3 a4 hf => hk (a0, a1, a2, a3, a4) hf) s.1 s.2.1 s.2.2.1 s.2.2.2.1 s.2.2.2.2 hf) 100000 (x0, x1, x2, x3, h) hf
end Sf_X11_hidden
def f_X11_hidden (x0 : Nat) (x1 : Int32) (h : hp_H) : Option (Int32 × hp_H) := gd h x0 11 ((wr_I h x0 11 0 0).bind fun h1 => (f_X11_isMan x0 x1 h1).bind fun r2 => if r2.1 = 0 then (some (0, r2.2)) else (l_X11_hidden_19 x0 x1 0 0 r2.2))
set_option maxRecDepth 20000 in
theorem c_X11_hidden (l : Launch) (x0 : Nat) (x1 : Int32) (h : hp_H) (r : Int32 × hp_H) (hf : f_X11_hidden x0 x1 h = some r) : cv l (5) yX11_hidden cX11_hidden 4 (some .int) 11 x0 [.int x1] h (some (.int r.1)) r.2 := by
  unfold f_X11_hidden at hf
  refine cv_of (lv := [(0, .ref x0), (1, .int x1)]) hf (by decide +kernel) (Nat.le_of_ble_eq_true rfl) rfl (fun hf p e s m args below meth c G X => ?_)
  refine wk_aload_n X dX11_hidden_0 0 rfl ?_
  refine wk_iconst X dX11_hidden_1 ic_0 ?_
  refine wk_putI X dX11_hidden_2 fo_X11_84 hf (fun h1 hf => ?_)
  refine wk_aload_n X dX11_hidden_5 0 rfl ?_
  refine wk_iload_n X dX11_hidden_6 1 rfl ?_
  refine wk_callVi X [.int x1] [] dX11_hidden_7 rfl vo_X11_327 rfl (by decide) (Nat.le_of_ble_eq_true rfl) hf (c_X11_isMan l _ _ _) (fun r2 hf => ?_)
  refine wk_if_ne X 15 dX11_hidden_10 (by decide) hf (fun hf => ?_) (fun hf => ?_)
  · refine wk_iconst X dX11_hidden_15 ic_0 ?_
    refine wk_istore_n (lv' := [(2, .int 0), (0, .ref x0), (1, .int x1)]) X dX11_hidden_16 (by decide) rfl ?_
    refine wk_iconst X dX11_hidden_17 ic_0 ?_
    refine wk_istore_n (lv' := [(3, .int 0), (2, .int 0), (0, .ref x0), (1, .int x1)]) X dX11_hidden_18 (by decide) rfl ?_
    exact wq_sub [2, 3, 1, 0] rfl (wl_X11_hidden_19 X _ _ _ _ _ hf)
  · refine wk_iconst X dX11_hidden_13 ic_0 ?_
    exact wk_ireturn X dX11_hidden_14 hf
section Sf_X11_toSock
variable {p : Program} {l : Launch} {e : Env} {s : State} {m : MethodId} {args : Array Value} {below : List Frame} {meth : Method} {c : Code} {G : hp_G} {o : Int32 × hp_H}
def f_X11_toSock_72  (h : hp_H) : Option (Int32 × hp_H) := some ((-1), h)
set_option maxRecDepth 20000 in
theorem w_X11_toSock_72 (X : wx G p s m args meth c cX11_toSock 3 RX11 (some .int))  (h : hp_H) (hf : f_X11_toSock_72 h = some o) : wq p l e (mt_R (6) 0 0) s m args below meth c (MQ below (mt_Q G (some (.int o.1)) o.2) args s 0 0 (hp_A G)) G 3 0 0 72 [] [] h := by
  unfold f_X11_toSock_72 at hf
  refine wk_iconst X dX11_toSock_72 ic_m1 ?_
  exact wk_ireturn X dX11_toSock_73 hf
def f_X11_toSock_64 (x2 : Int32) (h : hp_H) : Option (Int32 × hp_H) := some (x2, h)
set_option maxRecDepth 20000 in
theorem w_X11_toSock_64 (X : wx G p s m args meth c cX11_toSock 3 RX11 (some .int)) (x2 : Int32) (h : hp_H) (hf : f_X11_toSock_64 x2 h = some o) : wq p l e (mt_R (6) 0 0) s m args below meth c (MQ below (mt_Q G (some (.int o.1)) o.2) args s 0 0 (hp_A G)) G 3 0 0 64 [(2, .int x2)] [] h := by
  unfold f_X11_toSock_64 at hf
  refine wk_iload_n X dX11_toSock_64 0 rfl ?_
  exact wk_ireturn X dX11_toSock_65 hf
def f_X11_toSock_18 (k18 : Nat → Int32 → Int32 → hp_H → Option (Int32 × hp_H)) (x0 : Nat) (x1 : Int32) (x2 : Int32) (h : hp_H) : Option (Int32 × hp_H) := if x2 < 1 then (f_X11_toSock_72 h) else ((f_X11_rowOf x0 0 x1 h).bind fun r1 => if r1.1 = (-1) then (f_X11_toSock_72 r1.2) else ((f_X11_tries x0 r1.2).bind fun r2 => (rd_R r2 x0 11 36).bind fun v3 => (wr_A r2 v3 (42 + x1) x2).bind fun h4 => (f_X11_nightGoes x0 33 h4).bind fun r5 => (rd_I r5 x0 11 42).bind fun v6 => if ((v6 >>> (x1 &&& 31)) &&& (1 : Int32)) = 0 then (f_X11_toSock_64 x2 r5) else (k18 x0 x1 (x2 + (-1)) r5)))
set_option maxRecDepth 20000 in
theorem w_X11_toSock_18 (X : wx G p s m args meth c cX11_toSock 3 RX11 (some .int)) (k18 : Nat → Int32 → Int32 → hp_H → Option (Int32 × hp_H)) (hk18 : ∀ (x0 : Nat) (x1 : Int32) (x2 : Int32) (h : hp_H), k18 x0 x1 x2 h = some o → wq p l e (mt_R (6) 0 0) s m args below meth c (MQ below (mt_Q G (some (.int o.1)) o.2) args s 0 0 (hp_A G)) G 3 0 0 18 [(0, .ref x0), (1, .int x1), (2, .int x2)] [] h) (x0 : Nat) (x1 : Int32) (x2 : Int32) (h : hp_H) (hf : f_X11_toSock_18 k18 x0 x1 x2 h = some o) : wq p l e (mt_R (6) 0 0) s m args below meth c (MQ below (mt_Q G (some (.int o.1)) o.2) args s 0 0 (hp_A G)) G 3 0 0 18 [(0, .ref x0), (1, .int x1), (2, .int x2)] [] h := by
  unfold f_X11_toSock_18 at hf
  refine wk_iload_n X dX11_toSock_18 2 rfl ?_
  refine wk_iconst X dX11_toSock_19 ic_1 ?_
  refine wk_icmp_lt X 72 dX11_toSock_20 (by decide) hf (fun hf => ?_) (fun hf => ?_)
  · exact wq_sub [] rfl (w_X11_toSock_72 X _ hf)
  · refine wk_aload_n X dX11_toSock_23 0 rfl ?_
    refine wk_iconst X dX11_toSock_24 ic_0 ?_
    refine wk_iload_n X dX11_toSock_25 1 rfl ?_
    refine wk_callVi X [.int 0, .int x1] [] dX11_toSock_26 rfl vo_X11_311 rfl (by decide) (Nat.le_of_ble_eq_true rfl) hf (c_X11_rowOf l _ _ _ _) (fun r1 hf => ?_)
    refine wk_iconst X dX11_toSock_29 ic_m1 ?_
    refine wk_icmp_eq X 72 dX11_toSock_30 (by decide) hf (fun hf => ?_) (fun hf => ?_)
    · exact wq_sub [] rfl (w_X11_toSock_72 X _ hf)
    · refine wk_aload_n X dX11_toSock_33 0 rfl ?_
      refine wk_callVv X [] [] dX11_toSock_34 rfl vo_X11_347 rfl (by decide) (Nat.le_of_ble_eq_true rfl) hf (c_X11_tries l _ _) (fun r2 hf => ?_)
      refine wk_aload_n X dX11_toSock_37 0 rfl ?_
      refine wk_getR X dX11_toSock_38 fo_X11_51 hf (fun v3 hf => ?_)
      refine wk_bipush X dX11_toSock_41 ib_42 ?_
      refine wk_iload_n X dX11_toSock_43 1 rfl ?_
      refine wk_iadd X dX11_toSock_44 ?_
      refine wk_iload_n X dX11_toSock_45 2 rfl ?_
      refine wk_iast X dX11_toSock_46 hf (fun h4 hf => ?_)
      refine wk_aload_n X dX11_toSock_47 0 rfl ?_
      refine wk_bipush X dX11_toSock_48 ib_33 ?_
      refine wk_callVv X [.int 33] [] dX11_toSock_50 rfl vo_X11_308 rfl (by decide) (Nat.le_of_ble_eq_true rfl) hf (c_X11_nightGoes l _ _ _) (fun r5 hf => ?_)
      refine wk_aload_n X dX11_toSock_53 0 rfl ?_
      refine wk_getI X dX11_toSock_54 fo_X11_296 hf (fun v6 hf => ?_)
      refine wk_iload_n X dX11_toSock_57 1 rfl ?_
      refine wk_ishr X dX11_toSock_58 ?_
      refine wk_iconst X dX11_toSock_59 ic_1 ?_
      refine wk_iand X dX11_toSock_60 ?_
      refine wk_if_ne X 66 dX11_toSock_61 (by decide) hf (fun hf => ?_) (fun hf => ?_)
      · refine wk_iinc (lv' := [(2, .int (x2 + (-1))), (0, .ref x0), (1, .int x1)]) X dX11_toSock_66 2 rfl ic_m1 (by decide) rfl ?_
        refine wk_goto X 18 dX11_toSock_69 (by decide) ?_
        exact wq_sub [1, 2, 0] rfl (hk18 _ _ _ _ hf)
      · exact wq_sub [2] rfl (w_X11_toSock_64 X _ _ hf)
def l_X11_toSock_18 (x0 : Nat) (x1 : Int32) (x2 : Int32) (h : hp_H) : Option (Int32 × hp_H) := lp (fun k (s : Nat × Int32 × Int32 × hp_H) => f_X11_toSock_18  (fun a0 a1 a2 a3 => k (a0, a1, a2, a3)) s.1 s.2.1 s.2.2.1 s.2.2.2) 100000 (x0, x1, x2, h)
theorem wl_X11_toSock_18 (X : wx G p s m args meth c cX11_toSock 3 RX11 (some .int)) (x0 : Nat) (x1 : Int32) (x2 : Int32) (h : hp_H) (hf : l_X11_toSock_18 x0 x1 x2 h = some o) : wq p l e (mt_R (6) 0 0) s m args below meth c (MQ below (mt_Q G (some (.int o.1)) o.2) args s 0 0 (hp_A G)) G 3 0 0 18 [(0, .ref x0), (1, .int x1), (2, .int x2)] [] h :=
  lp_ind (P := fun (s_ : Nat × Int32 × Int32 × hp_H) => wq p l e (mt_R (6) 0 0) s m args below meth c (MQ below (mt_Q G (some (.int o.1)) o.2) args s 0 0 (hp_A G)) G 3 0 0 18 [(0, .ref s_.1), (1, .int s_.2.1), (2, .int s_.2.2.1)] [] s_.2.2.2) (fun k s hk hf => w_X11_toSock_18 X  (fun a0 a1 a2 a3 => k (a0, a1, a2, a3)) (fun a0 a1 a2 a3 hf => hk (a0, a1, a2, a3) hf) s.1 s.2.1 s.2.2.1 s.2.2.2 hf) 100000 (x0, x1, x2, h) hf
end Sf_X11_toSock
def f_X11_toSock (x0 : Nat) (x1 : Int32) (h : hp_H) : Option (Int32 × hp_H) := gd h x0 11 ((wr_I h x0 11 0 0).bind fun h1 => (f_X11_isMan x0 x1 h1).bind fun r2 => if r2.1 = 0 then (some (0, r2.2)) else (l_X11_toSock_18 x0 x1 9 r2.2))
set_option maxRecDepth 20000 in
theorem c_X11_toSock (l : Launch) (x0 : Nat) (x1 : Int32) (h : hp_H) (r : Int32 × hp_H) (hf : f_X11_toSock x0 x1 h = some r) : cv l (6) yX11_toSock cX11_toSock 3 (some .int) 11 x0 [.int x1] h (some (.int r.1)) r.2 := by
  unfold f_X11_toSock at hf
  refine cv_of (lv := [(0, .ref x0), (1, .int x1)]) hf (by decide +kernel) (Nat.le_of_ble_eq_true rfl) rfl (fun hf p e s m args below meth c G X => ?_)
  refine wk_aload_n X dX11_toSock_0 0 rfl ?_
  refine wk_iconst X dX11_toSock_1 ic_0 ?_
  refine wk_putI X dX11_toSock_2 fo_X11_84 hf (fun h1 hf => ?_)
  refine wk_aload_n X dX11_toSock_5 0 rfl ?_
  refine wk_iload_n X dX11_toSock_6 1 rfl ?_
  refine wk_callVi X [.int x1] [] dX11_toSock_7 rfl vo_X11_327 rfl (by decide) (Nat.le_of_ble_eq_true rfl) hf (c_X11_isMan l _ _ _) (fun r2 hf => ?_)
  refine wk_if_ne X 15 dX11_toSock_10 (by decide) hf (fun hf => ?_) (fun hf => ?_)
  · refine wk_bipush X dX11_toSock_15 ib_9 ?_
    refine wk_istore_n (lv' := [(2, .int 9), (0, .ref x0), (1, .int x1)]) X dX11_toSock_17 (by decide) rfl ?_
    exact wq_sub [1, 2, 0] rfl (wl_X11_toSock_18 X _ _ _ _ hf)
  · refine wk_iconst X dX11_toSock_13 ic_0 ?_
    exact wk_ireturn X dX11_toSock_14 hf
section Sf_X11_power
variable {p : Program} {l : Launch} {e : Env} {s : State} {m : MethodId} {args : Array Value} {below : List Frame} {meth : Method} {c : Code} {G : hp_G} {o : Int32 × hp_H}
def f_X11_power_19 (x2 : Int32) (h : hp_H) : Option (Int32 × hp_H) := some (x2, h)
set_option maxRecDepth 20000 in
theorem w_X11_power_19 (X : wx G p s m args meth c cX11_power 4 RX11 (some .int)) (x2 : Int32) (h : hp_H) (hf : f_X11_power_19 x2 h = some o) : wq p l e (mt_R (1) 0 0) s m args below meth c (MQ below (mt_Q G (some (.int o.1)) o.2) args s 0 0 (hp_A G)) G 4 0 0 19 [(2, .int x2)] [] h := by
  unfold f_X11_power_19 at hf
  refine wk_iload_n X dX11_power_19 0 rfl ?_
  exact wk_ireturn X dX11_power_20 hf
def f_X11_power_4 (k4 : Int32 → Int32 → Int32 → Int32 → hp_H → Option (Int32 × hp_H)) (x0 : Int32) (x1 : Int32) (x2 : Int32) (x3 : Int32) (h : hp_H) : Option (Int32 × hp_H) := if x1 ≤ x3 then (f_X11_power_19 x2 h) else (k4 x0 x1 (x0 * x2) (x3 + 1) h)
set_option maxRecDepth 20000 in
theorem w_X11_power_4 (X : wx G p s m args meth c cX11_power 4 RX11 (some .int)) (k4 : Int32 → Int32 → Int32 → Int32 → hp_H → Option (Int32 × hp_H)) (hk4 : ∀ (x0 : Int32) (x1 : Int32) (x2 : Int32) (x3 : Int32) (h : hp_H), k4 x0 x1 x2 x3 h = some o → wq p l e (mt_R (1) 0 0) s m args below meth c (MQ below (mt_Q G (some (.int o.1)) o.2) args s 0 0 (hp_A G)) G 4 0 0 4 [(0, .int x0), (1, .int x1), (2, .int x2), (3, .int x3)] [] h) (x0 : Int32) (x1 : Int32) (x2 : Int32) (x3 : Int32) (h : hp_H) (hf : f_X11_power_4 k4 x0 x1 x2 x3 h = some o) : wq p l e (mt_R (1) 0 0) s m args below meth c (MQ below (mt_Q G (some (.int o.1)) o.2) args s 0 0 (hp_A G)) G 4 0 0 4 [(0, .int x0), (1, .int x1), (2, .int x2), (3, .int x3)] [] h := by
  unfold f_X11_power_4 at hf
  refine wk_iload_n X dX11_power_4 3 rfl ?_
  refine wk_iload_n X dX11_power_5 1 rfl ?_
  refine wk_icmp_ge X 19 dX11_power_6 (by decide) hf (fun hf => ?_) (fun hf => ?_)
  · exact wq_sub [2] rfl (w_X11_power_19 X _ _ hf)
  · refine wk_iload_n X dX11_power_9 0 rfl ?_
    refine wk_iload_n X dX11_power_10 2 rfl ?_
    refine wk_imul X dX11_power_11 ?_
    refine wk_istore_n (lv' := [(2, .int (x0 * x2)), (0, .int x0), (1, .int x1), (3, .int x3)]) X dX11_power_12 (by decide) rfl ?_
    refine wk_iinc (lv' := [(3, .int (x3 + 1)), (2, .int (x0 * x2)), (0, .int x0), (1, .int x1)]) X dX11_power_13 3 rfl ic_1 (by decide) rfl ?_
    refine wk_goto X 4 dX11_power_16 (by decide) ?_
    exact wq_sub [2, 3, 1, 0] rfl (hk4 _ _ _ _ _ hf)
def l_X11_power_4 (x0 : Int32) (x1 : Int32) (x2 : Int32) (x3 : Int32) (h : hp_H) : Option (Int32 × hp_H) := lp (fun k (s : Int32 × Int32 × Int32 × Int32 × hp_H) => f_X11_power_4  (fun a0 a1 a2 a3 a4 => k (a0, a1, a2, a3, a4)) s.1 s.2.1 s.2.2.1 s.2.2.2.1 s.2.2.2.2) 100000 (x0, x1, x2, x3, h)
theorem wl_X11_power_4 (X : wx G p s m args meth c cX11_power 4 RX11 (some .int)) (x0 : Int32) (x1 : Int32) (x2 : Int32) (x3 : Int32) (h : hp_H) (hf : l_X11_power_4 x0 x1 x2 x3 h = some o) : wq p l e (mt_R (1) 0 0) s m args below meth c (MQ below (mt_Q G (some (.int o.1)) o.2) args s 0 0 (hp_A G)) G 4 0 0 4 [(0, .int x0), (1, .int x1), (2, .int x2), (3, .int x3)] [] h :=
  lp_ind (P := fun (s_ : Int32 × Int32 × Int32 × Int32 × hp_H) => wq p l e (mt_R (1) 0 0) s m args below meth c (MQ below (mt_Q G (some (.int o.1)) o.2) args s 0 0 (hp_A G)) G 4 0 0 4 [(0, .int s_.1), (1, .int s_.2.1), (2, .int s_.2.2.1), (3, .int s_.2.2.2.1)] [] s_.2.2.2.2) (fun k s hk hf => w_X11_power_4 X  (fun a0 a1 a2 a3 a4 => k (a0, a1, a2, a3, a4)) (fun a0 a1 a2 a3 a4 hf => hk (a0, a1, a2, a3, a4) hf) s.1 s.2.1 s.2.2.1 s.2.2.2.1 s.2.2.2.2 hf) 100000 (x0, x1, x2, x3, h) hf
end Sf_X11_power
def f_X11_power (x0 : Int32) (x1 : Int32) (h : hp_H) : Option (Int32 × hp_H) := l_X11_power_4 x0 x1 1 0 h
set_option maxRecDepth 20000 in
theorem c_X11_power (l : Launch) (x0 : Int32) (x1 : Int32) (h : hp_H) (r : Int32 × hp_H) (hf : f_X11_power x0 x1 h = some r) : cs l 1 yX11_power cX11_power 4 (some .int) [.int x0, .int x1] h (some (.int r.1)) r.2 := by
  unfold f_X11_power at hf
  refine mt_of (lv := [(0, .int x0), (1, .int x1)]) (by decide +kernel) (Nat.le_of_ble_eq_true rfl) rfl (fun p e s m args below meth c G X => ?_)
  refine wk_iconst X dX11_power_0 ic_1 ?_
  refine wk_istore_n (lv' := [(2, .int 1), (0, .int x0), (1, .int x1)]) X dX11_power_1 (by decide) rfl ?_
  refine wk_iconst X dX11_power_2 ic_0 ?_
  refine wk_istore_n (lv' := [(3, .int 0), (2, .int 1), (0, .int x0), (1, .int x1)]) X dX11_power_3 (by decide) rfl ?_
  exact wq_sub [2, 3, 1, 0] rfl (wl_X11_power_4 X _ _ _ _ _ hf)
section Sf_X11_isOrder
variable {p : Program} {l : Launch} {e : Env} {s : State} {m : MethodId} {args : Array Value} {below : List Frame} {meth : Method} {c : Code} {G : hp_G} {o : Int32 × hp_H}
def f_X11_isOrder_86 (t0 : Int32) (h : hp_H) : Option (Int32 × hp_H) := if t0 = 0 ∨ t0 = 1 then some (t0, h) else none
set_option maxRecDepth 20000 in
theorem w_X11_isOrder_86 (X : wx G p s m args meth c cX11_isOrder 6 RX11 (some .boolean)) (t0 : Int32) (h : hp_H) (hf : f_X11_isOrder_86 t0 h = some o) : wq p l e (mt_R (2) 0 0) s m args below meth c (MQ below (mt_Q G (some (.int o.1)) o.2) args s 0 0 (hp_A G)) G 6 0 0 86 [] [.int t0] h := by
  unfold f_X11_isOrder_86 at hf
  exact wk_zreturn X dX11_isOrder_86 hf
def f_X11_isOrder_69 (x0 : Nat) (x2 : Int32) (h : hp_H) : Option (Int32 × hp_H) := (rd_I h x0 11 3).bind fun v1 => if x2 = ((1 <<< (v1 &&& 31)) - (1 : Int32)) then (f_X11_isOrder_86 1 h) else (f_X11_isOrder_86 0 h)
set_option maxRecDepth 20000 in
theorem w_X11_isOrder_69 (X : wx G p s m args meth c cX11_isOrder 6 RX11 (some .boolean)) (x0 : Nat) (x2 : Int32) (h : hp_H) (hf : f_X11_isOrder_69 x0 x2 h = some o) : wq p l e (mt_R (2) 0 0) s m args below meth c (MQ below (mt_Q G (some (.int o.1)) o.2) args s 0 0 (hp_A G)) G 6 0 0 69 [(0, .ref x0), (2, .int x2)] [] h := by
  unfold f_X11_isOrder_69 at hf
  refine wk_iload_n X dX11_isOrder_69 1 rfl ?_
  refine wk_iconst X dX11_isOrder_70 ic_1 ?_
  refine wk_aload_n X dX11_isOrder_71 0 rfl ?_
  refine wk_getI X dX11_isOrder_72 fo_X11_254 hf (fun v1 hf => ?_)
  refine wk_ishl X dX11_isOrder_75 ?_
  refine wk_iconst X dX11_isOrder_76 ic_1 ?_
  refine wk_isub X dX11_isOrder_77 ?_
  refine wk_icmp_ne X 85 dX11_isOrder_78 (by decide) hf (fun hf => ?_) (fun hf => ?_)
  · refine wk_iconst X dX11_isOrder_85 ic_0 ?_
    exact wq_sub [] rfl (w_X11_isOrder_86 X _ _ hf)
  · refine wk_iconst X dX11_isOrder_81 ic_1 ?_
    refine wk_goto X 86 dX11_isOrder_82 (by decide) ?_
    exact wq_sub [] rfl (w_X11_isOrder_86 X _ _ hf)
def f_X11_isOrder_16 (k16 : Nat → Int32 → Int32 → Int32 → hp_H → Option (Int32 × hp_H)) (x0 : Nat) (x2 : Int32) (x3 : Int32) (x4 : Int32) (h : hp_H) : Option (Int32 × hp_H) := if x4 < 0 then (f_X11_isOrder_69 x0 x2 h) else ((rd_I h x0 11 3).bind fun v1 => (hp_rem x3 v1).bind fun v2 => (rd_I h x0 11 3).bind fun v3 => (hp_div x3 v3).bind fun v4 => (rd_R h x0 11 36).bind fun v5 => (rd_R h x0 11 36).bind fun v6 => (rd_A h 0 v6 (25 + v2)).bind fun v7 => (wr_A h v5 (58 + x4) v7).bind fun h8 => k16 x0 (x2 ||| (1 <<< (v2 &&& 31))) v4 (x4 + (-1)) h8)
set_option maxRecDepth 20000 in
theorem w_X11_isOrder_16 (X : wx G p s m args meth c cX11_isOrder 6 RX11 (some .boolean)) (k16 : Nat → Int32 → Int32 → Int32 → hp_H → Option (Int32 × hp_H)) (hk16 : ∀ (x0 : Nat) (x2 : Int32) (x3 : Int32) (x4 : Int32) (h : hp_H), k16 x0 x2 x3 x4 h = some o → wq p l e (mt_R (2) 0 0) s m args below meth c (MQ below (mt_Q G (some (.int o.1)) o.2) args s 0 0 (hp_A G)) G 6 0 0 16 [(0, .ref x0), (2, .int x2), (3, .int x3), (4, .int x4)] [] h) (x0 : Nat) (x2 : Int32) (x3 : Int32) (x4 : Int32) (h : hp_H) (hf : f_X11_isOrder_16 k16 x0 x2 x3 x4 h = some o) : wq p l e (mt_R (2) 0 0) s m args below meth c (MQ below (mt_Q G (some (.int o.1)) o.2) args s 0 0 (hp_A G)) G 6 0 0 16 [(0, .ref x0), (2, .int x2), (3, .int x3), (4, .int x4)] [] h := by
  unfold f_X11_isOrder_16 at hf
  refine wk_iload X dX11_isOrder_16 3 rfl ?_
  refine wk_if_lt X 69 dX11_isOrder_18 (by decide) hf (fun hf => ?_) (fun hf => ?_)
  · exact wq_sub [0, 1] rfl (w_X11_isOrder_69 X _ _ _ hf)
  · refine wk_iload_n X dX11_isOrder_21 2 rfl ?_
    refine wk_aload_n X dX11_isOrder_22 0 rfl ?_
    refine wk_getI X dX11_isOrder_23 fo_X11_254 hf (fun v1 hf => ?_)
    refine wk_irem X dX11_isOrder_26 hf (fun v2 hf => ?_)
    refine wk_istore (lv' := [(5, .int v2), (0, .ref x0), (2, .int x2), (3, .int x3), (4, .int x4)]) X dX11_isOrder_27 (by decide) rfl ?_
    refine wk_iload_n X dX11_isOrder_29 3 rfl ?_
    refine wk_aload_n X dX11_isOrder_30 1 rfl ?_
    refine wk_getI X dX11_isOrder_31 fo_X11_254 hf (fun v3 hf => ?_)
    refine wk_idiv X dX11_isOrder_34 hf (fun v4 hf => ?_)
    refine wk_istore_n (lv' := [(3, .int v4), (5, .int v2), (0, .ref x0), (2, .int x2), (4, .int x4)]) X dX11_isOrder_35 (by decide) rfl ?_
    refine wk_aload_n X dX11_isOrder_36 2 rfl ?_
    refine wk_getR X dX11_isOrder_37 fo_X11_51 hf (fun v5 hf => ?_)
    refine wk_bipush X dX11_isOrder_40 ib_58 ?_
    refine wk_iload X dX11_isOrder_42 4 rfl ?_
    refine wk_iadd X dX11_isOrder_44 ?_
    refine wk_aload_n X dX11_isOrder_45 2 rfl ?_
    refine wk_getR X dX11_isOrder_46 fo_X11_51 hf (fun v6 hf => ?_)
    refine wk_bipush X dX11_isOrder_49 ib_25 ?_
    refine wk_iload X dX11_isOrder_51 1 rfl ?_
    refine wk_iadd X dX11_isOrder_53 ?_
    refine wk_iald X dX11_isOrder_54 hf (fun v7 hf => ?_)
    refine wk_iast X dX11_isOrder_55 hf (fun h8 hf => ?_)
    refine wk_iload_n X dX11_isOrder_56 3 rfl ?_
    refine wk_iconst X dX11_isOrder_57 ic_1 ?_
    refine wk_iload X dX11_isOrder_58 1 rfl ?_
    refine wk_ishl X dX11_isOrder_60 ?_
    refine wk_ior X dX11_isOrder_61 ?_
    refine wk_istore_n (lv' := [(2, .int (x2 ||| (1 <<< (v2 &&& 31)))), (3, .int v4), (5, .int v2), (0, .ref x0), (4, .int x4)]) X dX11_isOrder_62 (by decide) rfl ?_
    refine wk_iinc (lv' := [(4, .int (x4 + (-1))), (2, .int (x2 ||| (1 <<< (v2 &&& 31)))), (3, .int v4), (5, .int v2), (0, .ref x0)]) X dX11_isOrder_63 4 rfl ic_m1 (by decide) rfl ?_
    refine wk_goto X 16 dX11_isOrder_66 (by decide) ?_
    exact wq_sub [4, 1, 2, 0] rfl (hk16 _ _ _ _ _ hf)
def l_X11_isOrder_16 (x0 : Nat) (x2 : Int32) (x3 : Int32) (x4 : Int32) (h : hp_H) : Option (Int32 × hp_H) := lp (fun k (s : Nat × Int32 × Int32 × Int32 × hp_H) => f_X11_isOrder_16  (fun a0 a1 a2 a3 a4 => k (a0, a1, a2, a3, a4)) s.1 s.2.1 s.2.2.1 s.2.2.2.1 s.2.2.2.2) 100000 (x0, x2, x3, x4, h)
theorem wl_X11_isOrder_16 (X : wx G p s m args meth c cX11_isOrder 6 RX11 (some .boolean)) (x0 : Nat) (x2 : Int32) (x3 : Int32) (x4 : Int32) (h : hp_H) (hf : l_X11_isOrder_16 x0 x2 x3 x4 h = some o) : wq p l e (mt_R (2) 0 0) s m args below meth c (MQ below (mt_Q G (some (.int o.1)) o.2) args s 0 0 (hp_A G)) G 6 0 0 16 [(0, .ref x0), (2, .int x2), (3, .int x3), (4, .int x4)] [] h :=
  lp_ind (P := fun (s_ : Nat × Int32 × Int32 × Int32 × hp_H) => wq p l e (mt_R (2) 0 0) s m args below meth c (MQ below (mt_Q G (some (.int o.1)) o.2) args s 0 0 (hp_A G)) G 6 0 0 16 [(0, .ref s_.1), (2, .int s_.2.1), (3, .int s_.2.2.1), (4, .int s_.2.2.2.1)] [] s_.2.2.2.2) (fun k s hk hf => w_X11_isOrder_16 X  (fun a0 a1 a2 a3 a4 => k (a0, a1, a2, a3, a4)) (fun a0 a1 a2 a3 a4 hf => hk (a0, a1, a2, a3, a4) hf) s.1 s.2.1 s.2.2.1 s.2.2.2.1 s.2.2.2.2 hf) 100000 (x0, x2, x3, x4, h) hf
end Sf_X11_isOrder
def f_X11_isOrder (x0 : Nat) (x1 : Int32) (h : hp_H) : Option (Int32 × hp_H) := gd h x0 11 ((f_X11_tries x0 h).bind fun r1 => (rd_I r1 x0 11 3).bind fun v2 => l_X11_isOrder_16 x0 0 x1 (v2 - 1) r1)
set_option maxRecDepth 20000 in
theorem c_X11_isOrder (l : Launch) (x0 : Nat) (x1 : Int32) (h : hp_H) (r : Int32 × hp_H) (hf : f_X11_isOrder x0 x1 h = some r) : cv l (2) yX11_isOrder cX11_isOrder 6 (some .boolean) 11 x0 [.int x1] h (some (.int r.1)) r.2 := by
  unfold f_X11_isOrder at hf
  refine cv_of (lv := [(0, .ref x0), (1, .int x1)]) hf (by decide +kernel) (Nat.le_of_ble_eq_true rfl) rfl (fun hf p e s m args below meth c G X => ?_)
  refine wk_iconst X dX11_isOrder_0 ic_0 ?_
  refine wk_istore_n (lv' := [(2, .int 0), (0, .ref x0), (1, .int x1)]) X dX11_isOrder_1 (by decide) rfl ?_
  refine wk_iload_n X dX11_isOrder_2 2 rfl ?_
  refine wk_istore_n (lv' := [(3, .int x1), (2, .int 0), (0, .ref x0), (1, .int x1)]) X dX11_isOrder_3 (by decide) rfl ?_
  refine wk_aload_n X dX11_isOrder_4 2 rfl ?_
  refine wk_callVv X [] [] dX11_isOrder_5 rfl vo_X11_347 rfl (by decide) (Nat.le_of_ble_eq_true rfl) hf (c_X11_tries l _ _) (fun r1 hf => ?_)
  refine wk_aload_n X dX11_isOrder_8 2 rfl ?_
  refine wk_getI X dX11_isOrder_9 fo_X11_254 hf (fun v2 hf => ?_)
  refine wk_iconst X dX11_isOrder_12 ic_1 ?_
  refine wk_isub X dX11_isOrder_13 ?_
  refine wk_istore (lv' := [(4, .int (v2 - 1)), (3, .int x1), (2, .int 0), (0, .ref x0), (1, .int x1)]) X dX11_isOrder_14 (by decide) rfl ?_
  exact wq_sub [3, 2, 1, 0] rfl (wl_X11_isOrder_16 X _ _ _ _ _ hf)
section Sf_X11_rightOnes
variable {p : Program} {l : Launch} {e : Env} {s : State} {m : MethodId} {args : Array Value} {below : List Frame} {meth : Method} {c : Code} {G : hp_G} {o : Int32 × hp_H}
def f_X11_rightOnes_56 (x1 : Int32) (h : hp_H) : Option (Int32 × hp_H) := some (x1, h)
set_option maxRecDepth 20000 in
theorem w_X11_rightOnes_56 (X : wx G p s m args meth c cX11_rightOnes 4 RX11 (some .int)) (x1 : Int32) (h : hp_H) (hf : f_X11_rightOnes_56 x1 h = some o) : wq p l e (mt_R (5) 0 0) s m args below meth c (MQ below (mt_Q G (some (.int o.1)) o.2) args s 0 0 (hp_A G)) G 4 0 0 56 [(1, .int x1)] [] h := by
  unfold f_X11_rightOnes_56 at hf
  refine wk_iload_n X dX11_rightOnes_56 0 rfl ?_
  exact wk_ireturn X dX11_rightOnes_57 hf
def f_X11_rightOnes_48 (k4 : Nat → Int32 → Int32 → hp_H → Option (Int32 × hp_H)) (x0 : Nat) (x2 : Int32) (t0 : Int32) (t1 : Int32) (h : hp_H) : Option (Int32 × hp_H) := k4 x0 (t0 + t1) (x2 + 1) h
set_option maxRecDepth 20000 in
theorem w_X11_rightOnes_48 (X : wx G p s m args meth c cX11_rightOnes 4 RX11 (some .int)) (k4 : Nat → Int32 → Int32 → hp_H → Option (Int32 × hp_H)) (hk4 : ∀ (x0 : Nat) (x1 : Int32) (x2 : Int32) (h : hp_H), k4 x0 x1 x2 h = some o → wq p l e (mt_R (5) 0 0) s m args below meth c (MQ below (mt_Q G (some (.int o.1)) o.2) args s 0 0 (hp_A G)) G 4 0 0 4 [(0, .ref x0), (1, .int x1), (2, .int x2)] [] h) (x0 : Nat) (x2 : Int32) (t0 : Int32) (t1 : Int32) (h : hp_H) (hf : f_X11_rightOnes_48 k4 x0 x2 t0 t1 h = some o) : wq p l e (mt_R (5) 0 0) s m args below meth c (MQ below (mt_Q G (some (.int o.1)) o.2) args s 0 0 (hp_A G)) G 4 0 0 48 [(0, .ref x0), (2, .int x2)] [.int t1, .int t0] h := by
  unfold f_X11_rightOnes_48 at hf
  refine wk_iadd X dX11_rightOnes_48 ?_
  refine wk_istore_n (lv' := [(1, .int (t0 + t1)), (0, .ref x0), (2, .int x2)]) X dX11_rightOnes_49 (by decide) rfl ?_
  refine wk_iinc (lv' := [(2, .int (x2 + 1)), (1, .int (t0 + t1)), (0, .ref x0)]) X dX11_rightOnes_50 2 rfl ic_1 (by decide) rfl ?_
  refine wk_goto X 4 dX11_rightOnes_53 (by decide) ?_
  exact wq_sub [2, 1, 0] rfl (hk4 _ _ _ _ hf)
def f_X11_rightOnes_47 (k4 : Nat → Int32 → Int32 → hp_H → Option (Int32 × hp_H)) (x0 : Nat) (x2 : Int32) (t0 : Int32) (h : hp_H) : Option (Int32 × hp_H) := f_X11_rightOnes_48 k4 x0 x2 t0 0 h
set_option maxRecDepth 20000 in
theorem w_X11_rightOnes_47 (X : wx G p s m args meth c cX11_rightOnes 4 RX11 (some .int)) (k4 : Nat → Int32 → Int32 → hp_H → Option (Int32 × hp_H)) (hk4 : ∀ (x0 : Nat) (x1 : Int32) (x2 : Int32) (h : hp_H), k4 x0 x1 x2 h = some o → wq p l e (mt_R (5) 0 0) s m args below meth c (MQ below (mt_Q G (some (.int o.1)) o.2) args s 0 0 (hp_A G)) G 4 0 0 4 [(0, .ref x0), (1, .int x1), (2, .int x2)] [] h) (x0 : Nat) (x2 : Int32) (t0 : Int32) (h : hp_H) (hf : f_X11_rightOnes_47 k4 x0 x2 t0 h = some o) : wq p l e (mt_R (5) 0 0) s m args below meth c (MQ below (mt_Q G (some (.int o.1)) o.2) args s 0 0 (hp_A G)) G 4 0 0 47 [(0, .ref x0), (2, .int x2)] [.int t0] h := by
  unfold f_X11_rightOnes_47 at hf
  refine wk_iconst X dX11_rightOnes_47 ic_0 ?_
  exact wq_sub [0, 1] rfl (w_X11_rightOnes_48 X k4 hk4 _ _ _ _ _ hf)
def f_X11_rightOnes_4 (k4 : Nat → Int32 → Int32 → hp_H → Option (Int32 × hp_H)) (x0 : Nat) (x1 : Int32) (x2 : Int32) (h : hp_H) : Option (Int32 × hp_H) := (rd_I h x0 11 3).bind fun v1 => if v1 ≤ x2 then (f_X11_rightOnes_56 x1 h) else ((f_X11_namedOf x0 33 x2 h).bind fun r2 => if r2.1 = (-1) then (f_X11_rightOnes_47 k4 x0 x2 x1 r2.2) else ((rd_R r2.2 x0 11 36).bind fun v3 => (rd_A r2.2 0 v3 (58 + x2)).bind fun v4 => if ((v4 >>> (r2.1 &&& 31)) &&& (1 : Int32)) = 1 then (f_X11_rightOnes_48 k4 x0 x2 x1 1 r2.2) else (f_X11_rightOnes_47 k4 x0 x2 x1 r2.2)))
set_option maxRecDepth 20000 in
theorem w_X11_rightOnes_4 (X : wx G p s m args meth c cX11_rightOnes 4 RX11 (some .int)) (k4 : Nat → Int32 → Int32 → hp_H → Option (Int32 × hp_H)) (hk4 : ∀ (x0 : Nat) (x1 : Int32) (x2 : Int32) (h : hp_H), k4 x0 x1 x2 h = some o → wq p l e (mt_R (5) 0 0) s m args below meth c (MQ below (mt_Q G (some (.int o.1)) o.2) args s 0 0 (hp_A G)) G 4 0 0 4 [(0, .ref x0), (1, .int x1), (2, .int x2)] [] h) (x0 : Nat) (x1 : Int32) (x2 : Int32) (h : hp_H) (hf : f_X11_rightOnes_4 k4 x0 x1 x2 h = some o) : wq p l e (mt_R (5) 0 0) s m args below meth c (MQ below (mt_Q G (some (.int o.1)) o.2) args s 0 0 (hp_A G)) G 4 0 0 4 [(0, .ref x0), (1, .int x1), (2, .int x2)] [] h := by
  unfold f_X11_rightOnes_4 at hf
  refine wk_iload_n X dX11_rightOnes_4 2 rfl ?_
  refine wk_aload_n X dX11_rightOnes_5 0 rfl ?_
  refine wk_getI X dX11_rightOnes_6 fo_X11_254 hf (fun v1 hf => ?_)
  refine wk_icmp_ge X 56 dX11_rightOnes_9 (by decide) hf (fun hf => ?_) (fun hf => ?_)
  · exact wq_sub [1] rfl (w_X11_rightOnes_56 X _ _ hf)
  · refine wk_aload_n X dX11_rightOnes_12 0 rfl ?_
    refine wk_bipush X dX11_rightOnes_13 ib_33 ?_
    refine wk_iload_n X dX11_rightOnes_15 2 rfl ?_
    refine wk_callVi X [.int 33, .int x2] [] dX11_rightOnes_16 rfl vo_X11_302 rfl (by decide) (Nat.le_of_ble_eq_true rfl) hf (c_X11_namedOf l _ _ _ _) (fun r2 hf => ?_)
    refine wk_istore_n (lv' := [(3, .int r2.1), (0, .ref x0), (1, .int x1), (2, .int x2)]) X dX11_rightOnes_19 (by decide) rfl ?_
    refine wk_iload_n X dX11_rightOnes_20 2 rfl ?_
    refine wk_iload_n X dX11_rightOnes_21 0 rfl ?_
    refine wk_iconst X dX11_rightOnes_22 ic_m1 ?_
    refine wk_icmp_eq X 47 dX11_rightOnes_23 (by decide) hf (fun hf => ?_) (fun hf => ?_)
    · exact wq_sub [1, 3] rfl (w_X11_rightOnes_47 X k4 hk4 _ _ _ _ hf)
    · refine wk_aload_n X dX11_rightOnes_26 1 rfl ?_
      refine wk_getR X dX11_rightOnes_27 fo_X11_51 hf (fun v3 hf => ?_)
      refine wk_bipush X dX11_rightOnes_30 ib_58 ?_
      refine wk_iload_n X dX11_rightOnes_32 3 rfl ?_
      refine wk_iadd X dX11_rightOnes_33 ?_
      refine wk_iald X dX11_rightOnes_34 hf (fun v4 hf => ?_)
      refine wk_iload_n X dX11_rightOnes_35 0 rfl ?_
      refine wk_ishr X dX11_rightOnes_36 ?_
      refine wk_iconst X dX11_rightOnes_37 ic_1 ?_
      refine wk_iand X dX11_rightOnes_38 ?_
      refine wk_iconst X dX11_rightOnes_39 ic_1 ?_
      refine wk_icmp_ne X 47 dX11_rightOnes_40 (by decide) hf (fun hf => ?_) (fun hf => ?_)
      · exact wq_sub [1, 3] rfl (w_X11_rightOnes_47 X k4 hk4 _ _ _ _ hf)
      · refine wk_iconst X dX11_rightOnes_43 ic_1 ?_
        refine wk_goto X 48 dX11_rightOnes_44 (by decide) ?_
        exact wq_sub [1, 3] rfl (w_X11_rightOnes_48 X k4 hk4 _ _ _ _ _ hf)
def l_X11_rightOnes_4 (x0 : Nat) (x1 : Int32) (x2 : Int32) (h : hp_H) : Option (Int32 × hp_H) := lp (fun k (s : Nat × Int32 × Int32 × hp_H) => f_X11_rightOnes_4  (fun a0 a1 a2 a3 => k (a0, a1, a2, a3)) s.1 s.2.1 s.2.2.1 s.2.2.2) 100000 (x0, x1, x2, h)
theorem wl_X11_rightOnes_4 (X : wx G p s m args meth c cX11_rightOnes 4 RX11 (some .int)) (x0 : Nat) (x1 : Int32) (x2 : Int32) (h : hp_H) (hf : l_X11_rightOnes_4 x0 x1 x2 h = some o) : wq p l e (mt_R (5) 0 0) s m args below meth c (MQ below (mt_Q G (some (.int o.1)) o.2) args s 0 0 (hp_A G)) G 4 0 0 4 [(0, .ref x0), (1, .int x1), (2, .int x2)] [] h :=
  lp_ind (P := fun (s_ : Nat × Int32 × Int32 × hp_H) => wq p l e (mt_R (5) 0 0) s m args below meth c (MQ below (mt_Q G (some (.int o.1)) o.2) args s 0 0 (hp_A G)) G 4 0 0 4 [(0, .ref s_.1), (1, .int s_.2.1), (2, .int s_.2.2.1)] [] s_.2.2.2) (fun k s hk hf => w_X11_rightOnes_4 X  (fun a0 a1 a2 a3 => k (a0, a1, a2, a3)) (fun a0 a1 a2 a3 hf => hk (a0, a1, a2, a3) hf) s.1 s.2.1 s.2.2.1 s.2.2.2 hf) 100000 (x0, x1, x2, h) hf
end Sf_X11_rightOnes
def f_X11_rightOnes (x0 : Nat) (h : hp_H) : Option (Int32 × hp_H) := gd h x0 11 (l_X11_rightOnes_4 x0 0 0 h)
set_option maxRecDepth 20000 in
theorem c_X11_rightOnes (l : Launch) (x0 : Nat) (h : hp_H) (r : Int32 × hp_H) (hf : f_X11_rightOnes x0 h = some r) : cv l (5) yX11_rightOnes cX11_rightOnes 4 (some .int) 11 x0 [] h (some (.int r.1)) r.2 := by
  unfold f_X11_rightOnes at hf
  refine cv_of (lv := [(0, .ref x0)]) hf (by decide +kernel) (Nat.le_of_ble_eq_true rfl) rfl (fun hf p e s m args below meth c G X => ?_)
  refine wk_iconst X dX11_rightOnes_0 ic_0 ?_
  refine wk_istore_n (lv' := [(1, .int 0), (0, .ref x0)]) X dX11_rightOnes_1 (by decide) rfl ?_
  refine wk_iconst X dX11_rightOnes_2 ic_0 ?_
  refine wk_istore_n (lv' := [(2, .int 0), (1, .int 0), (0, .ref x0)]) X dX11_rightOnes_3 (by decide) rfl ?_
  exact wq_sub [2, 1, 0] rfl (wl_X11_rightOnes_4 X _ _ _ _ hf)
section Sf_X11_review
variable {p : Program} {l : Launch} {e : Env} {s : State} {m : MethodId} {args : Array Value} {below : List Frame} {meth : Method} {c : Code} {G : hp_G} {o : Int32 × hp_H}
def f_X11_review_138 (t0 : Int32) (h : hp_H) : Option (Int32 × hp_H) := some (t0, h)
set_option maxRecDepth 20000 in
theorem w_X11_review_138 (X : wx G p s m args meth c cX11_review 6 RX11 (some .int)) (t0 : Int32) (h : hp_H) (hf : f_X11_review_138 t0 h = some o) : wq p l e (mt_R (6) 0 0) s m args below meth c (MQ below (mt_Q G (some (.int o.1)) o.2) args s 0 0 (hp_A G)) G 6 0 0 138 [] [.int t0] h := by
  unfold f_X11_review_138 at hf
  exact wk_ireturn X dX11_review_138 hf
def f_X11_review_107 (x0 : Nat) (x1 : Int32) (x2 : Int32) (x3 : Int32) (h : hp_H) : Option (Int32 × hp_H) := if x1 = (-1) then (f_X11_review_138 x2 h) else ((rd_I h x0 11 3).bind fun v1 => (rd_I h x0 11 3).bind fun v2 => (f_X11_power v1 ((v2 - 1) - x1) h).bind fun r3 => (hp_div x3 r3.1).bind fun v4 => (rd_I r3.2 x0 11 3).bind fun v5 => (hp_rem v4 v5).bind fun v6 => f_X11_review_138 v6 r3.2)
set_option maxRecDepth 20000 in
theorem w_X11_review_107 (X : wx G p s m args meth c cX11_review 6 RX11 (some .int)) (x0 : Nat) (x1 : Int32) (x2 : Int32) (x3 : Int32) (h : hp_H) (hf : f_X11_review_107 x0 x1 x2 x3 h = some o) : wq p l e (mt_R (6) 0 0) s m args below meth c (MQ below (mt_Q G (some (.int o.1)) o.2) args s 0 0 (hp_A G)) G 6 0 0 107 [(0, .ref x0), (1, .int x1), (2, .int x2), (3, .int x3)] [] h := by
  unfold f_X11_review_107 at hf
  refine wk_iload_n X dX11_review_107 1 rfl ?_
  refine wk_iconst X dX11_review_108 ic_m1 ?_
  refine wk_icmp_ne X 116 dX11_review_109 (by decide) hf (fun hf => ?_) (fun hf => ?_)
  · refine wk_iload_n X dX11_review_116 3 rfl ?_
    refine wk_aload_n X dX11_review_117 0 rfl ?_
    refine wk_getI X dX11_review_118 fo_X11_254 hf (fun v1 hf => ?_)
    refine wk_aload_n X dX11_review_121 0 rfl ?_
    refine wk_getI X dX11_review_122 fo_X11_254 hf (fun v2 hf => ?_)
    refine wk_iconst X dX11_review_125 ic_1 ?_
    refine wk_isub X dX11_review_126 ?_
    refine wk_iload_n X dX11_review_127 1 rfl ?_
    refine wk_isub X dX11_review_128 ?_
    refine wk_callSi X [.int v1, .int ((v2 - 1) - x1)] [.int x3] dX11_review_129 rfl vo_X11_366 rfl (by decide) (Nat.le_of_ble_eq_true rfl) hf (c_X11_power l _ _ _) (fun r3 hf => ?_)
    refine wk_idiv X dX11_review_132 hf (fun v4 hf => ?_)
    refine wk_aload_n X dX11_review_133 0 rfl ?_
    refine wk_getI X dX11_review_134 fo_X11_254 hf (fun v5 hf => ?_)
    refine wk_irem X dX11_review_137 hf (fun v6 hf => ?_)
    exact wq_sub [] rfl (w_X11_review_138 X _ _ hf)
  · refine wk_iload_n X dX11_review_112 2 rfl ?_
    refine wk_goto X 138 dX11_review_113 (by decide) ?_
    exact wq_sub [] rfl (w_X11_review_138 X _ _ hf)
def f_X11_review_101 (k52 : Nat → Int32 → Int32 → Int32 → Int32 → hp_H → Option (Int32 × hp_H)) (x0 : Nat) (x1 : Int32) (x2 : Int32) (x3 : Int32) (x4 : Int32) (h : hp_H) : Option (Int32 × hp_H) := k52 x0 x1 x2 x3 (x4 + 1) h
set_option maxRecDepth 20000 in
theorem w_X11_review_101 (X : wx G p s m args meth c cX11_review 6 RX11 (some .int)) (k52 : Nat → Int32 → Int32 → Int32 → Int32 → hp_H → Option (Int32 × hp_H)) (hk52 : ∀ (x0 : Nat) (x1 : Int32) (x2 : Int32) (x3 : Int32) (x4 : Int32) (h : hp_H), k52 x0 x1 x2 x3 x4 h = some o → wq p l e (mt_R (6) 0 0) s m args below meth c (MQ below (mt_Q G (some (.int o.1)) o.2) args s 0 0 (hp_A G)) G 6 0 0 52 [(0, .ref x0), (1, .int x1), (2, .int x2), (3, .int x3), (4, .int x4)] [] h) (x0 : Nat) (x1 : Int32) (x2 : Int32) (x3 : Int32) (x4 : Int32) (h : hp_H) (hf : f_X11_review_101 k52 x0 x1 x2 x3 x4 h = some o) : wq p l e (mt_R (6) 0 0) s m args below meth c (MQ below (mt_Q G (some (.int o.1)) o.2) args s 0 0 (hp_A G)) G 6 0 0 101 [(0, .ref x0), (1, .int x1), (2, .int x2), (3, .int x3), (4, .int x4)] [] h := by
  unfold f_X11_review_101 at hf
  refine wk_iinc (lv' := [(4, .int (x4 + 1)), (0, .ref x0), (1, .int x1), (2, .int x2), (3, .int x3)]) X dX11_review_101 4 rfl ic_1 (by decide) rfl ?_
  refine wk_goto X 52 dX11_review_104 (by decide) ?_
  exact wq_sub [1, 2, 3, 4, 0] rfl (hk52 _ _ _ _ _ _ hf)
def f_X11_review_52 (k52 : Nat → Int32 → Int32 → Int32 → Int32 → hp_H → Option (Int32 × hp_H)) (x0 : Nat) (x1 : Int32) (x2 : Int32) (x3 : Int32) (x4 : Int32) (h : hp_H) : Option (Int32 × hp_H) := (rd_I h x0 11 3).bind fun v1 => (rd_I h x0 11 3).bind fun v2 => (f_X11_power v1 v2 h).bind fun r3 => if r3.1 ≤ x4 then (f_X11_review_107 x0 x1 x2 x3 r3.2) else ((f_X11_isOrder x0 x4 r3.2).bind fun r4 => if r4.1 = 0 then (f_X11_review_101 k52 x0 x1 x2 x3 x4 r4.2) else ((f_X11_rightOnes x0 r4.2).bind fun r5 => if x2 < r5.1 then (f_X11_review_101 k52 x0 x1 r5.1 x4 x4 r5.2) else (f_X11_review_101 k52 x0 x1 x2 x3 x4 r5.2)))
set_option maxRecDepth 20000 in
theorem w_X11_review_52 (X : wx G p s m args meth c cX11_review 6 RX11 (some .int)) (k52 : Nat → Int32 → Int32 → Int32 → Int32 → hp_H → Option (Int32 × hp_H)) (hk52 : ∀ (x0 : Nat) (x1 : Int32) (x2 : Int32) (x3 : Int32) (x4 : Int32) (h : hp_H), k52 x0 x1 x2 x3 x4 h = some o → wq p l e (mt_R (6) 0 0) s m args below meth c (MQ below (mt_Q G (some (.int o.1)) o.2) args s 0 0 (hp_A G)) G 6 0 0 52 [(0, .ref x0), (1, .int x1), (2, .int x2), (3, .int x3), (4, .int x4)] [] h) (x0 : Nat) (x1 : Int32) (x2 : Int32) (x3 : Int32) (x4 : Int32) (h : hp_H) (hf : f_X11_review_52 k52 x0 x1 x2 x3 x4 h = some o) : wq p l e (mt_R (6) 0 0) s m args below meth c (MQ below (mt_Q G (some (.int o.1)) o.2) args s 0 0 (hp_A G)) G 6 0 0 52 [(0, .ref x0), (1, .int x1), (2, .int x2), (3, .int x3), (4, .int x4)] [] h := by
  unfold f_X11_review_52 at hf
  refine wk_iload X dX11_review_52 4 rfl ?_
  refine wk_aload_n X dX11_review_54 0 rfl ?_
  refine wk_getI X dX11_review_55 fo_X11_254 hf (fun v1 hf => ?_)
  refine wk_aload_n X dX11_review_58 0 rfl ?_
  refine wk_getI X dX11_review_59 fo_X11_254 hf (fun v2 hf => ?_)
  refine wk_callSi X [.int v1, .int v2] [.int x4] dX11_review_62 rfl vo_X11_366 rfl (by decide) (Nat.le_of_ble_eq_true rfl) hf (c_X11_power l _ _ _) (fun r3 hf => ?_)
  refine wk_icmp_ge X 107 dX11_review_65 (by decide) hf (fun hf => ?_) (fun hf => ?_)
  · exact wq_sub [0, 1, 2, 3] rfl (w_X11_review_107 X _ _ _ _ _ hf)
  · refine wk_aload_n X dX11_review_68 0 rfl ?_
    refine wk_iload X dX11_review_69 4 rfl ?_
    refine wk_callVi X [.int x4] [] dX11_review_71 rfl vo_X11_369 rfl (by decide) (Nat.le_of_ble_eq_true rfl) hf (c_X11_isOrder l _ _ _) (fun r4 hf => ?_)
    refine wk_if_ne X 80 dX11_review_74 (by decide) hf (fun hf => ?_) (fun hf => ?_)
    · refine wk_aload_n X dX11_review_80 0 rfl ?_
      refine wk_callVi X [] [] dX11_review_81 rfl vo_X11_372 rfl (by decide) (Nat.le_of_ble_eq_true rfl) hf (c_X11_rightOnes l _ _) (fun r5 hf => ?_)
      refine wk_istore (lv' := [(5, .int r5.1), (0, .ref x0), (1, .int x1), (2, .int x2), (3, .int x3), (4, .int x4)]) X dX11_review_84 (by decide) rfl ?_
      refine wk_iload X dX11_review_86 0 rfl ?_
      refine wk_iload_n X dX11_review_88 3 rfl ?_
      refine wk_icmp_gt X 95 dX11_review_89 (by decide) hf (fun hf => ?_) (fun hf => ?_)
      · refine wk_iload X dX11_review_95 0 rfl ?_
        refine wk_istore_n (lv' := [(2, .int r5.1), (5, .int r5.1), (0, .ref x0), (1, .int x1), (3, .int x3), (4, .int x4)]) X dX11_review_97 (by decide) rfl ?_
        refine wk_iload X dX11_review_98 5 rfl ?_
        refine wk_istore_n (lv' := [(3, .int x4), (2, .int r5.1), (5, .int r5.1), (0, .ref x0), (1, .int x1), (4, .int x4)]) X dX11_review_100 (by decide) rfl ?_
        exact wq_sub [3, 4, 1, 0, 5] rfl (w_X11_review_101 X k52 hk52 _ _ _ _ _ _ hf)
      · refine wk_goto X 101 dX11_review_92 (by decide) ?_
        exact wq_sub [1, 2, 3, 4, 5] rfl (w_X11_review_101 X k52 hk52 _ _ _ _ _ _ hf)
    · refine wk_goto X 101 dX11_review_77 (by decide) ?_
      exact wq_sub [0, 1, 2, 3, 4] rfl (w_X11_review_101 X k52 hk52 _ _ _ _ _ _ hf)
def l_X11_review_52 (x0 : Nat) (x1 : Int32) (x2 : Int32) (x3 : Int32) (x4 : Int32) (h : hp_H) : Option (Int32 × hp_H) := lp (fun k (s : Nat × Int32 × Int32 × Int32 × Int32 × hp_H) => f_X11_review_52  (fun a0 a1 a2 a3 a4 a5 => k (a0, a1, a2, a3, a4, a5)) s.1 s.2.1 s.2.2.1 s.2.2.2.1 s.2.2.2.2.1 s.2.2.2.2.2) 100000 (x0, x1, x2, x3, x4, h)
theorem wl_X11_review_52 (X : wx G p s m args meth c cX11_review 6 RX11 (some .int)) (x0 : Nat) (x1 : Int32) (x2 : Int32) (x3 : Int32) (x4 : Int32) (h : hp_H) (hf : l_X11_review_52 x0 x1 x2 x3 x4 h = some o) : wq p l e (mt_R (6) 0 0) s m args below meth c (MQ below (mt_Q G (some (.int o.1)) o.2) args s 0 0 (hp_A G)) G 6 0 0 52 [(0, .ref x0), (1, .int x1), (2, .int x2), (3, .int x3), (4, .int x4)] [] h :=
  lp_ind (P := fun (s_ : Nat × Int32 × Int32 × Int32 × Int32 × hp_H) => wq p l e (mt_R (6) 0 0) s m args below meth c (MQ below (mt_Q G (some (.int o.1)) o.2) args s 0 0 (hp_A G)) G 6 0 0 52 [(0, .ref s_.1), (1, .int s_.2.1), (2, .int s_.2.2.1), (3, .int s_.2.2.2.1), (4, .int s_.2.2.2.2.1)] [] s_.2.2.2.2.2) (fun k s hk hf => w_X11_review_52 X  (fun a0 a1 a2 a3 a4 a5 => k (a0, a1, a2, a3, a4, a5)) (fun a0 a1 a2 a3 a4 a5 hf => hk (a0, a1, a2, a3, a4, a5) hf) s.1 s.2.1 s.2.2.1 s.2.2.2.1 s.2.2.2.2.1 s.2.2.2.2.2 hf) 100000 (x0, x1, x2, x3, x4, h) hf
def f_X11_review_24 (x0 : Nat) (x1 : Int32) (t0 : Nat) (t1 : Int32) (h : hp_H) : Option (Int32 × hp_H) := (f_X11_right t0 t1 1 h).bind fun r1 => if r1.1 = 0 then (some (0, r1.2)) else ((rd_I r1.2 x0 11 3).bind fun v2 => if v2 ≤ 6 then (l_X11_review_52 x0 x1 (-1) 0 0 r1.2) else (some ((-2), r1.2)))
set_option maxRecDepth 20000 in
theorem w_X11_review_24 (X : wx G p s m args meth c cX11_review 6 RX11 (some .int)) (x0 : Nat) (x1 : Int32) (t0 : Nat) (t1 : Int32) (h : hp_H) (hf : f_X11_review_24 x0 x1 t0 t1 h = some o) : wq p l e (mt_R (6) 0 0) s m args below meth c (MQ below (mt_Q G (some (.int o.1)) o.2) args s 0 0 (hp_A G)) G 6 0 0 24 [(0, .ref x0), (1, .int x1)] [.int t1, .ref t0] h := by
  unfold f_X11_review_24 at hf
  refine wk_iconst X dX11_review_24 ic_1 ?_
  refine wk_callVi X [.int t1, .int 1] [] dX11_review_25 rfl vo_X11_244 rfl (by decide) (Nat.le_of_ble_eq_true rfl) hf (c_X11_right l _ _ _ _) (fun r1 hf => ?_)
  refine wk_if_ne X 33 dX11_review_28 (by decide) hf (fun hf => ?_) (fun hf => ?_)
  · refine wk_aload_n X dX11_review_33 0 rfl ?_
    refine wk_getI X dX11_review_34 fo_X11_254 hf (fun v2 hf => ?_)
    refine wk_bipush X dX11_review_37 ib_6 ?_
    refine wk_icmp_le X 45 dX11_review_39 (by decide) hf (fun hf => ?_) (fun hf => ?_)
    · refine wk_iconst X dX11_review_45 ic_m1 ?_
      refine wk_istore_n (lv' := [(2, .int (-1)), (0, .ref x0), (1, .int x1)]) X dX11_review_46 (by decide) rfl ?_
      refine wk_iconst X dX11_review_47 ic_0 ?_
      refine wk_istore_n (lv' := [(3, .int 0), (2, .int (-1)), (0, .ref x0), (1, .int x1)]) X dX11_review_48 (by decide) rfl ?_
      refine wk_iconst X dX11_review_49 ic_0 ?_
      refine wk_istore (lv' := [(4, .int 0), (3, .int 0), (2, .int (-1)), (0, .ref x0), (1, .int x1)]) X dX11_review_50 (by decide) rfl ?_
      exact wq_sub [3, 4, 2, 1, 0] rfl (wl_X11_review_52 X _ _ _ _ _ _ hf)
    · refine wk_bipush X dX11_review_42 ib_m2 ?_
      exact wk_ireturn X dX11_review_44 hf
  · refine wk_iconst X dX11_review_31 ic_0 ?_
    exact wk_ireturn X dX11_review_32 hf
def f_X11_review_23 (x0 : Nat) (x1 : Int32) (t0 : Nat) (h : hp_H) : Option (Int32 × hp_H) := f_X11_review_24 x0 x1 t0 0 h
set_option maxRecDepth 20000 in
theorem w_X11_review_23 (X : wx G p s m args meth c cX11_review 6 RX11 (some .int)) (x0 : Nat) (x1 : Int32) (t0 : Nat) (h : hp_H) (hf : f_X11_review_23 x0 x1 t0 h = some o) : wq p l e (mt_R (6) 0 0) s m args below meth c (MQ below (mt_Q G (some (.int o.1)) o.2) args s 0 0 (hp_A G)) G 6 0 0 23 [(0, .ref x0), (1, .int x1)] [.ref t0] h := by
  unfold f_X11_review_23 at hf
  refine wk_iconst X dX11_review_23 ic_0 ?_
  exact wq_sub [0, 1] rfl (w_X11_review_24 X _ _ _ _ _ hf)
end Sf_X11_review
def f_X11_review (x0 : Nat) (x1 : Int32) (h : hp_H) : Option (Int32 × hp_H) := gd h x0 11 ((wr_I h x0 11 0 0).bind fun h1 => if x1 < (-1) then (f_X11_review_23 x0 x1 x0 h1) else ((rd_I h1 x0 11 3).bind fun v2 => if v2 ≤ x1 then (f_X11_review_23 x0 x1 x0 h1) else (f_X11_review_24 x0 x1 x0 1 h1)))
set_option maxRecDepth 20000 in
theorem c_X11_review (l : Launch) (x0 : Nat) (x1 : Int32) (h : hp_H) (r : Int32 × hp_H) (hf : f_X11_review x0 x1 h = some r) : cv l (6) yX11_review cX11_review 6 (some .int) 11 x0 [.int x1] h (some (.int r.1)) r.2 := by
  unfold f_X11_review at hf
  refine cv_of (lv := [(0, .ref x0), (1, .int x1)]) hf (by decide +kernel) (Nat.le_of_ble_eq_true rfl) rfl (fun hf p e s m args below meth c G X => ?_)
  refine wk_aload_n X dX11_review_0 0 rfl ?_
  refine wk_iconst X dX11_review_1 ic_0 ?_
  refine wk_putI X dX11_review_2 fo_X11_84 hf (fun h1 hf => ?_)
  refine wk_aload_n X dX11_review_5 0 rfl ?_
  refine wk_iload_n X dX11_review_6 1 rfl ?_
  refine wk_iconst X dX11_review_7 ic_m1 ?_
  refine wk_icmp_lt X 23 dX11_review_8 (by decide) hf (fun hf => ?_) (fun hf => ?_)
  · exact wq_sub [0, 1] rfl (w_X11_review_23 X _ _ _ _ hf)
  · refine wk_iload_n X dX11_review_11 1 rfl ?_
    refine wk_aload_n X dX11_review_12 0 rfl ?_
    refine wk_getI X dX11_review_13 fo_X11_254 hf (fun v2 hf => ?_)
    refine wk_icmp_ge X 23 dX11_review_16 (by decide) hf (fun hf => ?_) (fun hf => ?_)
    · exact wq_sub [0, 1] rfl (w_X11_review_23 X _ _ _ _ hf)
    · refine wk_iconst X dX11_review_19 ic_1 ?_
      refine wk_goto X 24 dX11_review_20 (by decide) ?_
      exact wq_sub [0, 1] rfl (w_X11_review_24 X _ _ _ _ _ hf)
section Sf_X11_see
variable {p : Program} {l : Launch} {e : Env} {s : State} {m : MethodId} {args : Array Value} {below : List Frame} {meth : Method} {c : Code} {G : hp_G} {o : Int32 × hp_H}
def f_X11_see_38  (h : hp_H) : Option (Int32 × hp_H) := some (0, h)
set_option maxRecDepth 20000 in
theorem w_X11_see_38 (X : wx G p s m args meth c cX11_see 5 RX11 (some .int))  (h : hp_H) (hf : f_X11_see_38 h = some o) : wq p l e (mt_R (3) 0 0) s m args below meth c (MQ below (mt_Q G (some (.int o.1)) o.2) args s 0 0 (hp_A G)) G 5 0 0 38 [] [] h := by
  unfold f_X11_see_38 at hf
  refine wk_iconst X dX11_see_38 ic_0 ?_
  exact wk_ireturn X dX11_see_39 hf
def f_X11_see_59 (x0 : Nat) (h : hp_H) : Option (Int32 × hp_H) := (f_X11_refuses x0 2 h).bind fun r1 => some (r1.1, r1.2)
set_option maxRecDepth 20000 in
theorem w_X11_see_59 (X : wx G p s m args meth c cX11_see 5 RX11 (some .int)) (x0 : Nat) (h : hp_H) (hf : f_X11_see_59 x0 h = some o) : wq p l e (mt_R (3) 0 0) s m args below meth c (MQ below (mt_Q G (some (.int o.1)) o.2) args s 0 0 (hp_A G)) G 5 0 0 59 [(0, .ref x0)] [] h := by
  unfold f_X11_see_59 at hf
  refine wk_aload_n X dX11_see_59 0 rfl ?_
  refine wk_iconst X dX11_see_60 ic_2 ?_
  refine wk_callVi X [.int 2] [] dX11_see_61 rfl vo_X11_337 rfl (by decide) (Nat.le_of_ble_eq_true rfl) hf (c_X11_refuses l _ _ _) (fun r1 hf => ?_)
  exact wk_ireturn X dX11_see_64 hf
def f_X11_see_127 (x0 : Nat) (t0 : Nat) (t1 : Int32) (t2 : Int32) (h : hp_H) : Option (Int32 × hp_H) := (wr_A h t0 t1 t2).bind fun h1 => (rd_I h1 x0 11 45).bind fun v2 => (wr_I h1 x0 11 45 (v2 + 1)).bind fun h3 => (rd_I h3 x0 11 45).bind fun v4 => some (v4, h3)
set_option maxRecDepth 20000 in
theorem w_X11_see_127 (X : wx G p s m args meth c cX11_see 5 RX11 (some .int)) (x0 : Nat) (t0 : Nat) (t1 : Int32) (t2 : Int32) (h : hp_H) (hf : f_X11_see_127 x0 t0 t1 t2 h = some o) : wq p l e (mt_R (3) 0 0) s m args below meth c (MQ below (mt_Q G (some (.int o.1)) o.2) args s 0 0 (hp_A G)) G 5 0 0 127 [(0, .ref x0)] [.int t2, .int t1, .ref t0] h := by
  unfold f_X11_see_127 at hf
  refine wk_iast X dX11_see_127 hf (fun h1 hf => ?_)
  refine wk_aload_n X dX11_see_128 0 rfl ?_
  refine wk_dup X dX11_see_129 rfl ?_
  refine wk_getI X dX11_see_130 fo_X11_267 hf (fun v2 hf => ?_)
  refine wk_iconst X dX11_see_133 ic_1 ?_
  refine wk_iadd X dX11_see_134 ?_
  refine wk_putI X dX11_see_135 fo_X11_267 hf (fun h3 hf => ?_)
  refine wk_aload_n X dX11_see_138 0 rfl ?_
  refine wk_getI X dX11_see_139 fo_X11_267 hf (fun v4 hf => ?_)
  exact wk_ireturn X dX11_see_142 hf
def f_X11_see_31 (x0 : Nat) (x1 : Int32) (x2 : Int32) (x3 : Int32) (x4 : Int32) (t0 : Nat) (t1 : Int32) (h : hp_H) : Option (Int32 × hp_H) := (f_X11_right t0 t1 1 h).bind fun r1 => if r1.1 = 0 then (f_X11_see_38 r1.2) else ((rd_I r1.2 x0 11 45).bind fun v2 => if v2 = 8 then (f_X11_see_59 x0 r1.2) else ((f_X11_within x2 1 12 r1.2).bind fun r3 => if r3.1 = 0 then (f_X11_see_59 x0 r3.2) else ((rd_R r3.2 x0 11 46).bind fun v4 => (rd_I r3.2 x0 11 45).bind fun v5 => (wr_A r3.2 v4 (4 * v5) x1).bind fun h6 => (rd_R h6 x0 11 46).bind fun v7 => (rd_I h6 x0 11 45).bind fun v8 => (wr_A h6 v7 ((4 * v8) + 1) x2).bind fun h9 => (rd_R h9 x0 11 46).bind fun v10 => (rd_I h9 x0 11 45).bind fun v11 => (wr_A h9 v10 ((4 * v11) + 2) x3).bind fun h12 => (rd_R h12 x0 11 46).bind fun v13 => (rd_I h12 x0 11 45).bind fun v14 => if x4 = 0 then (f_X11_see_127 x0 v13 ((4 * v14) + 3) 0 h12) else (f_X11_see_127 x0 v13 ((4 * v14) + 3) 1 h12))))
set_option maxRecDepth 20000 in
theorem w_X11_see_31 (X : wx G p s m args meth c cX11_see 5 RX11 (some .int)) (x0 : Nat) (x1 : Int32) (x2 : Int32) (x3 : Int32) (x4 : Int32) (t0 : Nat) (t1 : Int32) (h : hp_H) (hf : f_X11_see_31 x0 x1 x2 x3 x4 t0 t1 h = some o) : wq p l e (mt_R (3) 0 0) s m args below meth c (MQ below (mt_Q G (some (.int o.1)) o.2) args s 0 0 (hp_A G)) G 5 0 0 31 [(0, .ref x0), (1, .int x1), (2, .int x2), (3, .int x3), (4, .int x4)] [.int t1, .ref t0] h := by
  unfold f_X11_see_31 at hf
  refine wk_iconst X dX11_see_31 ic_1 ?_
  refine wk_callVi X [.int t1, .int 1] [] dX11_see_32 rfl vo_X11_244 rfl (by decide) (Nat.le_of_ble_eq_true rfl) hf (c_X11_right l _ _ _ _) (fun r1 hf => ?_)
  refine wk_if_ne X 40 dX11_see_35 (by decide) hf (fun hf => ?_) (fun hf => ?_)
  · refine wk_aload_n X dX11_see_40 0 rfl ?_
    refine wk_getI X dX11_see_41 fo_X11_267 hf (fun v2 hf => ?_)
    refine wk_bipush X dX11_see_44 ib_8 ?_
    refine wk_icmp_eq X 59 dX11_see_46 (by decide) hf (fun hf => ?_) (fun hf => ?_)
    · exact wq_sub [0] rfl (w_X11_see_59 X _ _ hf)
    · refine wk_iload_n X dX11_see_49 2 rfl ?_
      refine wk_iconst X dX11_see_50 ic_1 ?_
      refine wk_bipush X dX11_see_51 ib_12 ?_
      refine wk_callSi X [.int x2, .int 1, .int 12] [] dX11_see_53 rfl vo_X11_314 rfl (by decide) (Nat.le_of_ble_eq_true rfl) hf (c_X11_within l _ _ _ _) (fun r3 hf => ?_)
      refine wk_if_ne X 65 dX11_see_56 (by decide) hf (fun hf => ?_) (fun hf => ?_)
      · refine wk_aload_n X dX11_see_65 0 rfl ?_
        refine wk_getR X dX11_see_66 fo_X11_69 hf (fun v4 hf => ?_)
        refine wk_iconst X dX11_see_69 ic_4 ?_
        refine wk_aload_n X dX11_see_70 0 rfl ?_
        refine wk_getI X dX11_see_71 fo_X11_267 hf (fun v5 hf => ?_)
        refine wk_imul X dX11_see_74 ?_
        refine wk_iload_n X dX11_see_75 1 rfl ?_
        refine wk_iast X dX11_see_76 hf (fun h6 hf => ?_)
        refine wk_aload_n X dX11_see_77 0 rfl ?_
        refine wk_getR X dX11_see_78 fo_X11_69 hf (fun v7 hf => ?_)
        refine wk_iconst X dX11_see_81 ic_4 ?_
        refine wk_aload_n X dX11_see_82 0 rfl ?_
        refine wk_getI X dX11_see_83 fo_X11_267 hf (fun v8 hf => ?_)
        refine wk_imul X dX11_see_86 ?_
        refine wk_iconst X dX11_see_87 ic_1 ?_
        refine wk_iadd X dX11_see_88 ?_
        refine wk_iload_n X dX11_see_89 2 rfl ?_
        refine wk_iast X dX11_see_90 hf (fun h9 hf => ?_)
        refine wk_aload_n X dX11_see_91 0 rfl ?_
        refine wk_getR X dX11_see_92 fo_X11_69 hf (fun v10 hf => ?_)
        refine wk_iconst X dX11_see_95 ic_4 ?_
        refine wk_aload_n X dX11_see_96 0 rfl ?_
        refine wk_getI X dX11_see_97 fo_X11_267 hf (fun v11 hf => ?_)
        refine wk_imul X dX11_see_100 ?_
        refine wk_iconst X dX11_see_101 ic_2 ?_
        refine wk_iadd X dX11_see_102 ?_
        refine wk_iload_n X dX11_see_103 3 rfl ?_
        refine wk_iast X dX11_see_104 hf (fun h12 hf => ?_)
        refine wk_aload_n X dX11_see_105 0 rfl ?_
        refine wk_getR X dX11_see_106 fo_X11_69 hf (fun v13 hf => ?_)
        refine wk_iconst X dX11_see_109 ic_4 ?_
        refine wk_aload_n X dX11_see_110 0 rfl ?_
        refine wk_getI X dX11_see_111 fo_X11_267 hf (fun v14 hf => ?_)
        refine wk_imul X dX11_see_114 ?_
        refine wk_iconst X dX11_see_115 ic_3 ?_
        refine wk_iadd X dX11_see_116 ?_
        refine wk_iload X dX11_see_117 4 rfl ?_
        refine wk_if_eq X 126 dX11_see_119 (by decide) hf (fun hf => ?_) (fun hf => ?_)
        · refine wk_iconst X dX11_see_126 ic_0 ?_
          exact wq_sub [0] rfl (w_X11_see_127 X _ _ _ _ _ hf)
        · refine wk_iconst X dX11_see_122 ic_1 ?_
          refine wk_goto X 127 dX11_see_123 (by decide) ?_
          exact wq_sub [0] rfl (w_X11_see_127 X _ _ _ _ _ hf)
      · exact wq_sub [0] rfl (w_X11_see_59 X _ _ hf)
  · exact wq_sub [] rfl (w_X11_see_38 X _ hf)
def f_X11_see_30 (x0 : Nat) (x1 : Int32) (x2 : Int32) (x3 : Int32) (x4 : Int32) (t0 : Nat) (h : hp_H) : Option (Int32 × hp_H) := f_X11_see_31 x0 x1 x2 x3 x4 t0 0 h
set_option maxRecDepth 20000 in
theorem w_X11_see_30 (X : wx G p s m args meth c cX11_see 5 RX11 (some .int)) (x0 : Nat) (x1 : Int32) (x2 : Int32) (x3 : Int32) (x4 : Int32) (t0 : Nat) (h : hp_H) (hf : f_X11_see_30 x0 x1 x2 x3 x4 t0 h = some o) : wq p l e (mt_R (3) 0 0) s m args below meth c (MQ below (mt_Q G (some (.int o.1)) o.2) args s 0 0 (hp_A G)) G 5 0 0 30 [(0, .ref x0), (1, .int x1), (2, .int x2), (3, .int x3), (4, .int x4)] [.ref t0] h := by
  unfold f_X11_see_30 at hf
  refine wk_iconst X dX11_see_30 ic_0 ?_
  exact wq_sub [0, 1, 2, 3, 4] rfl (w_X11_see_31 X _ _ _ _ _ _ _ _ hf)
end Sf_X11_see
def f_X11_see (x0 : Nat) (x1 : Int32) (x2 : Int32) (x3 : Int32) (x4 : Int32) (h : hp_H) : Option (Int32 × hp_H) := gd h x0 11 ((wr_I h x0 11 0 0).bind fun h1 => (f_X11_isRow x0 x1 h1).bind fun r2 => if r2.1 = 0 then (f_X11_see_38 r2.2) else (if x3 < 0 then (f_X11_see_30 x0 x1 x2 x3 x4 x0 r2.2) else ((rd_I r2.2 x0 11 1).bind fun v3 => if v3 ≤ x3 then (f_X11_see_30 x0 x1 x2 x3 x4 x0 r2.2) else (f_X11_see_31 x0 x1 x2 x3 x4 x0 1 r2.2))))
set_option maxRecDepth 20000 in
theorem c_X11_see (l : Launch) (x0 : Nat) (x1 : Int32) (x2 : Int32) (x3 : Int32) (x4 : Int32) (h : hp_H) (r : Int32 × hp_H) (hf : f_X11_see x0 x1 x2 x3 x4 h = some r) : cv l (3) yX11_see cX11_see 5 (some .int) 11 x0 [.int x1, .int x2, .int x3, .int x4] h (some (.int r.1)) r.2 := by
  unfold f_X11_see at hf
  refine cv_of (lv := [(0, .ref x0), (1, .int x1), (2, .int x2), (3, .int x3), (4, .int x4)]) hf (by decide +kernel) (Nat.le_of_ble_eq_true rfl) rfl (fun hf p e s m args below meth c G X => ?_)
  refine wk_aload_n X dX11_see_0 0 rfl ?_
  refine wk_iconst X dX11_see_1 ic_0 ?_
  refine wk_putI X dX11_see_2 fo_X11_84 hf (fun h1 hf => ?_)
  refine wk_aload_n X dX11_see_5 0 rfl ?_
  refine wk_iload_n X dX11_see_6 1 rfl ?_
  refine wk_callVi X [.int x1] [] dX11_see_7 rfl vo_X11_334 rfl (by decide) (Nat.le_of_ble_eq_true rfl) hf (c_X11_isRow l _ _ _) (fun r2 hf => ?_)
  refine wk_if_eq X 38 dX11_see_10 (by decide) hf (fun hf => ?_) (fun hf => ?_)
  · exact wq_sub [] rfl (w_X11_see_38 X _ hf)
  · refine wk_aload_n X dX11_see_13 0 rfl ?_
    refine wk_iload_n X dX11_see_14 3 rfl ?_
    refine wk_if_lt X 30 dX11_see_15 (by decide) hf (fun hf => ?_) (fun hf => ?_)
    · exact wq_sub [0, 1, 2, 3, 4] rfl (w_X11_see_30 X _ _ _ _ _ _ _ hf)
    · refine wk_iload_n X dX11_see_18 3 rfl ?_
      refine wk_aload_n X dX11_see_19 0 rfl ?_
      refine wk_getI X dX11_see_20 fo_X11_7 hf (fun v3 hf => ?_)
      refine wk_icmp_ge X 30 dX11_see_23 (by decide) hf (fun hf => ?_) (fun hf => ?_)
      · exact wq_sub [0, 1, 2, 3, 4] rfl (w_X11_see_30 X _ _ _ _ _ _ _ hf)
      · refine wk_iconst X dX11_see_26 ic_1 ?_
        refine wk_goto X 31 dX11_see_27 (by decide) ?_
        exact wq_sub [0, 1, 2, 3, 4] rfl (w_X11_see_31 X _ _ _ _ _ _ _ _ hf)
section Sf_X11_forget
variable {p : Program} {l : Launch} {e : Env} {s : State} {m : MethodId} {args : Array Value} {below : List Frame} {meth : Method} {c : Code} {G : hp_G} {o : hp_H}
end Sf_X11_forget
def f_X11_forget (x0 : Nat) (h : hp_H) : Option (hp_H) := gd h x0 11 ((wr_I h x0 11 0 0).bind fun h1 => (wr_I h1 x0 11 45 0).bind fun h2 => some h2)
set_option maxRecDepth 20000 in
theorem c_X11_forget (l : Launch) (x0 : Nat) (h : hp_H) (r : hp_H) (hf : f_X11_forget x0 h = some r) : cv l (1) yX11_forget cX11_forget 1 none 11 x0 [] h none r := by
  unfold f_X11_forget at hf
  refine cv_of (lv := [(0, .ref x0)]) hf (by decide +kernel) (Nat.le_of_ble_eq_true rfl) rfl (fun hf p e s m args below meth c G X => ?_)
  refine wk_aload_n X dX11_forget_0 0 rfl ?_
  refine wk_iconst X dX11_forget_1 ic_0 ?_
  refine wk_putI X dX11_forget_2 fo_X11_84 hf (fun h1 hf => ?_)
  refine wk_aload_n X dX11_forget_5 0 rfl ?_
  refine wk_iconst X dX11_forget_6 ic_0 ?_
  refine wk_putI X dX11_forget_7 fo_X11_267 hf (fun h2 hf => ?_)
  exact wk_return X dX11_forget_10 hf
section Sf_X11_isSeen
variable {p : Program} {l : Launch} {e : Env} {s : State} {m : MethodId} {args : Array Value} {below : List Frame} {meth : Method} {c : Code} {G : hp_G} {o : Int32 × hp_H}
def f_X11_isSeen_99  (h : hp_H) : Option (Int32 × hp_H) := if 1 = 0 ∨ 1 = 1 then some (1, h) else none
set_option maxRecDepth 20000 in
theorem w_X11_isSeen_99 (X : wx G p s m args meth c cX11_isSeen 3 RX11 (some .boolean))  (h : hp_H) (hf : f_X11_isSeen_99 h = some o) : wq p l e (mt_R (6) 0 0) s m args below meth c (MQ below (mt_Q G (some (.int o.1)) o.2) args s 0 0 (hp_A G)) G 3 0 0 99 [] [] h := by
  unfold f_X11_isSeen_99 at hf
  refine wk_iconst X dX11_isSeen_99 ic_1 ?_
  exact wk_zreturn X dX11_isSeen_100 hf
def f_X11_isSeen_93 (k2 : Nat → Int32 → hp_H → Option (Int32 × hp_H)) (x0 : Nat) (x1 : Int32) (h : hp_H) : Option (Int32 × hp_H) := k2 x0 (x1 + 1) h
set_option maxRecDepth 20000 in
theorem w_X11_isSeen_93 (X : wx G p s m args meth c cX11_isSeen 3 RX11 (some .boolean)) (k2 : Nat → Int32 → hp_H → Option (Int32 × hp_H)) (hk2 : ∀ (x0 : Nat) (x1 : Int32) (h : hp_H), k2 x0 x1 h = some o → wq p l e (mt_R (6) 0 0) s m args below meth c (MQ below (mt_Q G (some (.int o.1)) o.2) args s 0 0 (hp_A G)) G 3 0 0 2 [(0, .ref x0), (1, .int x1)] [] h) (x0 : Nat) (x1 : Int32) (h : hp_H) (hf : f_X11_isSeen_93 k2 x0 x1 h = some o) : wq p l e (mt_R (6) 0 0) s m args below meth c (MQ below (mt_Q G (some (.int o.1)) o.2) args s 0 0 (hp_A G)) G 3 0 0 93 [(0, .ref x0), (1, .int x1)] [] h := by
  unfold f_X11_isSeen_93 at hf
  refine wk_iinc (lv' := [(1, .int (x1 + 1)), (0, .ref x0)]) X dX11_isSeen_93 1 rfl ic_1 (by decide) rfl ?_
  refine wk_goto X 2 dX11_isSeen_96 (by decide) ?_
  exact wq_sub [1, 0] rfl (hk2 _ _ _ hf)
def f_X11_isSeen_80 (k2 : Nat → Int32 → hp_H → Option (Int32 × hp_H)) (x0 : Nat) (x1 : Int32) (h : hp_H) : Option (Int32 × hp_H) := (rd_I h x0 11 45).bind fun v1 => if v1 ≤ 0 then (f_X11_isSeen_93 k2 x0 x1 h) else ((f_X11_nightGoes x0 33 h).bind fun r2 => f_X11_isSeen_93 k2 x0 x1 r2)
set_option maxRecDepth 20000 in
theorem w_X11_isSeen_80 (X : wx G p s m args meth c cX11_isSeen 3 RX11 (some .boolean)) (k2 : Nat → Int32 → hp_H → Option (Int32 × hp_H)) (hk2 : ∀ (x0 : Nat) (x1 : Int32) (h : hp_H), k2 x0 x1 h = some o → wq p l e (mt_R (6) 0 0) s m args below meth c (MQ below (mt_Q G (some (.int o.1)) o.2) args s 0 0 (hp_A G)) G 3 0 0 2 [(0, .ref x0), (1, .int x1)] [] h) (x0 : Nat) (x1 : Int32) (h : hp_H) (hf : f_X11_isSeen_80 k2 x0 x1 h = some o) : wq p l e (mt_R (6) 0 0) s m args below meth c (MQ below (mt_Q G (some (.int o.1)) o.2) args s 0 0 (hp_A G)) G 3 0 0 80 [(0, .ref x0), (1, .int x1)] [] h := by
  unfold f_X11_isSeen_80 at hf
  refine wk_aload_n X dX11_isSeen_80 0 rfl ?_
  refine wk_getI X dX11_isSeen_81 fo_X11_267 hf (fun v1 hf => ?_)
  refine wk_if_le X 93 dX11_isSeen_84 (by decide) hf (fun hf => ?_) (fun hf => ?_)
  · exact wq_sub [0, 1] rfl (w_X11_isSeen_93 X k2 hk2 _ _ _ hf)
  · refine wk_aload_n X dX11_isSeen_87 0 rfl ?_
    refine wk_bipush X dX11_isSeen_88 ib_33 ?_
    refine wk_callVv X [.int 33] [] dX11_isSeen_90 rfl vo_X11_308 rfl (by decide) (Nat.le_of_ble_eq_true rfl) hf (c_X11_nightGoes l _ _ _) (fun r2 hf => ?_)
    exact wq_sub [0, 1] rfl (w_X11_isSeen_93 X k2 hk2 _ _ _ hf)
def f_X11_isSeen_74 (k2 : Nat → Int32 → hp_H → Option (Int32 × hp_H)) (k10 : Nat → Int32 → Int32 → hp_H → Option (Int32 × hp_H)) (x0 : Nat) (x1 : Int32) (x2 : Int32) (h : hp_H) : Option (Int32 × hp_H) := k10 x0 x1 (x2 + 1) h
set_option maxRecDepth 20000 in
theorem w_X11_isSeen_74 (X : wx G p s m args meth c cX11_isSeen 3 RX11 (some .boolean)) (k2 : Nat → Int32 → hp_H → Option (Int32 × hp_H)) (hk2 : ∀ (x0 : Nat) (x1 : Int32) (h : hp_H), k2 x0 x1 h = some o → wq p l e (mt_R (6) 0 0) s m args below meth c (MQ below (mt_Q G (some (.int o.1)) o.2) args s 0 0 (hp_A G)) G 3 0 0 2 [(0, .ref x0), (1, .int x1)] [] h) (k10 : Nat → Int32 → Int32 → hp_H → Option (Int32 × hp_H)) (hk10 : ∀ (x0 : Nat) (x1 : Int32) (x2 : Int32) (h : hp_H), k10 x0 x1 x2 h = some o → wq p l e (mt_R (6) 0 0) s m args below meth c (MQ below (mt_Q G (some (.int o.1)) o.2) args s 0 0 (hp_A G)) G 3 0 0 10 [(0, .ref x0), (1, .int x1), (2, .int x2)] [] h) (x0 : Nat) (x1 : Int32) (x2 : Int32) (h : hp_H) (hf : f_X11_isSeen_74 k2 k10 x0 x1 x2 h = some o) : wq p l e (mt_R (6) 0 0) s m args below meth c (MQ below (mt_Q G (some (.int o.1)) o.2) args s 0 0 (hp_A G)) G 3 0 0 74 [(0, .ref x0), (1, .int x1), (2, .int x2)] [] h := by
  unfold f_X11_isSeen_74 at hf
  refine wk_iinc (lv' := [(2, .int (x2 + 1)), (0, .ref x0), (1, .int x1)]) X dX11_isSeen_74 2 rfl ic_1 (by decide) rfl ?_
  refine wk_goto X 10 dX11_isSeen_77 (by decide) ?_
  exact wq_sub [1, 2, 0] rfl (hk10 _ _ _ _ hf)
def f_X11_isSeen_72  (h : hp_H) : Option (Int32 × hp_H) := if 0 = 0 ∨ 0 = 1 then some (0, h) else none
set_option maxRecDepth 20000 in
theorem w_X11_isSeen_72 (X : wx G p s m args meth c cX11_isSeen 3 RX11 (some .boolean))  (h : hp_H) (hf : f_X11_isSeen_72 h = some o) : wq p l e (mt_R (6) 0 0) s m args below meth c (MQ below (mt_Q G (some (.int o.1)) o.2) args s 0 0 (hp_A G)) G 3 0 0 72 [] [] h := by
  unfold f_X11_isSeen_72 at hf
  refine wk_iconst X dX11_isSeen_72 ic_0 ?_
  exact wk_zreturn X dX11_isSeen_73 hf
def f_X11_isSeen_10 (k2 : Nat → Int32 → hp_H → Option (Int32 × hp_H)) (k10 : Nat → Int32 → Int32 → hp_H → Option (Int32 × hp_H)) (x0 : Nat) (x1 : Int32) (x2 : Int32) (h : hp_H) : Option (Int32 × hp_H) := (rd_I h x0 11 45).bind fun v1 => if v1 ≤ x2 then (f_X11_isSeen_80 k2 x0 x1 h) else ((rd_R h x0 11 46).bind fun v2 => (rd_A h 0 v2 ((4 * x2) + 1)).bind fun v3 => if v3 = x1 then ((rd_R h x0 11 46).bind fun v4 => (rd_A h 0 v4 (4 * x2)).bind fun v5 => (f_X11_heardOf x0 33 v5 h).bind fun r6 => (rd_R r6.2 x0 11 46).bind fun v7 => (rd_A r6.2 0 v7 ((4 * x2) + 2)).bind fun v8 => (rd_R r6.2 x0 11 46).bind fun v9 => (rd_A r6.2 0 v9 ((4 * x2) + 3)).bind fun v10 => if ((r6.1 >>> (v8 &&& 31)) &&& (1 : Int32)) = v10 then (f_X11_isSeen_74 k2 k10 x0 x1 x2 r6.2) else (f_X11_isSeen_72 r6.2)) else (f_X11_isSeen_74 k2 k10 x0 x1 x2 h))
set_option maxRecDepth 20000 in
theorem w_X11_isSeen_10 (X : wx G p s m args meth c cX11_isSeen 3 RX11 (some .boolean)) (k2 : Nat → Int32 → hp_H → Option (Int32 × hp_H)) (hk2 : ∀ (x0 : Nat) (x1 : Int32) (h : hp_H), k2 x0 x1 h = some o → wq p l e (mt_R (6) 0 0) s m args below meth c (MQ below (mt_Q G (some (.int o.1)) o.2) args s 0 0 (hp_A G)) G 3 0 0 2 [(0, .ref x0), (1, .int x1)] [] h) (k10 : Nat → Int32 → Int32 → hp_H → Option (Int32 × hp_H)) (hk10 : ∀ (x0 : Nat) (x1 : Int32) (x2 : Int32) (h : hp_H), k10 x0 x1 x2 h = some o → wq p l e (mt_R (6) 0 0) s m args below meth c (MQ below (mt_Q G (some (.int o.1)) o.2) args s 0 0 (hp_A G)) G 3 0 0 10 [(0, .ref x0), (1, .int x1), (2, .int x2)] [] h) (x0 : Nat) (x1 : Int32) (x2 : Int32) (h : hp_H) (hf : f_X11_isSeen_10 k2 k10 x0 x1 x2 h = some o) : wq p l e (mt_R (6) 0 0) s m args below meth c (MQ below (mt_Q G (some (.int o.1)) o.2) args s 0 0 (hp_A G)) G 3 0 0 10 [(0, .ref x0), (1, .int x1), (2, .int x2)] [] h := by
  unfold f_X11_isSeen_10 at hf
  refine wk_iload_n X dX11_isSeen_10 2 rfl ?_
  refine wk_aload_n X dX11_isSeen_11 0 rfl ?_
  refine wk_getI X dX11_isSeen_12 fo_X11_267 hf (fun v1 hf => ?_)
  refine wk_icmp_ge X 80 dX11_isSeen_15 (by decide) hf (fun hf => ?_) (fun hf => ?_)
  · exact wq_sub [0, 1] rfl (w_X11_isSeen_80 X k2 hk2 _ _ _ hf)
  · refine wk_aload_n X dX11_isSeen_18 0 rfl ?_
    refine wk_getR X dX11_isSeen_19 fo_X11_69 hf (fun v2 hf => ?_)
    refine wk_iconst X dX11_isSeen_22 ic_4 ?_
    refine wk_iload_n X dX11_isSeen_23 2 rfl ?_
    refine wk_imul X dX11_isSeen_24 ?_
    refine wk_iconst X dX11_isSeen_25 ic_1 ?_
    refine wk_iadd X dX11_isSeen_26 ?_
    refine wk_iald X dX11_isSeen_27 hf (fun v3 hf => ?_)
    refine wk_iload_n X dX11_isSeen_28 1 rfl ?_
    refine wk_icmp_ne X 74 dX11_isSeen_29 (by decide) hf (fun hf => ?_) (fun hf => ?_)
    · exact wq_sub [0, 1, 2] rfl (w_X11_isSeen_74 X k2 hk2 k10 hk10 _ _ _ _ hf)
    · refine wk_aload_n X dX11_isSeen_32 0 rfl ?_
      refine wk_bipush X dX11_isSeen_33 ib_33 ?_
      refine wk_aload_n X dX11_isSeen_35 0 rfl ?_
      refine wk_getR X dX11_isSeen_36 fo_X11_69 hf (fun v4 hf => ?_)
      refine wk_iconst X dX11_isSeen_39 ic_4 ?_
      refine wk_iload_n X dX11_isSeen_40 2 rfl ?_
      refine wk_imul X dX11_isSeen_41 ?_
      refine wk_iald X dX11_isSeen_42 hf (fun v5 hf => ?_)
      refine wk_callVi X [.int 33, .int v5] [] dX11_isSeen_43 rfl vo_X11_290 rfl (by decide) (Nat.le_of_ble_eq_true rfl) hf (c_X11_heardOf l _ _ _ _) (fun r6 hf => ?_)
      refine wk_aload_n X dX11_isSeen_46 0 rfl ?_
      refine wk_getR X dX11_isSeen_47 fo_X11_69 hf (fun v7 hf => ?_)
      refine wk_iconst X dX11_isSeen_50 ic_4 ?_
      refine wk_iload_n X dX11_isSeen_51 2 rfl ?_
      refine wk_imul X dX11_isSeen_52 ?_
      refine wk_iconst X dX11_isSeen_53 ic_2 ?_
      refine wk_iadd X dX11_isSeen_54 ?_
      refine wk_iald X dX11_isSeen_55 hf (fun v8 hf => ?_)
      refine wk_ishr X dX11_isSeen_56 ?_
      refine wk_iconst X dX11_isSeen_57 ic_1 ?_
      refine wk_iand X dX11_isSeen_58 ?_
      refine wk_aload_n X dX11_isSeen_59 0 rfl ?_
      refine wk_getR X dX11_isSeen_60 fo_X11_69 hf (fun v9 hf => ?_)
      refine wk_iconst X dX11_isSeen_63 ic_4 ?_
      refine wk_iload_n X dX11_isSeen_64 2 rfl ?_
      refine wk_imul X dX11_isSeen_65 ?_
      refine wk_iconst X dX11_isSeen_66 ic_3 ?_
      refine wk_iadd X dX11_isSeen_67 ?_
      refine wk_iald X dX11_isSeen_68 hf (fun v10 hf => ?_)
      refine wk_icmp_eq X 74 dX11_isSeen_69 (by decide) hf (fun hf => ?_) (fun hf => ?_)
      · exact wq_sub [0, 1, 2] rfl (w_X11_isSeen_74 X k2 hk2 k10 hk10 _ _ _ _ hf)
      · exact wq_sub [] rfl (w_X11_isSeen_72 X _ hf)
def l_X11_isSeen_10 (k2 : Nat → Int32 → hp_H → Option (Int32 × hp_H)) (x0 : Nat) (x1 : Int32) (x2 : Int32) (h : hp_H) : Option (Int32 × hp_H) := lp (fun k (s : Nat × Int32 × Int32 × hp_H) => f_X11_isSeen_10 k2 (fun a0 a1 a2 a3 => k (a0, a1, a2, a3)) s.1 s.2.1 s.2.2.1 s.2.2.2) 100000 (x0, x1, x2, h)
theorem wl_X11_isSeen_10 (X : wx G p s m args meth c cX11_isSeen 3 RX11 (some .boolean)) (k2 : Nat → Int32 → hp_H → Option (Int32 × hp_H)) (hk2 : ∀ (x0 : Nat) (x1 : Int32) (h : hp_H), k2 x0 x1 h = some o → wq p l e (mt_R (6) 0 0) s m args below meth c (MQ below (mt_Q G (some (.int o.1)) o.2) args s 0 0 (hp_A G)) G 3 0 0 2 [(0, .ref x0), (1, .int x1)] [] h) (x0 : Nat) (x1 : Int32) (x2 : Int32) (h : hp_H) (hf : l_X11_isSeen_10 k2 x0 x1 x2 h = some o) : wq p l e (mt_R (6) 0 0) s m args below meth c (MQ below (mt_Q G (some (.int o.1)) o.2) args s 0 0 (hp_A G)) G 3 0 0 10 [(0, .ref x0), (1, .int x1), (2, .int x2)] [] h :=
  lp_ind (P := fun (s_ : Nat × Int32 × Int32 × hp_H) => wq p l e (mt_R (6) 0 0) s m args below meth c (MQ below (mt_Q G (some (.int o.1)) o.2) args s 0 0 (hp_A G)) G 3 0 0 10 [(0, .ref s_.1), (1, .int s_.2.1), (2, .int s_.2.2.1)] [] s_.2.2.2) (fun k s hk hf => w_X11_isSeen_10 X k2 hk2 (fun a0 a1 a2 a3 => k (a0, a1, a2, a3)) (fun a0 a1 a2 a3 hf => hk (a0, a1, a2, a3) hf) s.1 s.2.1 s.2.2.1 s.2.2.2 hf) 100000 (x0, x1, x2, h) hf
def f_X11_isSeen_2 (k2 : Nat → Int32 → hp_H → Option (Int32 × hp_H)) (x0 : Nat) (x1 : Int32) (h : hp_H) : Option (Int32 × hp_H) := if 12 < x1 then (f_X11_isSeen_99 h) else (l_X11_isSeen_10 k2 x0 x1 0 h)
set_option maxRecDepth 20000 in
theorem w_X11_isSeen_2 (X : wx G p s m args meth c cX11_isSeen 3 RX11 (some .boolean)) (k2 : Nat → Int32 → hp_H → Option (Int32 × hp_H)) (hk2 : ∀ (x0 : Nat) (x1 : Int32) (h : hp_H), k2 x0 x1 h = some o → wq p l e (mt_R (6) 0 0) s m args below meth c (MQ below (mt_Q G (some (.int o.1)) o.2) args s 0 0 (hp_A G)) G 3 0 0 2 [(0, .ref x0), (1, .int x1)] [] h) (x0 : Nat) (x1 : Int32) (h : hp_H) (hf : f_X11_isSeen_2 k2 x0 x1 h = some o) : wq p l e (mt_R (6) 0 0) s m args below meth c (MQ below (mt_Q G (some (.int o.1)) o.2) args s 0 0 (hp_A G)) G 3 0 0 2 [(0, .ref x0), (1, .int x1)] [] h := by
  unfold f_X11_isSeen_2 at hf
  refine wk_iload_n X dX11_isSeen_2 1 rfl ?_
  refine wk_bipush X dX11_isSeen_3 ib_12 ?_
  refine wk_icmp_gt X 99 dX11_isSeen_5 (by decide) hf (fun hf => ?_) (fun hf => ?_)
  · exact wq_sub [] rfl (w_X11_isSeen_99 X _ hf)
  · refine wk_iconst X dX11_isSeen_8 ic_0 ?_
    refine wk_istore_n (lv' := [(2, .int 0), (0, .ref x0), (1, .int x1)]) X dX11_isSeen_9 (by decide) rfl ?_
    exact wq_sub [1, 2, 0] rfl (wl_X11_isSeen_10 X k2 hk2 _ _ _ _ hf)
def l_X11_isSeen_2 (x0 : Nat) (x1 : Int32) (h : hp_H) : Option (Int32 × hp_H) := lp (fun k (s : Nat × Int32 × hp_H) => f_X11_isSeen_2  (fun a0 a1 a2 => k (a0, a1, a2)) s.1 s.2.1 s.2.2) 100000 (x0, x1, h)
theorem wl_X11_isSeen_2 (X : wx G p s m args meth c cX11_isSeen 3 RX11 (some .boolean)) (x0 : Nat) (x1 : Int32) (h : hp_H) (hf : l_X11_isSeen_2 x0 x1 h = some o) : wq p l e (mt_R (6) 0 0) s m args below meth c (MQ below (mt_Q G (some (.int o.1)) o.2) args s 0 0 (hp_A G)) G 3 0 0 2 [(0, .ref x0), (1, .int x1)] [] h :=
  lp_ind (P := fun (s_ : Nat × Int32 × hp_H) => wq p l e (mt_R (6) 0 0) s m args below meth c (MQ below (mt_Q G (some (.int o.1)) o.2) args s 0 0 (hp_A G)) G 3 0 0 2 [(0, .ref s_.1), (1, .int s_.2.1)] [] s_.2.2) (fun k s hk hf => w_X11_isSeen_2 X  (fun a0 a1 a2 => k (a0, a1, a2)) (fun a0 a1 a2 hf => hk (a0, a1, a2) hf) s.1 s.2.1 s.2.2 hf) 100000 (x0, x1, h) hf
end Sf_X11_isSeen
def f_X11_isSeen (x0 : Nat) (h : hp_H) : Option (Int32 × hp_H) := gd h x0 11 (l_X11_isSeen_2 x0 1 h)
set_option maxRecDepth 20000 in
theorem c_X11_isSeen (l : Launch) (x0 : Nat) (h : hp_H) (r : Int32 × hp_H) (hf : f_X11_isSeen x0 h = some r) : cv l (6) yX11_isSeen cX11_isSeen 3 (some .boolean) 11 x0 [] h (some (.int r.1)) r.2 := by
  unfold f_X11_isSeen at hf
  refine cv_of (lv := [(0, .ref x0)]) hf (by decide +kernel) (Nat.le_of_ble_eq_true rfl) rfl (fun hf p e s m args below meth c G X => ?_)
  refine wk_iconst X dX11_isSeen_0 ic_1 ?_
  refine wk_istore_n (lv' := [(1, .int 1), (0, .ref x0)]) X dX11_isSeen_1 (by decide) rfl ?_
  exact wq_sub [1, 0] rfl (wl_X11_isSeen_2 X _ _ _ hf)
section Sf_X11_triesHeel
variable {p : Program} {l : Launch} {e : Env} {s : State} {m : MethodId} {args : Array Value} {below : List Frame} {meth : Method} {c : Code} {G : hp_G} {o : hp_H}
end Sf_X11_triesHeel
def f_X11_triesHeel (x0 : Nat) (x1 : Int32) (h : hp_H) : Option (hp_H) := gd h x0 11 ((f_X11_tries x0 h).bind fun r1 => (rd_R r1 x0 11 36).bind fun v2 => (rd_I r1 x0 11 1).bind fun v3 => (hp_div x1 v3).bind fun v4 => (rd_A r1 0 v2 (34 + v4)).bind fun v5 => (rd_I r1 x0 11 1).bind fun v6 => (hp_rem x1 v6).bind fun v7 => (wr_A r1 v2 (34 + v4) (v5 ^^^ (1 <<< (v7 &&& 31)))).bind fun h8 => some h8)
set_option maxRecDepth 20000 in
theorem c_X11_triesHeel (l : Launch) (x0 : Nat) (x1 : Int32) (h : hp_H) (r : hp_H) (hf : f_X11_triesHeel x0 x1 h = some r) : cv l (2) yX11_triesHeel cX11_triesHeel 2 none 11 x0 [.int x1] h none r := by
  unfold f_X11_triesHeel at hf
  refine cv_of (lv := [(0, .ref x0), (1, .int x1)]) hf (by decide +kernel) (Nat.le_of_ble_eq_true rfl) rfl (fun hf p e s m args below meth c G X => ?_)
  refine wk_aload_n X dX11_triesHeel_0 0 rfl ?_
  refine wk_callVv X [] [] dX11_triesHeel_1 rfl vo_X11_347 rfl (by decide) (Nat.le_of_ble_eq_true rfl) hf (c_X11_tries l _ _) (fun r1 hf => ?_)
  refine wk_aload_n X dX11_triesHeel_4 0 rfl ?_
  refine wk_getR X dX11_triesHeel_5 fo_X11_51 hf (fun v2 hf => ?_)
  refine wk_bipush X dX11_triesHeel_8 ib_34 ?_
  refine wk_iload_n X dX11_triesHeel_10 1 rfl ?_
  refine wk_aload_n X dX11_triesHeel_11 0 rfl ?_
  refine wk_getI X dX11_triesHeel_12 fo_X11_7 hf (fun v3 hf => ?_)
  refine wk_idiv X dX11_triesHeel_15 hf (fun v4 hf => ?_)
  refine wk_iadd X dX11_triesHeel_16 ?_
  refine wk_dup2 X dX11_triesHeel_17 rfl rfl ?_
  refine wk_iald X dX11_triesHeel_18 hf (fun v5 hf => ?_)
  refine wk_iconst X dX11_triesHeel_19 ic_1 ?_
  refine wk_iload_n X dX11_triesHeel_20 1 rfl ?_
  refine wk_aload_n X dX11_triesHeel_21 0 rfl ?_
  refine wk_getI X dX11_triesHeel_22 fo_X11_7 hf (fun v6 hf => ?_)
  refine wk_irem X dX11_triesHeel_25 hf (fun v7 hf => ?_)
  refine wk_ishl X dX11_triesHeel_26 ?_
  refine wk_ixor X dX11_triesHeel_27 ?_
  refine wk_iast X dX11_triesHeel_28 hf (fun h8 hf => ?_)
  exact wk_return X dX11_triesHeel_29 hf
section Sf_X11_limped
variable {p : Program} {l : Launch} {e : Env} {s : State} {m : MethodId} {args : Array Value} {below : List Frame} {meth : Method} {c : Code} {G : hp_G} {o : Int32 × hp_H}
def f_X11_limped_117 (t0 : Int32) (h : hp_H) : Option (Int32 × hp_H) := some (t0, h)
set_option maxRecDepth 20000 in
theorem w_X11_limped_117 (X : wx G p s m args meth c cX11_limped 5 RX11 (some .int)) (t0 : Int32) (h : hp_H) (hf : f_X11_limped_117 t0 h = some o) : wq p l e (mt_R (7) 0 0) s m args below meth c (MQ below (mt_Q G (some (.int o.1)) o.2) args s 0 0 (hp_A G)) G 5 0 0 117 [] [.int t0] h := by
  unfold f_X11_limped_117 at hf
  exact wk_ireturn X dX11_limped_117 hf
def f_X11_limped_108 (x1 : Int32) (x2 : Int32) (x3 : Int32) (h : hp_H) : Option (Int32 × hp_H) := if x1 = 0 then (f_X11_limped_117 x2 h) else (f_X11_limped_117 x3 h)
set_option maxRecDepth 20000 in
theorem w_X11_limped_108 (X : wx G p s m args meth c cX11_limped 5 RX11 (some .int)) (x1 : Int32) (x2 : Int32) (x3 : Int32) (h : hp_H) (hf : f_X11_limped_108 x1 x2 x3 h = some o) : wq p l e (mt_R (7) 0 0) s m args below meth c (MQ below (mt_Q G (some (.int o.1)) o.2) args s 0 0 (hp_A G)) G 5 0 0 108 [(1, .int x1), (2, .int x2), (3, .int x3)] [] h := by
  unfold f_X11_limped_108 at hf
  refine wk_iload_n X dX11_limped_108 0 rfl ?_
  refine wk_if_ne X 116 dX11_limped_109 (by decide) hf (fun hf => ?_) (fun hf => ?_)
  · refine wk_iload_n X dX11_limped_116 2 rfl ?_
    exact wq_sub [] rfl (w_X11_limped_117 X _ _ hf)
  · refine wk_iload_n X dX11_limped_112 1 rfl ?_
    refine wk_goto X 117 dX11_limped_113 (by decide) ?_
    exact wq_sub [] rfl (w_X11_limped_117 X _ _ hf)
def f_X11_limped_102 (k45 : Nat → Int32 → Int32 → Int32 → Int32 → hp_H → Option (Int32 × hp_H)) (x0 : Nat) (x1 : Int32) (x2 : Int32) (x3 : Int32) (x4 : Int32) (h : hp_H) : Option (Int32 × hp_H) := k45 x0 x1 x2 x3 (x4 + 1) h
set_option maxRecDepth 20000 in
theorem w_X11_limped_102 (X : wx G p s m args meth c cX11_limped 5 RX11 (some .int)) (k45 : Nat → Int32 → Int32 → Int32 → Int32 → hp_H → Option (Int32 × hp_H)) (hk45 : ∀ (x0 : Nat) (x1 : Int32) (x2 : Int32) (x3 : Int32) (x4 : Int32) (h : hp_H), k45 x0 x1 x2 x3 x4 h = some o → wq p l e (mt_R (7) 0 0) s m args below meth c (MQ below (mt_Q G (some (.int o.1)) o.2) args s 0 0 (hp_A G)) G 5 0 0 45 [(0, .ref x0), (1, .int x1), (2, .int x2), (3, .int x3), (4, .int x4)] [] h) (x0 : Nat) (x1 : Int32) (x2 : Int32) (x3 : Int32) (x4 : Int32) (h : hp_H) (hf : f_X11_limped_102 k45 x0 x1 x2 x3 x4 h = some o) : wq p l e (mt_R (7) 0 0) s m args below meth c (MQ below (mt_Q G (some (.int o.1)) o.2) args s 0 0 (hp_A G)) G 5 0 0 102 [(0, .ref x0), (1, .int x1), (2, .int x2), (3, .int x3), (4, .int x4)] [] h := by
  unfold f_X11_limped_102 at hf
  refine wk_iinc (lv' := [(4, .int (x4 + 1)), (0, .ref x0), (1, .int x1), (2, .int x2), (3, .int x3)]) X dX11_limped_102 4 rfl ic_1 (by decide) rfl ?_
  refine wk_goto X 45 dX11_limped_105 (by decide) ?_
  exact wq_sub [1, 2, 3, 4, 0] rfl (hk45 _ _ _ _ _ _ hf)
def f_X11_limped_45 (k45 : Nat → Int32 → Int32 → Int32 → Int32 → hp_H → Option (Int32 × hp_H)) (x0 : Nat) (x1 : Int32) (x2 : Int32) (x3 : Int32) (x4 : Int32) (h : hp_H) : Option (Int32 × hp_H) := (rd_I h x0 11 1).bind fun v1 => (rd_I h x0 11 2).bind fun v2 => if (v1 * v2) ≤ x4 then (f_X11_limped_108 x1 x2 x3 h) else ((f_X11_triesHeel x0 x4 h).bind fun r3 => (f_X11_isSeen x0 r3).bind fun r4 => if r4.1 = 0 then (f_X11_limped_102 k45 x0 x1 x2 x3 x4 r4.2) else (if x3 = (-1) then ((rd_I r4.2 x0 11 1).bind fun v5 => (hp_div x4 v5).bind fun v6 => (rd_I r4.2 x0 11 1).bind fun v7 => (hp_rem x4 v7).bind fun v8 => f_X11_limped_102 k45 x0 x1 (x2 + 1) ((v6 * 100) + v8) x4 r4.2) else (f_X11_limped_102 k45 x0 x1 (x2 + 1) x3 x4 r4.2)))
set_option maxRecDepth 20000 in
theorem w_X11_limped_45 (X : wx G p s m args meth c cX11_limped 5 RX11 (some .int)) (k45 : Nat → Int32 → Int32 → Int32 → Int32 → hp_H → Option (Int32 × hp_H)) (hk45 : ∀ (x0 : Nat) (x1 : Int32) (x2 : Int32) (x3 : Int32) (x4 : Int32) (h : hp_H), k45 x0 x1 x2 x3 x4 h = some o → wq p l e (mt_R (7) 0 0) s m args below meth c (MQ below (mt_Q G (some (.int o.1)) o.2) args s 0 0 (hp_A G)) G 5 0 0 45 [(0, .ref x0), (1, .int x1), (2, .int x2), (3, .int x3), (4, .int x4)] [] h) (x0 : Nat) (x1 : Int32) (x2 : Int32) (x3 : Int32) (x4 : Int32) (h : hp_H) (hf : f_X11_limped_45 k45 x0 x1 x2 x3 x4 h = some o) : wq p l e (mt_R (7) 0 0) s m args below meth c (MQ below (mt_Q G (some (.int o.1)) o.2) args s 0 0 (hp_A G)) G 5 0 0 45 [(0, .ref x0), (1, .int x1), (2, .int x2), (3, .int x3), (4, .int x4)] [] h := by
  unfold f_X11_limped_45 at hf
  refine wk_iload X dX11_limped_45 4 rfl ?_
  refine wk_aload_n X dX11_limped_47 0 rfl ?_
  refine wk_getI X dX11_limped_48 fo_X11_7 hf (fun v1 hf => ?_)
  refine wk_aload_n X dX11_limped_51 0 rfl ?_
  refine wk_getI X dX11_limped_52 fo_X11_251 hf (fun v2 hf => ?_)
  refine wk_imul X dX11_limped_55 ?_
  refine wk_icmp_ge X 108 dX11_limped_56 (by decide) hf (fun hf => ?_) (fun hf => ?_)
  · exact wq_sub [1, 2, 3] rfl (w_X11_limped_108 X _ _ _ _ hf)
  · refine wk_aload_n X dX11_limped_59 0 rfl ?_
    refine wk_iload X dX11_limped_60 4 rfl ?_
    refine wk_callVv X [.int x4] [] dX11_limped_62 rfl vo_X11_378 rfl (by decide) (Nat.le_of_ble_eq_true rfl) hf (c_X11_triesHeel l _ _ _) (fun r3 hf => ?_)
    refine wk_aload_n X dX11_limped_65 0 rfl ?_
    refine wk_callVi X [] [] dX11_limped_66 rfl vo_X11_375 rfl (by decide) (Nat.le_of_ble_eq_true rfl) hf (c_X11_isSeen l _ _) (fun r4 hf => ?_)
    refine wk_if_ne X 75 dX11_limped_69 (by decide) hf (fun hf => ?_) (fun hf => ?_)
    · refine wk_iinc (lv' := [(2, .int (x2 + 1)), (0, .ref x0), (1, .int x1), (3, .int x3), (4, .int x4)]) X dX11_limped_75 2 rfl ic_1 (by decide) rfl ?_
      refine wk_iload_n X dX11_limped_78 3 rfl ?_
      refine wk_iconst X dX11_limped_79 ic_m1 ?_
      refine wk_icmp_ne X 102 dX11_limped_80 (by decide) hf (fun hf => ?_) (fun hf => ?_)
      · exact wq_sub [1, 2, 0, 3, 4] rfl (w_X11_limped_102 X k45 hk45 _ _ _ _ _ _ hf)
      · refine wk_iload X dX11_limped_83 4 rfl ?_
        refine wk_aload_n X dX11_limped_85 1 rfl ?_
        refine wk_getI X dX11_limped_86 fo_X11_7 hf (fun v5 hf => ?_)
        refine wk_idiv X dX11_limped_89 hf (fun v6 hf => ?_)
        refine wk_bipush X dX11_limped_90 ib_100 ?_
        refine wk_imul X dX11_limped_92 ?_
        refine wk_iload X dX11_limped_93 4 rfl ?_
        refine wk_aload_n X dX11_limped_95 1 rfl ?_
        refine wk_getI X dX11_limped_96 fo_X11_7 hf (fun v7 hf => ?_)
        refine wk_irem X dX11_limped_99 hf (fun v8 hf => ?_)
        refine wk_iadd X dX11_limped_100 ?_
        refine wk_istore_n (lv' := [(3, .int ((v6 * 100) + v8)), (2, .int (x2 + 1)), (0, .ref x0), (1, .int x1), (4, .int x4)]) X dX11_limped_101 (by decide) rfl ?_
        exact wq_sub [2, 3, 1, 0, 4] rfl (w_X11_limped_102 X k45 hk45 _ _ _ _ _ _ hf)
    · refine wk_goto X 102 dX11_limped_72 (by decide) ?_
      exact wq_sub [0, 1, 2, 3, 4] rfl (w_X11_limped_102 X k45 hk45 _ _ _ _ _ _ hf)
def l_X11_limped_45 (x0 : Nat) (x1 : Int32) (x2 : Int32) (x3 : Int32) (x4 : Int32) (h : hp_H) : Option (Int32 × hp_H) := lp (fun k (s : Nat × Int32 × Int32 × Int32 × Int32 × hp_H) => f_X11_limped_45  (fun a0 a1 a2 a3 a4 a5 => k (a0, a1, a2, a3, a4, a5)) s.1 s.2.1 s.2.2.1 s.2.2.2.1 s.2.2.2.2.1 s.2.2.2.2.2) 100000 (x0, x1, x2, x3, x4, h)
theorem wl_X11_limped_45 (X : wx G p s m args meth c cX11_limped 5 RX11 (some .int)) (x0 : Nat) (x1 : Int32) (x2 : Int32) (x3 : Int32) (x4 : Int32) (h : hp_H) (hf : l_X11_limped_45 x0 x1 x2 x3 x4 h = some o) : wq p l e (mt_R (7) 0 0) s m args below meth c (MQ below (mt_Q G (some (.int o.1)) o.2) args s 0 0 (hp_A G)) G 5 0 0 45 [(0, .ref x0), (1, .int x1), (2, .int x2), (3, .int x3), (4, .int x4)] [] h :=
  lp_ind (P := fun (s_ : Nat × Int32 × Int32 × Int32 × Int32 × hp_H) => wq p l e (mt_R (7) 0 0) s m args below meth c (MQ below (mt_Q G (some (.int o.1)) o.2) args s 0 0 (hp_A G)) G 5 0 0 45 [(0, .ref s_.1), (1, .int s_.2.1), (2, .int s_.2.2.1), (3, .int s_.2.2.2.1), (4, .int s_.2.2.2.2.1)] [] s_.2.2.2.2.2) (fun k s hk hf => w_X11_limped_45 X  (fun a0 a1 a2 a3 a4 a5 => k (a0, a1, a2, a3, a4, a5)) (fun a0 a1 a2 a3 a4 a5 hf => hk (a0, a1, a2, a3, a4, a5) hf) s.1 s.2.1 s.2.2.1 s.2.2.2.1 s.2.2.2.2.1 s.2.2.2.2.2 hf) 100000 (x0, x1, x2, x3, x4, h) hf
def f_X11_limped_37 (t0 : Int32) (h : hp_H) : Option (Int32 × hp_H) := some (t0, h)
set_option maxRecDepth 20000 in
theorem w_X11_limped_37 (X : wx G p s m args meth c cX11_limped 5 RX11 (some .int)) (t0 : Int32) (h : hp_H) (hf : f_X11_limped_37 t0 h = some o) : wq p l e (mt_R (7) 0 0) s m args below meth c (MQ below (mt_Q G (some (.int o.1)) o.2) args s 0 0 (hp_A G)) G 5 0 0 37 [] [.int t0] h := by
  unfold f_X11_limped_37 at hf
  exact wk_ireturn X dX11_limped_37 hf
end Sf_X11_limped
def f_X11_limped (x0 : Nat) (x1 : Int32) (h : hp_H) : Option (Int32 × hp_H) := gd h x0 11 ((wr_I h x0 11 0 0).bind fun h1 => (f_X11_isWhat x0 x1 2 h1).bind fun r2 => if r2.1 = 0 then (some (0, r2.2)) else (if x1 = 2 then ((f_X11_tries x0 r2.2).bind fun r3 => (f_X11_isSeen x0 r3).bind fun r4 => if r4.1 = 0 then (f_X11_limped_37 0 r4.2) else (f_X11_limped_37 1 r4.2)) else (l_X11_limped_45 x0 x1 0 (-1) 0 r2.2)))
set_option maxRecDepth 20000 in
theorem c_X11_limped (l : Launch) (x0 : Nat) (x1 : Int32) (h : hp_H) (r : Int32 × hp_H) (hf : f_X11_limped x0 x1 h = some r) : cv l (7) yX11_limped cX11_limped 5 (some .int) 11 x0 [.int x1] h (some (.int r.1)) r.2 := by
  unfold f_X11_limped at hf
  refine cv_of (lv := [(0, .ref x0), (1, .int x1)]) hf (by decide +kernel) (Nat.le_of_ble_eq_true rfl) rfl (fun hf p e s m args below meth c G X => ?_)
  refine wk_aload_n X dX11_limped_0 0 rfl ?_
  refine wk_iconst X dX11_limped_1 ic_0 ?_
  refine wk_putI X dX11_limped_2 fo_X11_84 hf (fun h1 hf => ?_)
  refine wk_aload_n X dX11_limped_5 0 rfl ?_
  refine wk_iload_n X dX11_limped_6 1 rfl ?_
  refine wk_iconst X dX11_limped_7 ic_2 ?_
  refine wk_callVi X [.int x1, .int 2] [] dX11_limped_8 rfl vo_X11_330 rfl (by decide) (Nat.le_of_ble_eq_true rfl) hf (c_X11_isWhat l _ _ _ _) (fun r2 hf => ?_)
  refine wk_if_ne X 16 dX11_limped_11 (by decide) hf (fun hf => ?_) (fun hf => ?_)
  · refine wk_iload_n X dX11_limped_16 1 rfl ?_
    refine wk_iconst X dX11_limped_17 ic_2 ?_
    refine wk_icmp_ne X 38 dX11_limped_18 (by decide) hf (fun hf => ?_) (fun hf => ?_)
    · refine wk_iconst X dX11_limped_38 ic_0 ?_
      refine wk_istore_n (lv' := [(2, .int 0), (0, .ref x0), (1, .int x1)]) X dX11_limped_39 (by decide) rfl ?_
      refine wk_iconst X dX11_limped_40 ic_m1 ?_
      refine wk_istore_n (lv' := [(3, .int (-1)), (2, .int 0), (0, .ref x0), (1, .int x1)]) X dX11_limped_41 (by decide) rfl ?_
      refine wk_iconst X dX11_limped_42 ic_0 ?_
      refine wk_istore (lv' := [(4, .int 0), (3, .int (-1)), (2, .int 0), (0, .ref x0), (1, .int x1)]) X dX11_limped_43 (by decide) rfl ?_
      exact wq_sub [3, 4, 2, 1, 0] rfl (wl_X11_limped_45 X _ _ _ _ _ _ hf)
    · refine wk_aload_n X dX11_limped_21 0 rfl ?_
      refine wk_callVv X [] [] dX11_limped_22 rfl vo_X11_347 rfl (by decide) (Nat.le_of_ble_eq_true rfl) hf (c_X11_tries l _ _) (fun r3 hf => ?_)
      refine wk_aload_n X dX11_limped_25 0 rfl ?_
      refine wk_callVi X [] [] dX11_limped_26 rfl vo_X11_375 rfl (by decide) (Nat.le_of_ble_eq_true rfl) hf (c_X11_isSeen l _ _) (fun r4 hf => ?_)
      refine wk_if_eq X 36 dX11_limped_29 (by decide) hf (fun hf => ?_) (fun hf => ?_)
      · refine wk_iconst X dX11_limped_36 ic_0 ?_
        exact wq_sub [] rfl (w_X11_limped_37 X _ _ hf)
      · refine wk_iconst X dX11_limped_32 ic_1 ?_
        refine wk_goto X 37 dX11_limped_33 (by decide) ?_
        exact wq_sub [] rfl (w_X11_limped_37 X _ _ hf)
  · refine wk_iconst X dX11_limped_14 ic_0 ?_
    exact wk_ireturn X dX11_limped_15 hf
section Sf_X11_next
variable {p : Program} {l : Launch} {e : Env} {s : State} {m : MethodId} {args : Array Value} {below : List Frame} {meth : Method} {c : Code} {G : hp_G} {o : Int32 × hp_H}
def f_X11_next_243 (t0 : Int32) (h : hp_H) : Option (Int32 × hp_H) := some (t0, h)
set_option maxRecDepth 20000 in
theorem w_X11_next_243 (X : wx G p s m args meth c cX11_next 10 RX11 (some .int)) (t0 : Int32) (h : hp_H) (hf : f_X11_next_243 t0 h = some o) : wq p l e (mt_R (7) 0 0) s m args below meth c (MQ below (mt_Q G (some (.int o.1)) o.2) args s 0 0 (hp_A G)) G 10 0 0 243 [] [.int t0] h := by
  unfold f_X11_next_243 at hf
  exact wk_ireturn X dX11_next_243 hf
def f_X11_next_233 (x1 : Int32) (x3 : Int32) (x4 : Int32) (h : hp_H) : Option (Int32 × hp_H) := if x1 = 0 then (f_X11_next_243 x3 h) else (f_X11_next_243 x4 h)
set_option maxRecDepth 20000 in
theorem w_X11_next_233 (X : wx G p s m args meth c cX11_next 10 RX11 (some .int)) (x1 : Int32) (x3 : Int32) (x4 : Int32) (h : hp_H) (hf : f_X11_next_233 x1 x3 x4 h = some o) : wq p l e (mt_R (7) 0 0) s m args below meth c (MQ below (mt_Q G (some (.int o.1)) o.2) args s 0 0 (hp_A G)) G 10 0 0 233 [(1, .int x1), (3, .int x3), (4, .int x4)] [] h := by
  unfold f_X11_next_233 at hf
  refine wk_iload_n X dX11_next_233 0 rfl ?_
  refine wk_if_ne X 241 dX11_next_234 (by decide) hf (fun hf => ?_) (fun hf => ?_)
  · refine wk_iload X dX11_next_241 2 rfl ?_
    exact wq_sub [] rfl (w_X11_next_243 X _ _ hf)
  · refine wk_iload_n X dX11_next_237 1 rfl ?_
    refine wk_goto X 243 dX11_next_238 (by decide) ?_
    exact wq_sub [] rfl (w_X11_next_243 X _ _ hf)
def f_X11_next_227 (k108 : Nat → Int32 → Int32 → Int32 → Int32 → Int32 → hp_H → Option (Int32 × hp_H)) (x0 : Nat) (x1 : Int32) (x2 : Int32) (x3 : Int32) (x4 : Int32) (x5 : Int32) (h : hp_H) : Option (Int32 × hp_H) := k108 x0 x1 x2 x3 x4 (x5 + 1) h
set_option maxRecDepth 20000 in
theorem w_X11_next_227 (X : wx G p s m args meth c cX11_next 10 RX11 (some .int)) (k108 : Nat → Int32 → Int32 → Int32 → Int32 → Int32 → hp_H → Option (Int32 × hp_H)) (hk108 : ∀ (x0 : Nat) (x1 : Int32) (x2 : Int32) (x3 : Int32) (x4 : Int32) (x5 : Int32) (h : hp_H), k108 x0 x1 x2 x3 x4 x5 h = some o → wq p l e (mt_R (7) 0 0) s m args below meth c (MQ below (mt_Q G (some (.int o.1)) o.2) args s 0 0 (hp_A G)) G 10 0 0 108 [(0, .ref x0), (1, .int x1), (2, .int x2), (3, .int x3), (4, .int x4), (5, .int x5)] [] h) (x0 : Nat) (x1 : Int32) (x2 : Int32) (x3 : Int32) (x4 : Int32) (x5 : Int32) (h : hp_H) (hf : f_X11_next_227 k108 x0 x1 x2 x3 x4 x5 h = some o) : wq p l e (mt_R (7) 0 0) s m args below meth c (MQ below (mt_Q G (some (.int o.1)) o.2) args s 0 0 (hp_A G)) G 10 0 0 227 [(0, .ref x0), (1, .int x1), (2, .int x2), (3, .int x3), (4, .int x4), (5, .int x5)] [] h := by
  unfold f_X11_next_227 at hf
  refine wk_iinc (lv' := [(5, .int (x5 + 1)), (0, .ref x0), (1, .int x1), (2, .int x2), (3, .int x3), (4, .int x4)]) X dX11_next_227 5 rfl ic_1 (by decide) rfl ?_
  refine wk_goto X 108 dX11_next_230 (by decide) ?_
  exact wq_sub [1, 2, 3, 4, 5, 0] rfl (hk108 _ _ _ _ _ _ _ hf)
def f_X11_next_210 (k108 : Nat → Int32 → Int32 → Int32 → Int32 → Int32 → hp_H → Option (Int32 × hp_H)) (x0 : Nat) (x1 : Int32) (x2 : Int32) (x3 : Int32) (x4 : Int32) (x5 : Int32) (x6 : Int32) (h : hp_H) : Option (Int32 × hp_H) := if x4 < x6 then (f_X11_next_227 k108 x0 x1 x2 x5 x6 x5 h) else (f_X11_next_227 k108 x0 x1 x2 x3 x4 x5 h)
set_option maxRecDepth 20000 in
theorem w_X11_next_210 (X : wx G p s m args meth c cX11_next 10 RX11 (some .int)) (k108 : Nat → Int32 → Int32 → Int32 → Int32 → Int32 → hp_H → Option (Int32 × hp_H)) (hk108 : ∀ (x0 : Nat) (x1 : Int32) (x2 : Int32) (x3 : Int32) (x4 : Int32) (x5 : Int32) (h : hp_H), k108 x0 x1 x2 x3 x4 x5 h = some o → wq p l e (mt_R (7) 0 0) s m args below meth c (MQ below (mt_Q G (some (.int o.1)) o.2) args s 0 0 (hp_A G)) G 10 0 0 108 [(0, .ref x0), (1, .int x1), (2, .int x2), (3, .int x3), (4, .int x4), (5, .int x5)] [] h) (x0 : Nat) (x1 : Int32) (x2 : Int32) (x3 : Int32) (x4 : Int32) (x5 : Int32) (x6 : Int32) (h : hp_H) (hf : f_X11_next_210 k108 x0 x1 x2 x3 x4 x5 x6 h = some o) : wq p l e (mt_R (7) 0 0) s m args below meth c (MQ below (mt_Q G (some (.int o.1)) o.2) args s 0 0 (hp_A G)) G 10 0 0 210 [(0, .ref x0), (1, .int x1), (2, .int x2), (3, .int x3), (4, .int x4), (5, .int x5), (6, .int x6)] [] h := by
  unfold f_X11_next_210 at hf
  refine wk_iload X dX11_next_210 6 rfl ?_
  refine wk_iload X dX11_next_212 4 rfl ?_
  refine wk_icmp_gt X 220 dX11_next_214 (by decide) hf (fun hf => ?_) (fun hf => ?_)
  · refine wk_iload X dX11_next_220 5 rfl ?_
    refine wk_istore_n (lv' := [(3, .int x5), (0, .ref x0), (1, .int x1), (2, .int x2), (4, .int x4), (5, .int x5), (6, .int x6)]) X dX11_next_222 (by decide) rfl ?_
    refine wk_iload X dX11_next_223 6 rfl ?_
    refine wk_istore (lv' := [(4, .int x6), (3, .int x5), (0, .ref x0), (1, .int x1), (2, .int x2), (5, .int x5), (6, .int x6)]) X dX11_next_225 (by decide) rfl ?_
    exact wq_sub [2, 3, 4, 1, 0, 5] rfl (w_X11_next_227 X k108 hk108 _ _ _ _ _ _ _ hf)
  · refine wk_goto X 227 dX11_next_217 (by decide) ?_
    exact wq_sub [0, 1, 2, 3, 4, 5] rfl (w_X11_next_227 X k108 hk108 _ _ _ _ _ _ _ hf)
def f_X11_next_201 (k108 : Nat → Int32 → Int32 → Int32 → Int32 → Int32 → hp_H → Option (Int32 × hp_H)) (k123 : Nat → Int32 → Int32 → Int32 → Int32 → Int32 → Int32 → Int32 → hp_H → Option (Int32 × hp_H)) (x0 : Nat) (x1 : Int32) (x2 : Int32) (x3 : Int32) (x4 : Int32) (x5 : Int32) (x7 : Int32) (t0 : Int32) (t1 : Int32) (h : hp_H) : Option (Int32 × hp_H) := k123 x0 x1 x2 x3 x4 x5 (t0 + t1) (x7 + 1) h
set_option maxRecDepth 20000 in
theorem w_X11_next_201 (X : wx G p s m args meth c cX11_next 10 RX11 (some .int)) (k108 : Nat → Int32 → Int32 → Int32 → Int32 → Int32 → hp_H → Option (Int32 × hp_H)) (hk108 : ∀ (x0 : Nat) (x1 : Int32) (x2 : Int32) (x3 : Int32) (x4 : Int32) (x5 : Int32) (h : hp_H), k108 x0 x1 x2 x3 x4 x5 h = some o → wq p l e (mt_R (7) 0 0) s m args below meth c (MQ below (mt_Q G (some (.int o.1)) o.2) args s 0 0 (hp_A G)) G 10 0 0 108 [(0, .ref x0), (1, .int x1), (2, .int x2), (3, .int x3), (4, .int x4), (5, .int x5)] [] h) (k123 : Nat → Int32 → Int32 → Int32 → Int32 → Int32 → Int32 → Int32 → hp_H → Option (Int32 × hp_H)) (hk123 : ∀ (x0 : Nat) (x1 : Int32) (x2 : Int32) (x3 : Int32) (x4 : Int32) (x5 : Int32) (x6 : Int32) (x7 : Int32) (h : hp_H), k123 x0 x1 x2 x3 x4 x5 x6 x7 h = some o → wq p l e (mt_R (7) 0 0) s m args below meth c (MQ below (mt_Q G (some (.int o.1)) o.2) args s 0 0 (hp_A G)) G 10 0 0 123 [(0, .ref x0), (1, .int x1), (2, .int x2), (3, .int x3), (4, .int x4), (5, .int x5), (6, .int x6), (7, .int x7)] [] h) (x0 : Nat) (x1 : Int32) (x2 : Int32) (x3 : Int32) (x4 : Int32) (x5 : Int32) (x7 : Int32) (t0 : Int32) (t1 : Int32) (h : hp_H) (hf : f_X11_next_201 k108 k123 x0 x1 x2 x3 x4 x5 x7 t0 t1 h = some o) : wq p l e (mt_R (7) 0 0) s m args below meth c (MQ below (mt_Q G (some (.int o.1)) o.2) args s 0 0 (hp_A G)) G 10 0 0 201 [(0, .ref x0), (1, .int x1), (2, .int x2), (3, .int x3), (4, .int x4), (5, .int x5), (7, .int x7)] [.int t1, .int t0] h := by
  unfold f_X11_next_201 at hf
  refine wk_iadd X dX11_next_201 ?_
  refine wk_istore (lv' := [(6, .int (t0 + t1)), (0, .ref x0), (1, .int x1), (2, .int x2), (3, .int x3), (4, .int x4), (5, .int x5), (7, .int x7)]) X dX11_next_202 (by decide) rfl ?_
  refine wk_iinc (lv' := [(7, .int (x7 + 1)), (6, .int (t0 + t1)), (0, .ref x0), (1, .int x1), (2, .int x2), (3, .int x3), (4, .int x4), (5, .int x5)]) X dX11_next_204 7 rfl ic_1 (by decide) rfl ?_
  refine wk_goto X 123 dX11_next_207 (by decide) ?_
  exact wq_sub [2, 3, 4, 5, 6, 7, 1, 0] rfl (hk123 _ _ _ _ _ _ _ _ _ hf)
def f_X11_next_189 (k108 : Nat → Int32 → Int32 → Int32 → Int32 → Int32 → hp_H → Option (Int32 × hp_H)) (k123 : Nat → Int32 → Int32 → Int32 → Int32 → Int32 → Int32 → Int32 → hp_H → Option (Int32 × hp_H)) (x0 : Nat) (x1 : Int32) (x2 : Int32) (x3 : Int32) (x4 : Int32) (x5 : Int32) (x6 : Int32) (x7 : Int32) (x8 : Int32) (h : hp_H) : Option (Int32 × hp_H) := if x8 = 0 then (f_X11_next_201 k108 k123 x0 x1 x2 x3 x4 x5 x7 x6 0 h) else (f_X11_next_201 k108 k123 x0 x1 x2 x3 x4 x5 x7 x6 1 h)
set_option maxRecDepth 20000 in
theorem w_X11_next_189 (X : wx G p s m args meth c cX11_next 10 RX11 (some .int)) (k108 : Nat → Int32 → Int32 → Int32 → Int32 → Int32 → hp_H → Option (Int32 × hp_H)) (hk108 : ∀ (x0 : Nat) (x1 : Int32) (x2 : Int32) (x3 : Int32) (x4 : Int32) (x5 : Int32) (h : hp_H), k108 x0 x1 x2 x3 x4 x5 h = some o → wq p l e (mt_R (7) 0 0) s m args below meth c (MQ below (mt_Q G (some (.int o.1)) o.2) args s 0 0 (hp_A G)) G 10 0 0 108 [(0, .ref x0), (1, .int x1), (2, .int x2), (3, .int x3), (4, .int x4), (5, .int x5)] [] h) (k123 : Nat → Int32 → Int32 → Int32 → Int32 → Int32 → Int32 → Int32 → hp_H → Option (Int32 × hp_H)) (hk123 : ∀ (x0 : Nat) (x1 : Int32) (x2 : Int32) (x3 : Int32) (x4 : Int32) (x5 : Int32) (x6 : Int32) (x7 : Int32) (h : hp_H), k123 x0 x1 x2 x3 x4 x5 x6 x7 h = some o → wq p l e (mt_R (7) 0 0) s m args below meth c (MQ below (mt_Q G (some (.int o.1)) o.2) args s 0 0 (hp_A G)) G 10 0 0 123 [(0, .ref x0), (1, .int x1), (2, .int x2), (3, .int x3), (4, .int x4), (5, .int x5), (6, .int x6), (7, .int x7)] [] h) (x0 : Nat) (x1 : Int32) (x2 : Int32) (x3 : Int32) (x4 : Int32) (x5 : Int32) (x6 : Int32) (x7 : Int32) (x8 : Int32) (h : hp_H) (hf : f_X11_next_189 k108 k123 x0 x1 x2 x3 x4 x5 x6 x7 x8 h = some o) : wq p l e (mt_R (7) 0 0) s m args below meth c (MQ below (mt_Q G (some (.int o.1)) o.2) args s 0 0 (hp_A G)) G 10 0 0 189 [(0, .ref x0), (1, .int x1), (2, .int x2), (3, .int x3), (4, .int x4), (5, .int x5), (6, .int x6), (7, .int x7), (8, .int x8)] [] h := by
  unfold f_X11_next_189 at hf
  refine wk_iload X dX11_next_189 6 rfl ?_
  refine wk_iload X dX11_next_191 8 rfl ?_
  refine wk_if_eq X 200 dX11_next_193 (by decide) hf (fun hf => ?_) (fun hf => ?_)
  · refine wk_iconst X dX11_next_200 ic_0 ?_
    exact wq_sub [0, 1, 2, 3, 4, 5, 7] rfl (w_X11_next_201 X k108 hk108 k123 hk123 _ _ _ _ _ _ _ _ _ _ hf)
  · refine wk_iconst X dX11_next_196 ic_1 ?_
    refine wk_goto X 201 dX11_next_197 (by decide) ?_
    exact wq_sub [0, 1, 2, 3, 4, 5, 7] rfl (w_X11_next_201 X k108 hk108 k123 hk123 _ _ _ _ _ _ _ _ _ _ hf)
def f_X11_next_181 (k108 : Nat → Int32 → Int32 → Int32 → Int32 → Int32 → hp_H → Option (Int32 × hp_H)) (k123 : Nat → Int32 → Int32 → Int32 → Int32 → Int32 → Int32 → Int32 → hp_H → Option (Int32 × hp_H)) (k135 : Nat → Int32 → Int32 → Int32 → Int32 → Int32 → Int32 → Int32 → Int32 → Int32 → hp_H → Option (Int32 × hp_H)) (x0 : Nat) (x1 : Int32) (x2 : Int32) (x3 : Int32) (x4 : Int32) (x5 : Int32) (x6 : Int32) (x7 : Int32) (x9 : Int32) (t0 : Int32) (h : hp_H) : Option (Int32 × hp_H) := k135 x0 x1 x2 x3 x4 x5 x6 x7 t0 (x9 + 1) h
set_option maxRecDepth 20000 in
theorem w_X11_next_181 (X : wx G p s m args meth c cX11_next 10 RX11 (some .int)) (k108 : Nat → Int32 → Int32 → Int32 → Int32 → Int32 → hp_H → Option (Int32 × hp_H)) (hk108 : ∀ (x0 : Nat) (x1 : Int32) (x2 : Int32) (x3 : Int32) (x4 : Int32) (x5 : Int32) (h : hp_H), k108 x0 x1 x2 x3 x4 x5 h = some o → wq p l e (mt_R (7) 0 0) s m args below meth c (MQ below (mt_Q G (some (.int o.1)) o.2) args s 0 0 (hp_A G)) G 10 0 0 108 [(0, .ref x0), (1, .int x1), (2, .int x2), (3, .int x3), (4, .int x4), (5, .int x5)] [] h) (k123 : Nat → Int32 → Int32 → Int32 → Int32 → Int32 → Int32 → Int32 → hp_H → Option (Int32 × hp_H)) (hk123 : ∀ (x0 : Nat) (x1 : Int32) (x2 : Int32) (x3 : Int32) (x4 : Int32) (x5 : Int32) (x6 : Int32) (x7 : Int32) (h : hp_H), k123 x0 x1 x2 x3 x4 x5 x6 x7 h = some o → wq p l e (mt_R (7) 0 0) s m args below meth c (MQ below (mt_Q G (some (.int o.1)) o.2) args s 0 0 (hp_A G)) G 10 0 0 123 [(0, .ref x0), (1, .int x1), (2, .int x2), (3, .int x3), (4, .int x4), (5, .int x5), (6, .int x6), (7, .int x7)] [] h) (k135 : Nat → Int32 → Int32 → Int32 → Int32 → Int32 → Int32 → Int32 → Int32 → Int32 → hp_H → Option (Int32 × hp_H)) (hk135 : ∀ (x0 : Nat) (x1 : Int32) (x2 : Int32) (x3 : Int32) (x4 : Int32) (x5 : Int32) (x6 : Int32) (x7 : Int32) (x8 : Int32) (x9 : Int32) (h : hp_H), k135 x0 x1 x2 x3 x4 x5 x6 x7 x8 x9 h = some o → wq p l e (mt_R (7) 0 0) s m args below meth c (MQ below (mt_Q G (some (.int o.1)) o.2) args s 0 0 (hp_A G)) G 10 0 0 135 [(0, .ref x0), (1, .int x1), (2, .int x2), (3, .int x3), (4, .int x4), (5, .int x5), (6, .int x6), (7, .int x7), (8, .int x8), (9, .int x9)] [] h) (x0 : Nat) (x1 : Int32) (x2 : Int32) (x3 : Int32) (x4 : Int32) (x5 : Int32) (x6 : Int32) (x7 : Int32) (x9 : Int32) (t0 : Int32) (h : hp_H) (hf : f_X11_next_181 k108 k123 k135 x0 x1 x2 x3 x4 x5 x6 x7 x9 t0 h = some o) : wq p l e (mt_R (7) 0 0) s m args below meth c (MQ below (mt_Q G (some (.int o.1)) o.2) args s 0 0 (hp_A G)) G 10 0 0 181 [(0, .ref x0), (1, .int x1), (2, .int x2), (3, .int x3), (4, .int x4), (5, .int x5), (6, .int x6), (7, .int x7), (9, .int x9)] [.int t0] h := by
  unfold f_X11_next_181 at hf
  refine wk_istore (lv' := [(8, .int t0), (0, .ref x0), (1, .int x1), (2, .int x2), (3, .int x3), (4, .int x4), (5, .int x5), (6, .int x6), (7, .int x7), (9, .int x9)]) X dX11_next_181 (by decide) rfl ?_
  refine wk_iinc (lv' := [(9, .int (x9 + 1)), (8, .int t0), (0, .ref x0), (1, .int x1), (2, .int x2), (3, .int x3), (4, .int x4), (5, .int x5), (6, .int x6), (7, .int x7)]) X dX11_next_183 9 rfl ic_1 (by decide) rfl ?_
  refine wk_goto X 135 dX11_next_186 (by decide) ?_
  exact wq_sub [2, 3, 4, 5, 6, 7, 8, 9, 1, 0] rfl (hk135 _ _ _ _ _ _ _ _ _ _ _ hf)
def f_X11_next_135 (k108 : Nat → Int32 → Int32 → Int32 → Int32 → Int32 → hp_H → Option (Int32 × hp_H)) (k123 : Nat → Int32 → Int32 → Int32 → Int32 → Int32 → Int32 → Int32 → hp_H → Option (Int32 × hp_H)) (k135 : Nat → Int32 → Int32 → Int32 → Int32 → Int32 → Int32 → Int32 → Int32 → Int32 → hp_H → Option (Int32 × hp_H)) (x0 : Nat) (x1 : Int32) (x2 : Int32) (x3 : Int32) (x4 : Int32) (x5 : Int32) (x6 : Int32) (x7 : Int32) (x8 : Int32) (x9 : Int32) (h : hp_H) : Option (Int32 × hp_H) := if x7 ≤ x9 then (f_X11_next_189 k108 k123 x0 x1 x2 x3 x4 x5 x6 x7 x8 h) else (if x8 = 0 then (f_X11_next_189 k108 k123 x0 x1 x2 x3 x4 x5 x6 x7 x8 h) else ((rd_R h x0 11 47).bind fun v1 => (rd_A h 0 v1 ((8 * x7) + x5)).bind fun v2 => (rd_R h x0 11 47).bind fun v3 => (rd_A h 0 v3 ((8 * x9) + x5)).bind fun v4 => if v2 = v4 then (f_X11_next_181 k108 k123 k135 x0 x1 x2 x3 x4 x5 x6 x7 x9 0 h) else (f_X11_next_181 k108 k123 k135 x0 x1 x2 x3 x4 x5 x6 x7 x9 1 h)))
set_option maxRecDepth 20000 in
theorem w_X11_next_135 (X : wx G p s m args meth c cX11_next 10 RX11 (some .int)) (k108 : Nat → Int32 → Int32 → Int32 → Int32 → Int32 → hp_H → Option (Int32 × hp_H)) (hk108 : ∀ (x0 : Nat) (x1 : Int32) (x2 : Int32) (x3 : Int32) (x4 : Int32) (x5 : Int32) (h : hp_H), k108 x0 x1 x2 x3 x4 x5 h = some o → wq p l e (mt_R (7) 0 0) s m args below meth c (MQ below (mt_Q G (some (.int o.1)) o.2) args s 0 0 (hp_A G)) G 10 0 0 108 [(0, .ref x0), (1, .int x1), (2, .int x2), (3, .int x3), (4, .int x4), (5, .int x5)] [] h) (k123 : Nat → Int32 → Int32 → Int32 → Int32 → Int32 → Int32 → Int32 → hp_H → Option (Int32 × hp_H)) (hk123 : ∀ (x0 : Nat) (x1 : Int32) (x2 : Int32) (x3 : Int32) (x4 : Int32) (x5 : Int32) (x6 : Int32) (x7 : Int32) (h : hp_H), k123 x0 x1 x2 x3 x4 x5 x6 x7 h = some o → wq p l e (mt_R (7) 0 0) s m args below meth c (MQ below (mt_Q G (some (.int o.1)) o.2) args s 0 0 (hp_A G)) G 10 0 0 123 [(0, .ref x0), (1, .int x1), (2, .int x2), (3, .int x3), (4, .int x4), (5, .int x5), (6, .int x6), (7, .int x7)] [] h) (k135 : Nat → Int32 → Int32 → Int32 → Int32 → Int32 → Int32 → Int32 → Int32 → Int32 → hp_H → Option (Int32 × hp_H)) (hk135 : ∀ (x0 : Nat) (x1 : Int32) (x2 : Int32) (x3 : Int32) (x4 : Int32) (x5 : Int32) (x6 : Int32) (x7 : Int32) (x8 : Int32) (x9 : Int32) (h : hp_H), k135 x0 x1 x2 x3 x4 x5 x6 x7 x8 x9 h = some o → wq p l e (mt_R (7) 0 0) s m args below meth c (MQ below (mt_Q G (some (.int o.1)) o.2) args s 0 0 (hp_A G)) G 10 0 0 135 [(0, .ref x0), (1, .int x1), (2, .int x2), (3, .int x3), (4, .int x4), (5, .int x5), (6, .int x6), (7, .int x7), (8, .int x8), (9, .int x9)] [] h) (x0 : Nat) (x1 : Int32) (x2 : Int32) (x3 : Int32) (x4 : Int32) (x5 : Int32) (x6 : Int32) (x7 : Int32) (x8 : Int32) (x9 : Int32) (h : hp_H) (hf : f_X11_next_135 k108 k123 k135 x0 x1 x2 x3 x4 x5 x6 x7 x8 x9 h = some o) : wq p l e (mt_R (7) 0 0) s m args below meth c (MQ below (mt_Q G (some (.int o.1)) o.2) args s 0 0 (hp_A G)) G 10 0 0 135 [(0, .ref x0), (1, .int x1), (2, .int x2), (3, .int x3), (4, .int x4), (5, .int x5), (6, .int x6), (7, .int x7), (8, .int x8), (9, .int x9)] [] h := by
  unfold f_X11_next_135 at hf
  refine wk_iload X dX11_next_135 9 rfl ?_
  refine wk_iload X dX11_next_137 7 rfl ?_
  refine wk_icmp_ge X 189 dX11_next_139 (by decide) hf (fun hf => ?_) (fun hf => ?_)
  · exact wq_sub [0, 1, 2, 3, 4, 5, 6, 7, 8] rfl (w_X11_next_189 X k108 hk108 k123 hk123 _ _ _ _ _ _ _ _ _ _ hf)
  · refine wk_iload X dX11_next_142 8 rfl ?_
    refine wk_if_eq X 189 dX11_next_144 (by decide) hf (fun hf => ?_) (fun hf => ?_)
    · exact wq_sub [0, 1, 2, 3, 4, 5, 6, 7, 8] rfl (w_X11_next_189 X k108 hk108 k123 hk123 _ _ _ _ _ _ _ _ _ _ hf)
    · refine wk_aload_n X dX11_next_147 0 rfl ?_
      refine wk_getR X dX11_next_148 fo_X11_72 hf (fun v1 hf => ?_)
      refine wk_bipush X dX11_next_151 ib_8 ?_
      refine wk_iload X dX11_next_153 7 rfl ?_
      refine wk_imul X dX11_next_155 ?_
      refine wk_iload X dX11_next_156 5 rfl ?_
      refine wk_iadd X dX11_next_158 ?_
      refine wk_iald X dX11_next_159 hf (fun v2 hf => ?_)
      refine wk_aload_n X dX11_next_160 0 rfl ?_
      refine wk_getR X dX11_next_161 fo_X11_72 hf (fun v3 hf => ?_)
      refine wk_bipush X dX11_next_164 ib_8 ?_
      refine wk_iload X dX11_next_166 9 rfl ?_
      refine wk_imul X dX11_next_168 ?_
      refine wk_iload X dX11_next_169 5 rfl ?_
      refine wk_iadd X dX11_next_171 ?_
      refine wk_iald X dX11_next_172 hf (fun v4 hf => ?_)
      refine wk_icmp_eq X 180 dX11_next_173 (by decide) hf (fun hf => ?_) (fun hf => ?_)
      · refine wk_iconst X dX11_next_180 ic_0 ?_
        exact wq_sub [0, 1, 2, 3, 4, 5, 6, 7, 9] rfl (w_X11_next_181 X k108 hk108 k123 hk123 k135 hk135 _ _ _ _ _ _ _ _ _ _ _ hf)
      · refine wk_iconst X dX11_next_176 ic_1 ?_
        refine wk_goto X 181 dX11_next_177 (by decide) ?_
        exact wq_sub [0, 1, 2, 3, 4, 5, 6, 7, 9] rfl (w_X11_next_181 X k108 hk108 k123 hk123 k135 hk135 _ _ _ _ _ _ _ _ _ _ _ hf)
def l_X11_next_135 (k108 : Nat → Int32 → Int32 → Int32 → Int32 → Int32 → hp_H → Option (Int32 × hp_H)) (k123 : Nat → Int32 → Int32 → Int32 → Int32 → Int32 → Int32 → Int32 → hp_H → Option (Int32 × hp_H)) (x0 : Nat) (x1 : Int32) (x2 : Int32) (x3 : Int32) (x4 : Int32) (x5 : Int32) (x6 : Int32) (x7 : Int32) (x8 : Int32) (x9 : Int32) (h : hp_H) : Option (Int32 × hp_H) := lp (fun k (s : Nat × Int32 × Int32 × Int32 × Int32 × Int32 × Int32 × Int32 × Int32 × Int32 × hp_H) => f_X11_next_135 k108 k123 (fun a0 a1 a2 a3 a4 a5 a6 a7 a8 a9 a10 => k (a0, a1, a2, a3, a4, a5, a6, a7, a8, a9, a10)) s.1 s.2.1 s.2.2.1 s.2.2.2.1 s.2.2.2.2.1 s.2.2.2.2.2.1 s.2.2.2.2.2.2.1 s.2.2.2.2.2.2.2.1 s.2.2.2.2.2.2.2.2.1 s.2.2.2.2.2.2.2.2.2.1 s.2.2.2.2.2.2.2.2.2.2) 100000 (x0, x1, x2, x3, x4, x5, x6, x7, x8, x9, h)
theorem wl_X11_next_135 (X : wx G p s m args meth c cX11_next 10 RX11 (some .int)) (k108 : Nat → Int32 → Int32 → Int32 → Int32 → Int32 → hp_H → Option (Int32 × hp_H)) (hk108 : ∀ (x0 : Nat) (x1 : Int32) (x2 : Int32) (x3 : Int32) (x4 : Int32) (x5 : Int32) (h : hp_H), k108 x0 x1 x2 x3 x4 x5 h = some o → wq p l e (mt_R (7) 0 0) s m args below meth c (MQ below (mt_Q G (some (.int o.1)) o.2) args s 0 0 (hp_A G)) G 10 0 0 108 [(0, .ref x0), (1, .int x1), (2, .int x2), (3, .int x3), (4, .int x4), (5, .int x5)] [] h) (k123 : Nat → Int32 → Int32 → Int32 → Int32 → Int32 → Int32 → Int32 → hp_H → Option (Int32 × hp_H)) (hk123 : ∀ (x0 : Nat) (x1 : Int32) (x2 : Int32) (x3 : Int32) (x4 : Int32) (x5 : Int32) (x6 : Int32) (x7 : Int32) (h : hp_H), k123 x0 x1 x2 x3 x4 x5 x6 x7 h = some o → wq p l e (mt_R (7) 0 0) s m args below meth c (MQ below (mt_Q G (some (.int o.1)) o.2) args s 0 0 (hp_A G)) G 10 0 0 123 [(0, .ref x0), (1, .int x1), (2, .int x2), (3, .int x3), (4, .int x4), (5, .int x5), (6, .int x6), (7, .int x7)] [] h) (x0 : Nat) (x1 : Int32) (x2 : Int32) (x3 : Int32) (x4 : Int32) (x5 : Int32) (x6 : Int32) (x7 : Int32) (x8 : Int32) (x9 : Int32) (h : hp_H) (hf : l_X11_next_135 k108 k123 x0 x1 x2 x3 x4 x5 x6 x7 x8 x9 h = some o) : wq p l e (mt_R (7) 0 0) s m args below meth c (MQ below (mt_Q G (some (.int o.1)) o.2) args s 0 0 (hp_A G)) G 10 0 0 135 [(0, .ref x0), (1, .int x1), (2, .int x2), (3, .int x3), (4, .int x4), (5, .int x5), (6, .int x6), (7, .int x7), (8, .int x8), (9, .int x9)] [] h :=
  lp_ind (P := fun (s_ : Nat × Int32 × Int32 × Int32 × Int32 × Int32 × Int32 × Int32 × Int32 × Int32 × hp_H) => wq p l e (mt_R (7) 0 0) s m args below meth c (MQ below (mt_Q G (some (.int o.1)) o.2) args s 0 0 (hp_A G)) G 10 0 0 135 [(0, .ref s_.1), (1, .int s_.2.1), (2, .int s_.2.2.1), (3, .int s_.2.2.2.1), (4, .int s_.2.2.2.2.1), (5, .int s_.2.2.2.2.2.1), (6, .int s_.2.2.2.2.2.2.1), (7, .int s_.2.2.2.2.2.2.2.1), (8, .int s_.2.2.2.2.2.2.2.2.1), (9, .int s_.2.2.2.2.2.2.2.2.2.1)] [] s_.2.2.2.2.2.2.2.2.2.2) (fun k s hk hf => w_X11_next_135 X k108 hk108 k123 hk123 (fun a0 a1 a2 a3 a4 a5 a6 a7 a8 a9 a10 => k (a0, a1, a2, a3, a4, a5, a6, a7, a8, a9, a10)) (fun a0 a1 a2 a3 a4 a5 a6 a7 a8 a9 a10 hf => hk (a0, a1, a2, a3, a4, a5, a6, a7, a8, a9, a10) hf) s.1 s.2.1 s.2.2.1 s.2.2.2.1 s.2.2.2.2.1 s.2.2.2.2.2.1 s.2.2.2.2.2.2.1 s.2.2.2.2.2.2.2.1 s.2.2.2.2.2.2.2.2.1 s.2.2.2.2.2.2.2.2.2.1 s.2.2.2.2.2.2.2.2.2.2 hf) 100000 (x0, x1, x2, x3, x4, x5, x6, x7, x8, x9, h) hf
def f_X11_next_123 (k108 : Nat → Int32 → Int32 → Int32 → Int32 → Int32 → hp_H → Option (Int32 × hp_H)) (k123 : Nat → Int32 → Int32 → Int32 → Int32 → Int32 → Int32 → Int32 → hp_H → Option (Int32 × hp_H)) (x0 : Nat) (x1 : Int32) (x2 : Int32) (x3 : Int32) (x4 : Int32) (x5 : Int32) (x6 : Int32) (x7 : Int32) (h : hp_H) : Option (Int32 × hp_H) := if x2 ≤ x7 then (f_X11_next_210 k108 x0 x1 x2 x3 x4 x5 x6 h) else (l_X11_next_135 k108 k123 x0 x1 x2 x3 x4 x5 x6 x7 1 0 h)
set_option maxRecDepth 20000 in
theorem w_X11_next_123 (X : wx G p s m args meth c cX11_next 10 RX11 (some .int)) (k108 : Nat → Int32 → Int32 → Int32 → Int32 → Int32 → hp_H → Option (Int32 × hp_H)) (hk108 : ∀ (x0 : Nat) (x1 : Int32) (x2 : Int32) (x3 : Int32) (x4 : Int32) (x5 : Int32) (h : hp_H), k108 x0 x1 x2 x3 x4 x5 h = some o → wq p l e (mt_R (7) 0 0) s m args below meth c (MQ below (mt_Q G (some (.int o.1)) o.2) args s 0 0 (hp_A G)) G 10 0 0 108 [(0, .ref x0), (1, .int x1), (2, .int x2), (3, .int x3), (4, .int x4), (5, .int x5)] [] h) (k123 : Nat → Int32 → Int32 → Int32 → Int32 → Int32 → Int32 → Int32 → hp_H → Option (Int32 × hp_H)) (hk123 : ∀ (x0 : Nat) (x1 : Int32) (x2 : Int32) (x3 : Int32) (x4 : Int32) (x5 : Int32) (x6 : Int32) (x7 : Int32) (h : hp_H), k123 x0 x1 x2 x3 x4 x5 x6 x7 h = some o → wq p l e (mt_R (7) 0 0) s m args below meth c (MQ below (mt_Q G (some (.int o.1)) o.2) args s 0 0 (hp_A G)) G 10 0 0 123 [(0, .ref x0), (1, .int x1), (2, .int x2), (3, .int x3), (4, .int x4), (5, .int x5), (6, .int x6), (7, .int x7)] [] h) (x0 : Nat) (x1 : Int32) (x2 : Int32) (x3 : Int32) (x4 : Int32) (x5 : Int32) (x6 : Int32) (x7 : Int32) (h : hp_H) (hf : f_X11_next_123 k108 k123 x0 x1 x2 x3 x4 x5 x6 x7 h = some o) : wq p l e (mt_R (7) 0 0) s m args below meth c (MQ below (mt_Q G (some (.int o.1)) o.2) args s 0 0 (hp_A G)) G 10 0 0 123 [(0, .ref x0), (1, .int x1), (2, .int x2), (3, .int x3), (4, .int x4), (5, .int x5), (6, .int x6), (7, .int x7)] [] h := by
  unfold f_X11_next_123 at hf
  refine wk_iload X dX11_next_123 7 rfl ?_
  refine wk_iload_n X dX11_next_125 2 rfl ?_
  refine wk_icmp_ge X 210 dX11_next_126 (by decide) hf (fun hf => ?_) (fun hf => ?_)
  · exact wq_sub [0, 1, 2, 3, 4, 5, 6] rfl (w_X11_next_210 X k108 hk108 _ _ _ _ _ _ _ _ hf)
  · refine wk_iconst X dX11_next_129 ic_1 ?_
    refine wk_istore (lv' := [(8, .int 1), (0, .ref x0), (1, .int x1), (2, .int x2), (3, .int x3), (4, .int x4), (5, .int x5), (6, .int x6), (7, .int x7)]) X dX11_next_130 (by decide) rfl ?_
    refine wk_iconst X dX11_next_132 ic_0 ?_
    refine wk_istore (lv' := [(9, .int 0), (8, .int 1), (0, .ref x0), (1, .int x1), (2, .int x2), (3, .int x3), (4, .int x4), (5, .int x5), (6, .int x6), (7, .int x7)]) X dX11_next_133 (by decide) rfl ?_
    exact wq_sub [2, 3, 4, 5, 6, 7, 8, 9, 1, 0] rfl (wl_X11_next_135 X k108 hk108 k123 hk123 _ _ _ _ _ _ _ _ _ _ _ hf)
def l_X11_next_123 (k108 : Nat → Int32 → Int32 → Int32 → Int32 → Int32 → hp_H → Option (Int32 × hp_H)) (x0 : Nat) (x1 : Int32) (x2 : Int32) (x3 : Int32) (x4 : Int32) (x5 : Int32) (x6 : Int32) (x7 : Int32) (h : hp_H) : Option (Int32 × hp_H) := lp (fun k (s : Nat × Int32 × Int32 × Int32 × Int32 × Int32 × Int32 × Int32 × hp_H) => f_X11_next_123 k108 (fun a0 a1 a2 a3 a4 a5 a6 a7 a8 => k (a0, a1, a2, a3, a4, a5, a6, a7, a8)) s.1 s.2.1 s.2.2.1 s.2.2.2.1 s.2.2.2.2.1 s.2.2.2.2.2.1 s.2.2.2.2.2.2.1 s.2.2.2.2.2.2.2.1 s.2.2.2.2.2.2.2.2) 100000 (x0, x1, x2, x3, x4, x5, x6, x7, h)
theorem wl_X11_next_123 (X : wx G p s m args meth c cX11_next 10 RX11 (some .int)) (k108 : Nat → Int32 → Int32 → Int32 → Int32 → Int32 → hp_H → Option (Int32 × hp_H)) (hk108 : ∀ (x0 : Nat) (x1 : Int32) (x2 : Int32) (x3 : Int32) (x4 : Int32) (x5 : Int32) (h : hp_H), k108 x0 x1 x2 x3 x4 x5 h = some o → wq p l e (mt_R (7) 0 0) s m args below meth c (MQ below (mt_Q G (some (.int o.1)) o.2) args s 0 0 (hp_A G)) G 10 0 0 108 [(0, .ref x0), (1, .int x1), (2, .int x2), (3, .int x3), (4, .int x4), (5, .int x5)] [] h) (x0 : Nat) (x1 : Int32) (x2 : Int32) (x3 : Int32) (x4 : Int32) (x5 : Int32) (x6 : Int32) (x7 : Int32) (h : hp_H) (hf : l_X11_next_123 k108 x0 x1 x2 x3 x4 x5 x6 x7 h = some o) : wq p l e (mt_R (7) 0 0) s m args below meth c (MQ below (mt_Q G (some (.int o.1)) o.2) args s 0 0 (hp_A G)) G 10 0 0 123 [(0, .ref x0), (1, .int x1), (2, .int x2), (3, .int x3), (4, .int x4), (5, .int x5), (6, .int x6), (7, .int x7)] [] h :=
  lp_ind (P := fun (s_ : Nat × Int32 × Int32 × Int32 × Int32 × Int32 × Int32 × Int32 × hp_H) => wq p l e (mt_R (7) 0 0) s m args below meth c (MQ below (mt_Q G (some (.int o.1)) o.2) args s 0 0 (hp_A G)) G 10 0 0 123 [(0, .ref s_.1), (1, .int s_.2.1), (2, .int s_.2.2.1), (3, .int s_.2.2.2.1), (4, .int s_.2.2.2.2.1), (5, .int s_.2.2.2.2.2.1), (6, .int s_.2.2.2.2.2.2.1), (7, .int s_.2.2.2.2.2.2.2.1)] [] s_.2.2.2.2.2.2.2.2) (fun k s hk hf => w_X11_next_123 X k108 hk108 (fun a0 a1 a2 a3 a4 a5 a6 a7 a8 => k (a0, a1, a2, a3, a4, a5, a6, a7, a8)) (fun a0 a1 a2 a3 a4 a5 a6 a7 a8 hf => hk (a0, a1, a2, a3, a4, a5, a6, a7, a8) hf) s.1 s.2.1 s.2.2.1 s.2.2.2.1 s.2.2.2.2.1 s.2.2.2.2.2.1 s.2.2.2.2.2.2.1 s.2.2.2.2.2.2.2.1 s.2.2.2.2.2.2.2.2 hf) 100000 (x0, x1, x2, x3, x4, x5, x6, x7, h) hf
def f_X11_next_108 (k108 : Nat → Int32 → Int32 → Int32 → Int32 → Int32 → hp_H → Option (Int32 × hp_H)) (x0 : Nat) (x1 : Int32) (x2 : Int32) (x3 : Int32) (x4 : Int32) (x5 : Int32) (h : hp_H) : Option (Int32 × hp_H) := (rd_I h x0 11 3).bind fun v1 => if v1 ≤ x5 then (f_X11_next_233 x1 x3 x4 h) else (l_X11_next_123 k108 x0 x1 x2 x3 x4 x5 0 0 h)
set_option maxRecDepth 20000 in
theorem w_X11_next_108 (X : wx G p s m args meth c cX11_next 10 RX11 (some .int)) (k108 : Nat → Int32 → Int32 → Int32 → Int32 → Int32 → hp_H → Option (Int32 × hp_H)) (hk108 : ∀ (x0 : Nat) (x1 : Int32) (x2 : Int32) (x3 : Int32) (x4 : Int32) (x5 : Int32) (h : hp_H), k108 x0 x1 x2 x3 x4 x5 h = some o → wq p l e (mt_R (7) 0 0) s m args below meth c (MQ below (mt_Q G (some (.int o.1)) o.2) args s 0 0 (hp_A G)) G 10 0 0 108 [(0, .ref x0), (1, .int x1), (2, .int x2), (3, .int x3), (4, .int x4), (5, .int x5)] [] h) (x0 : Nat) (x1 : Int32) (x2 : Int32) (x3 : Int32) (x4 : Int32) (x5 : Int32) (h : hp_H) (hf : f_X11_next_108 k108 x0 x1 x2 x3 x4 x5 h = some o) : wq p l e (mt_R (7) 0 0) s m args below meth c (MQ below (mt_Q G (some (.int o.1)) o.2) args s 0 0 (hp_A G)) G 10 0 0 108 [(0, .ref x0), (1, .int x1), (2, .int x2), (3, .int x3), (4, .int x4), (5, .int x5)] [] h := by
  unfold f_X11_next_108 at hf
  refine wk_iload X dX11_next_108 5 rfl ?_
  refine wk_aload_n X dX11_next_110 0 rfl ?_
  refine wk_getI X dX11_next_111 fo_X11_254 hf (fun v1 hf => ?_)
  refine wk_icmp_ge X 233 dX11_next_114 (by decide) hf (fun hf => ?_) (fun hf => ?_)
  · exact wq_sub [1, 3, 4] rfl (w_X11_next_233 X _ _ _ _ hf)
  · refine wk_iconst X dX11_next_117 ic_0 ?_
    refine wk_istore (lv' := [(6, .int 0), (0, .ref x0), (1, .int x1), (2, .int x2), (3, .int x3), (4, .int x4), (5, .int x5)]) X dX11_next_118 (by decide) rfl ?_
    refine wk_iconst X dX11_next_120 ic_0 ?_
    refine wk_istore (lv' := [(7, .int 0), (6, .int 0), (0, .ref x0), (1, .int x1), (2, .int x2), (3, .int x3), (4, .int x4), (5, .int x5)]) X dX11_next_121 (by decide) rfl ?_
    exact wq_sub [2, 3, 4, 5, 6, 7, 1, 0] rfl (wl_X11_next_123 X k108 hk108 _ _ _ _ _ _ _ _ _ hf)
def l_X11_next_108 (x0 : Nat) (x1 : Int32) (x2 : Int32) (x3 : Int32) (x4 : Int32) (x5 : Int32) (h : hp_H) : Option (Int32 × hp_H) := lp (fun k (s : Nat × Int32 × Int32 × Int32 × Int32 × Int32 × hp_H) => f_X11_next_108  (fun a0 a1 a2 a3 a4 a5 a6 => k (a0, a1, a2, a3, a4, a5, a6)) s.1 s.2.1 s.2.2.1 s.2.2.2.1 s.2.2.2.2.1 s.2.2.2.2.2.1 s.2.2.2.2.2.2) 100000 (x0, x1, x2, x3, x4, x5, h)
theorem wl_X11_next_108 (X : wx G p s m args meth c cX11_next 10 RX11 (some .int)) (x0 : Nat) (x1 : Int32) (x2 : Int32) (x3 : Int32) (x4 : Int32) (x5 : Int32) (h : hp_H) (hf : l_X11_next_108 x0 x1 x2 x3 x4 x5 h = some o) : wq p l e (mt_R (7) 0 0) s m args below meth c (MQ below (mt_Q G (some (.int o.1)) o.2) args s 0 0 (hp_A G)) G 10 0 0 108 [(0, .ref x0), (1, .int x1), (2, .int x2), (3, .int x3), (4, .int x4), (5, .int x5)] [] h :=
  lp_ind (P := fun (s_ : Nat × Int32 × Int32 × Int32 × Int32 × Int32 × hp_H) => wq p l e (mt_R (7) 0 0) s m args below meth c (MQ below (mt_Q G (some (.int o.1)) o.2) args s 0 0 (hp_A G)) G 10 0 0 108 [(0, .ref s_.1), (1, .int s_.2.1), (2, .int s_.2.2.1), (3, .int s_.2.2.2.1), (4, .int s_.2.2.2.2.1), (5, .int s_.2.2.2.2.2.1)] [] s_.2.2.2.2.2.2) (fun k s hk hf => w_X11_next_108 X  (fun a0 a1 a2 a3 a4 a5 a6 => k (a0, a1, a2, a3, a4, a5, a6)) (fun a0 a1 a2 a3 a4 a5 a6 hf => hk (a0, a1, a2, a3, a4, a5, a6) hf) s.1 s.2.1 s.2.2.1 s.2.2.2.1 s.2.2.2.2.1 s.2.2.2.2.2.1 s.2.2.2.2.2.2 hf) 100000 (x0, x1, x2, x3, x4, x5, h) hf
def f_X11_next_100 (x0 : Nat) (x1 : Int32) (x2 : Int32) (h : hp_H) : Option (Int32 × hp_H) := l_X11_next_108 x0 x1 x2 (-1) 0 0 h
set_option maxRecDepth 20000 in
theorem w_X11_next_100 (X : wx G p s m args meth c cX11_next 10 RX11 (some .int)) (x0 : Nat) (x1 : Int32) (x2 : Int32) (h : hp_H) (hf : f_X11_next_100 x0 x1 x2 h = some o) : wq p l e (mt_R (7) 0 0) s m args below meth c (MQ below (mt_Q G (some (.int o.1)) o.2) args s 0 0 (hp_A G)) G 10 0 0 100 [(0, .ref x0), (1, .int x1), (2, .int x2)] [] h := by
  unfold f_X11_next_100 at hf
  refine wk_iconst X dX11_next_100 ic_m1 ?_
  refine wk_istore_n (lv' := [(3, .int (-1)), (0, .ref x0), (1, .int x1), (2, .int x2)]) X dX11_next_101 (by decide) rfl ?_
  refine wk_iconst X dX11_next_102 ic_0 ?_
  refine wk_istore (lv' := [(4, .int 0), (3, .int (-1)), (0, .ref x0), (1, .int x1), (2, .int x2)]) X dX11_next_103 (by decide) rfl ?_
  refine wk_iconst X dX11_next_105 ic_0 ?_
  refine wk_istore (lv' := [(5, .int 0), (4, .int 0), (3, .int (-1)), (0, .ref x0), (1, .int x1), (2, .int x2)]) X dX11_next_106 (by decide) rfl ?_
  exact wq_sub [3, 4, 5, 2, 1, 0] rfl (wl_X11_next_108 X _ _ _ _ _ _ _ hf)
def f_X11_next_94 (k20 : Nat → Int32 → Int32 → Int32 → hp_H → Option (Int32 × hp_H)) (x0 : Nat) (x1 : Int32) (x2 : Int32) (x3 : Int32) (h : hp_H) : Option (Int32 × hp_H) := k20 x0 x1 x2 (x3 + 1) h
set_option maxRecDepth 20000 in
theorem w_X11_next_94 (X : wx G p s m args meth c cX11_next 10 RX11 (some .int)) (k20 : Nat → Int32 → Int32 → Int32 → hp_H → Option (Int32 × hp_H)) (hk20 : ∀ (x0 : Nat) (x1 : Int32) (x2 : Int32) (x3 : Int32) (h : hp_H), k20 x0 x1 x2 x3 h = some o → wq p l e (mt_R (7) 0 0) s m args below meth c (MQ below (mt_Q G (some (.int o.1)) o.2) args s 0 0 (hp_A G)) G 10 0 0 20 [(0, .ref x0), (1, .int x1), (2, .int x2), (3, .int x3)] [] h) (x0 : Nat) (x1 : Int32) (x2 : Int32) (x3 : Int32) (h : hp_H) (hf : f_X11_next_94 k20 x0 x1 x2 x3 h = some o) : wq p l e (mt_R (7) 0 0) s m args below meth c (MQ below (mt_Q G (some (.int o.1)) o.2) args s 0 0 (hp_A G)) G 10 0 0 94 [(0, .ref x0), (1, .int x1), (2, .int x2), (3, .int x3)] [] h := by
  unfold f_X11_next_94 at hf
  refine wk_iinc (lv' := [(3, .int (x3 + 1)), (0, .ref x0), (1, .int x1), (2, .int x2)]) X dX11_next_94 3 rfl ic_1 (by decide) rfl ?_
  refine wk_goto X 20 dX11_next_97 (by decide) ?_
  exact wq_sub [1, 2, 3, 0] rfl (hk20 _ _ _ _ _ hf)
def f_X11_next_91 (k20 : Nat → Int32 → Int32 → Int32 → hp_H → Option (Int32 × hp_H)) (x0 : Nat) (x1 : Int32) (x2 : Int32) (x3 : Int32) (h : hp_H) : Option (Int32 × hp_H) := f_X11_next_94 k20 x0 x1 (x2 + 1) x3 h
set_option maxRecDepth 20000 in
theorem w_X11_next_91 (X : wx G p s m args meth c cX11_next 10 RX11 (some .int)) (k20 : Nat → Int32 → Int32 → Int32 → hp_H → Option (Int32 × hp_H)) (hk20 : ∀ (x0 : Nat) (x1 : Int32) (x2 : Int32) (x3 : Int32) (h : hp_H), k20 x0 x1 x2 x3 h = some o → wq p l e (mt_R (7) 0 0) s m args below meth c (MQ below (mt_Q G (some (.int o.1)) o.2) args s 0 0 (hp_A G)) G 10 0 0 20 [(0, .ref x0), (1, .int x1), (2, .int x2), (3, .int x3)] [] h) (x0 : Nat) (x1 : Int32) (x2 : Int32) (x3 : Int32) (h : hp_H) (hf : f_X11_next_91 k20 x0 x1 x2 x3 h = some o) : wq p l e (mt_R (7) 0 0) s m args below meth c (MQ below (mt_Q G (some (.int o.1)) o.2) args s 0 0 (hp_A G)) G 10 0 0 91 [(0, .ref x0), (1, .int x1), (2, .int x2), (3, .int x3)] [] h := by
  unfold f_X11_next_91 at hf
  refine wk_iinc (lv' := [(2, .int (x2 + 1)), (0, .ref x0), (1, .int x1), (3, .int x3)]) X dX11_next_91 2 rfl ic_1 (by decide) rfl ?_
  exact wq_sub [1, 2, 0, 3] rfl (w_X11_next_94 X k20 hk20 _ _ _ _ _ hf)
def f_X11_next_56 (k20 : Nat → Int32 → Int32 → Int32 → hp_H → Option (Int32 × hp_H)) (k56 : Nat → Int32 → Int32 → Int32 → Int32 → hp_H → Option (Int32 × hp_H)) (x0 : Nat) (x1 : Int32) (x2 : Int32) (x3 : Int32) (x4 : Int32) (h : hp_H) : Option (Int32 × hp_H) := (rd_I h x0 11 3).bind fun v1 => if v1 ≤ x4 then (f_X11_next_91 k20 x0 x1 x2 x3 h) else ((rd_R h x0 11 47).bind fun v2 => (f_X11_heardOf x0 33 x4 h).bind fun r3 => (wr_A r3.2 v2 ((8 * x2) + x4) r3.1).bind fun h4 => k56 x0 x1 x2 x3 (x4 + 1) h4)
set_option maxRecDepth 20000 in
theorem w_X11_next_56 (X : wx G p s m args meth c cX11_next 10 RX11 (some .int)) (k20 : Nat → Int32 → Int32 → Int32 → hp_H → Option (Int32 × hp_H)) (hk20 : ∀ (x0 : Nat) (x1 : Int32) (x2 : Int32) (x3 : Int32) (h : hp_H), k20 x0 x1 x2 x3 h = some o → wq p l e (mt_R (7) 0 0) s m args below meth c (MQ below (mt_Q G (some (.int o.1)) o.2) args s 0 0 (hp_A G)) G 10 0 0 20 [(0, .ref x0), (1, .int x1), (2, .int x2), (3, .int x3)] [] h) (k56 : Nat → Int32 → Int32 → Int32 → Int32 → hp_H → Option (Int32 × hp_H)) (hk56 : ∀ (x0 : Nat) (x1 : Int32) (x2 : Int32) (x3 : Int32) (x4 : Int32) (h : hp_H), k56 x0 x1 x2 x3 x4 h = some o → wq p l e (mt_R (7) 0 0) s m args below meth c (MQ below (mt_Q G (some (.int o.1)) o.2) args s 0 0 (hp_A G)) G 10 0 0 56 [(0, .ref x0), (1, .int x1), (2, .int x2), (3, .int x3), (4, .int x4)] [] h) (x0 : Nat) (x1 : Int32) (x2 : Int32) (x3 : Int32) (x4 : Int32) (h : hp_H) (hf : f_X11_next_56 k20 k56 x0 x1 x2 x3 x4 h = some o) : wq p l e (mt_R (7) 0 0) s m args below meth c (MQ below (mt_Q G (some (.int o.1)) o.2) args s 0 0 (hp_A G)) G 10 0 0 56 [(0, .ref x0), (1, .int x1), (2, .int x2), (3, .int x3), (4, .int x4)] [] h := by
  unfold f_X11_next_56 at hf
  refine wk_iload X dX11_next_56 4 rfl ?_
  refine wk_aload_n X dX11_next_58 0 rfl ?_
  refine wk_getI X dX11_next_59 fo_X11_254 hf (fun v1 hf => ?_)
  refine wk_icmp_ge X 91 dX11_next_62 (by decide) hf (fun hf => ?_) (fun hf => ?_)
  · exact wq_sub [0, 1, 2, 3] rfl (w_X11_next_91 X k20 hk20 _ _ _ _ _ hf)
  · refine wk_aload_n X dX11_next_65 0 rfl ?_
    refine wk_getR X dX11_next_66 fo_X11_72 hf (fun v2 hf => ?_)
    refine wk_bipush X dX11_next_69 ib_8 ?_
    refine wk_iload_n X dX11_next_71 2 rfl ?_
    refine wk_imul X dX11_next_72 ?_
    refine wk_iload X dX11_next_73 4 rfl ?_
    refine wk_iadd X dX11_next_75 ?_
    refine wk_aload_n X dX11_next_76 0 rfl ?_
    refine wk_bipush X dX11_next_77 ib_33 ?_
    refine wk_iload X dX11_next_79 4 rfl ?_
    refine wk_callVi X [.int 33, .int x4] [.int ((8 * x2) + x4), .ref v2] dX11_next_81 rfl vo_X11_290 rfl (by decide) (Nat.le_of_ble_eq_true rfl) hf (c_X11_heardOf l _ _ _ _) (fun r3 hf => ?_)
    refine wk_iast X dX11_next_84 hf (fun h4 hf => ?_)
    refine wk_iinc (lv' := [(4, .int (x4 + 1)), (0, .ref x0), (1, .int x1), (2, .int x2), (3, .int x3)]) X dX11_next_85 4 rfl ic_1 (by decide) rfl ?_
    refine wk_goto X 56 dX11_next_88 (by decide) ?_
    exact wq_sub [1, 2, 3, 4, 0] rfl (hk56 _ _ _ _ _ _ hf)
def l_X11_next_56 (k20 : Nat → Int32 → Int32 → Int32 → hp_H → Option (Int32 × hp_H)) (x0 : Nat) (x1 : Int32) (x2 : Int32) (x3 : Int32) (x4 : Int32) (h : hp_H) : Option (Int32 × hp_H) := lp (fun k (s : Nat × Int32 × Int32 × Int32 × Int32 × hp_H) => f_X11_next_56 k20 (fun a0 a1 a2 a3 a4 a5 => k (a0, a1, a2, a3, a4, a5)) s.1 s.2.1 s.2.2.1 s.2.2.2.1 s.2.2.2.2.1 s.2.2.2.2.2) 100000 (x0, x1, x2, x3, x4, h)
theorem wl_X11_next_56 (X : wx G p s m args meth c cX11_next 10 RX11 (some .int)) (k20 : Nat → Int32 → Int32 → Int32 → hp_H → Option (Int32 × hp_H)) (hk20 : ∀ (x0 : Nat) (x1 : Int32) (x2 : Int32) (x3 : Int32) (h : hp_H), k20 x0 x1 x2 x3 h = some o → wq p l e (mt_R (7) 0 0) s m args below meth c (MQ below (mt_Q G (some (.int o.1)) o.2) args s 0 0 (hp_A G)) G 10 0 0 20 [(0, .ref x0), (1, .int x1), (2, .int x2), (3, .int x3)] [] h) (x0 : Nat) (x1 : Int32) (x2 : Int32) (x3 : Int32) (x4 : Int32) (h : hp_H) (hf : l_X11_next_56 k20 x0 x1 x2 x3 x4 h = some o) : wq p l e (mt_R (7) 0 0) s m args below meth c (MQ below (mt_Q G (some (.int o.1)) o.2) args s 0 0 (hp_A G)) G 10 0 0 56 [(0, .ref x0), (1, .int x1), (2, .int x2), (3, .int x3), (4, .int x4)] [] h :=
  lp_ind (P := fun (s_ : Nat × Int32 × Int32 × Int32 × Int32 × hp_H) => wq p l e (mt_R (7) 0 0) s m args below meth c (MQ below (mt_Q G (some (.int o.1)) o.2) args s 0 0 (hp_A G)) G 10 0 0 56 [(0, .ref s_.1), (1, .int s_.2.1), (2, .int s_.2.2.1), (3, .int s_.2.2.2.1), (4, .int s_.2.2.2.2.1)] [] s_.2.2.2.2.2) (fun k s hk hf => w_X11_next_56 X k20 hk20 (fun a0 a1 a2 a3 a4 a5 => k (a0, a1, a2, a3, a4, a5)) (fun a0 a1 a2 a3 a4 a5 hf => hk (a0, a1, a2, a3, a4, a5) hf) s.1 s.2.1 s.2.2.1 s.2.2.2.1 s.2.2.2.2.1 s.2.2.2.2.2 hf) 100000 (x0, x1, x2, x3, x4, h) hf
def f_X11_next_20 (k20 : Nat → Int32 → Int32 → Int32 → hp_H → Option (Int32 × hp_H)) (x0 : Nat) (x1 : Int32) (x2 : Int32) (x3 : Int32) (h : hp_H) : Option (Int32 × hp_H) := (rd_I h x0 11 1).bind fun v1 => (rd_I h x0 11 2).bind fun v2 => if (v1 * v2) ≤ x3 then (f_X11_next_100 x0 x1 x2 h) else ((f_X11_triesHeel x0 x3 h).bind fun r3 => (f_X11_isSeen x0 r3).bind fun r4 => if r4.1 = 0 then (f_X11_next_94 k20 x0 x1 x2 x3 r4.2) else ((f_X11_triesHeel x0 x3 r4.2).bind fun r5 => l_X11_next_56 k20 x0 x1 x2 x3 0 r5))
set_option maxRecDepth 20000 in
theorem w_X11_next_20 (X : wx G p s m args meth c cX11_next 10 RX11 (some .int)) (k20 : Nat → Int32 → Int32 → Int32 → hp_H → Option (Int32 × hp_H)) (hk20 : ∀ (x0 : Nat) (x1 : Int32) (x2 : Int32) (x3 : Int32) (h : hp_H), k20 x0 x1 x2 x3 h = some o → wq p l e (mt_R (7) 0 0) s m args below meth c (MQ below (mt_Q G (some (.int o.1)) o.2) args s 0 0 (hp_A G)) G 10 0 0 20 [(0, .ref x0), (1, .int x1), (2, .int x2), (3, .int x3)] [] h) (x0 : Nat) (x1 : Int32) (x2 : Int32) (x3 : Int32) (h : hp_H) (hf : f_X11_next_20 k20 x0 x1 x2 x3 h = some o) : wq p l e (mt_R (7) 0 0) s m args below meth c (MQ below (mt_Q G (some (.int o.1)) o.2) args s 0 0 (hp_A G)) G 10 0 0 20 [(0, .ref x0), (1, .int x1), (2, .int x2), (3, .int x3)] [] h := by
  unfold f_X11_next_20 at hf
  refine wk_iload_n X dX11_next_20 3 rfl ?_
  refine wk_aload_n X dX11_next_21 0 rfl ?_
  refine wk_getI X dX11_next_22 fo_X11_7 hf (fun v1 hf => ?_)
  refine wk_aload_n X dX11_next_25 0 rfl ?_
  refine wk_getI X dX11_next_26 fo_X11_251 hf (fun v2 hf => ?_)
  refine wk_imul X dX11_next_29 ?_
  refine wk_icmp_ge X 100 dX11_next_30 (by decide) hf (fun hf => ?_) (fun hf => ?_)
  · exact wq_sub [0, 1, 2] rfl (w_X11_next_100 X _ _ _ _ hf)
  · refine wk_aload_n X dX11_next_33 0 rfl ?_
    refine wk_iload_n X dX11_next_34 3 rfl ?_
    refine wk_callVv X [.int x3] [] dX11_next_35 rfl vo_X11_378 rfl (by decide) (Nat.le_of_ble_eq_true rfl) hf (c_X11_triesHeel l _ _ _) (fun r3 hf => ?_)
    refine wk_aload_n X dX11_next_38 0 rfl ?_
    refine wk_callVi X [] [] dX11_next_39 rfl vo_X11_375 rfl (by decide) (Nat.le_of_ble_eq_true rfl) hf (c_X11_isSeen l _ _) (fun r4 hf => ?_)
    refine wk_if_ne X 48 dX11_next_42 (by decide) hf (fun hf => ?_) (fun hf => ?_)
    · refine wk_aload_n X dX11_next_48 0 rfl ?_
      refine wk_iload_n X dX11_next_49 3 rfl ?_
      refine wk_callVv X [.int x3] [] dX11_next_50 rfl vo_X11_378 rfl (by decide) (Nat.le_of_ble_eq_true rfl) hf (c_X11_triesHeel l _ _ _) (fun r5 hf => ?_)
      refine wk_iconst X dX11_next_53 ic_0 ?_
      refine wk_istore (lv' := [(4, .int 0), (0, .ref x0), (1, .int x1), (2, .int x2), (3, .int x3)]) X dX11_next_54 (by decide) rfl ?_
      exact wq_sub [1, 2, 3, 4, 0] rfl (wl_X11_next_56 X k20 hk20 _ _ _ _ _ _ hf)
    · refine wk_goto X 94 dX11_next_45 (by decide) ?_
      exact wq_sub [0, 1, 2, 3] rfl (w_X11_next_94 X k20 hk20 _ _ _ _ _ hf)
def l_X11_next_20 (x0 : Nat) (x1 : Int32) (x2 : Int32) (x3 : Int32) (h : hp_H) : Option (Int32 × hp_H) := lp (fun k (s : Nat × Int32 × Int32 × Int32 × hp_H) => f_X11_next_20  (fun a0 a1 a2 a3 a4 => k (a0, a1, a2, a3, a4)) s.1 s.2.1 s.2.2.1 s.2.2.2.1 s.2.2.2.2) 100000 (x0, x1, x2, x3, h)
theorem wl_X11_next_20 (X : wx G p s m args meth c cX11_next 10 RX11 (some .int)) (x0 : Nat) (x1 : Int32) (x2 : Int32) (x3 : Int32) (h : hp_H) (hf : l_X11_next_20 x0 x1 x2 x3 h = some o) : wq p l e (mt_R (7) 0 0) s m args below meth c (MQ below (mt_Q G (some (.int o.1)) o.2) args s 0 0 (hp_A G)) G 10 0 0 20 [(0, .ref x0), (1, .int x1), (2, .int x2), (3, .int x3)] [] h :=
  lp_ind (P := fun (s_ : Nat × Int32 × Int32 × Int32 × hp_H) => wq p l e (mt_R (7) 0 0) s m args below meth c (MQ below (mt_Q G (some (.int o.1)) o.2) args s 0 0 (hp_A G)) G 10 0 0 20 [(0, .ref s_.1), (1, .int s_.2.1), (2, .int s_.2.2.1), (3, .int s_.2.2.2.1)] [] s_.2.2.2.2) (fun k s hk hf => w_X11_next_20 X  (fun a0 a1 a2 a3 a4 => k (a0, a1, a2, a3, a4)) (fun a0 a1 a2 a3 a4 hf => hk (a0, a1, a2, a3, a4) hf) s.1 s.2.1 s.2.2.1 s.2.2.2.1 s.2.2.2.2 hf) 100000 (x0, x1, x2, x3, h) hf
end Sf_X11_next
def f_X11_next (x0 : Nat) (x1 : Int32) (h : hp_H) : Option (Int32 × hp_H) := gd h x0 11 ((wr_I h x0 11 0 0).bind fun h1 => (f_X11_isWhat x0 x1 1 h1).bind fun r2 => if r2.1 = 0 then (some (0, r2.2)) else (l_X11_next_20 x0 x1 0 0 r2.2))
set_option maxRecDepth 20000 in
theorem c_X11_next (l : Launch) (x0 : Nat) (x1 : Int32) (h : hp_H) (r : Int32 × hp_H) (hf : f_X11_next x0 x1 h = some r) : cv l (7) yX11_next cX11_next 10 (some .int) 11 x0 [.int x1] h (some (.int r.1)) r.2 := by
  unfold f_X11_next at hf
  refine cv_of (lv := [(0, .ref x0), (1, .int x1)]) hf (by decide +kernel) (Nat.le_of_ble_eq_true rfl) rfl (fun hf p e s m args below meth c G X => ?_)
  refine wk_aload_n X dX11_next_0 0 rfl ?_
  refine wk_iconst X dX11_next_1 ic_0 ?_
  refine wk_putI X dX11_next_2 fo_X11_84 hf (fun h1 hf => ?_)
  refine wk_aload_n X dX11_next_5 0 rfl ?_
  refine wk_iload_n X dX11_next_6 1 rfl ?_
  refine wk_iconst X dX11_next_7 ic_1 ?_
  refine wk_callVi X [.int x1, .int 1] [] dX11_next_8 rfl vo_X11_330 rfl (by decide) (Nat.le_of_ble_eq_true rfl) hf (c_X11_isWhat l _ _ _ _) (fun r2 hf => ?_)
  refine wk_if_ne X 16 dX11_next_11 (by decide) hf (fun hf => ?_) (fun hf => ?_)
  · refine wk_iconst X dX11_next_16 ic_0 ?_
    refine wk_istore_n (lv' := [(2, .int 0), (0, .ref x0), (1, .int x1)]) X dX11_next_17 (by decide) rfl ?_
    refine wk_iconst X dX11_next_18 ic_0 ?_
    refine wk_istore_n (lv' := [(3, .int 0), (2, .int 0), (0, .ref x0), (1, .int x1)]) X dX11_next_19 (by decide) rfl ?_
    exact wq_sub [2, 3, 1, 0] rfl (wl_X11_next_20 X _ _ _ _ _ hf)
  · refine wk_iconst X dX11_next_14 ic_0 ?_
    exact wk_ireturn X dX11_next_15 hf
section Sf_X11_byMud
variable {p : Program} {l : Launch} {e : Env} {s : State} {m : MethodId} {args : Array Value} {below : List Frame} {meth : Method} {c : Code} {G : hp_G} {o : Int32 × hp_H}
def f_X11_byMud_45  (h : hp_H) : Option (Int32 × hp_H) := some (0, h)
set_option maxRecDepth 20000 in
theorem w_X11_byMud_45 (X : wx G p s m args meth c cX11_byMud 10 RX11 (some .int))  (h : hp_H) (hf : f_X11_byMud_45 h = some o) : wq p l e (mt_R (6) 0 0) s m args below meth c (MQ below (mt_Q G (some (.int o.1)) o.2) args s 0 0 (hp_A G)) G 10 0 0 45 [] [] h := by
  unfold f_X11_byMud_45 at hf
  refine wk_iconst X dX11_byMud_45 ic_0 ?_
  exact wk_ireturn X dX11_byMud_46 hf
def f_X11_byMud_170 (x0 : Nat) (x4 : Int32) (h : hp_H) : Option (Int32 × hp_H) := (wr_I h x0 11 41 (-1)).bind fun h1 => some (x4, h1)
set_option maxRecDepth 20000 in
theorem w_X11_byMud_170 (X : wx G p s m args meth c cX11_byMud 10 RX11 (some .int)) (x0 : Nat) (x4 : Int32) (h : hp_H) (hf : f_X11_byMud_170 x0 x4 h = some o) : wq p l e (mt_R (6) 0 0) s m args below meth c (MQ below (mt_Q G (some (.int o.1)) o.2) args s 0 0 (hp_A G)) G 10 0 0 170 [(0, .ref x0), (4, .int x4)] [] h := by
  unfold f_X11_byMud_170 at hf
  refine wk_aload_n X dX11_byMud_170 0 rfl ?_
  refine wk_iconst X dX11_byMud_171 ic_m1 ?_
  refine wk_putI X dX11_byMud_172 fo_X11_63 hf (fun h1 hf => ?_)
  refine wk_iload X dX11_byMud_175 1 rfl ?_
  exact wk_ireturn X dX11_byMud_177 hf
def f_X11_byMud_154 (k53 : Nat → Int32 → Int32 → Int32 → Int32 → Int32 → hp_H → Option (Int32 × hp_H)) (x0 : Nat) (x1 : Int32) (x2 : Int32) (x3 : Int32) (x4 : Int32) (x5 : Int32) (x6 : Int32) (x7 : Int32) (h : hp_H) : Option (Int32 × hp_H) := k53 x0 x1 x2 x3 (x4 + (x6 * x7)) (x5 + 1) h
set_option maxRecDepth 20000 in
theorem w_X11_byMud_154 (X : wx G p s m args meth c cX11_byMud 10 RX11 (some .int)) (k53 : Nat → Int32 → Int32 → Int32 → Int32 → Int32 → hp_H → Option (Int32 × hp_H)) (hk53 : ∀ (x0 : Nat) (x1 : Int32) (x2 : Int32) (x3 : Int32) (x4 : Int32) (x5 : Int32) (h : hp_H), k53 x0 x1 x2 x3 x4 x5 h = some o → wq p l e (mt_R (6) 0 0) s m args below meth c (MQ below (mt_Q G (some (.int o.1)) o.2) args s 0 0 (hp_A G)) G 10 0 0 53 [(0, .ref x0), (1, .int x1), (2, .int x2), (3, .int x3), (4, .int x4), (5, .int x5)] [] h) (x0 : Nat) (x1 : Int32) (x2 : Int32) (x3 : Int32) (x4 : Int32) (x5 : Int32) (x6 : Int32) (x7 : Int32) (h : hp_H) (hf : f_X11_byMud_154 k53 x0 x1 x2 x3 x4 x5 x6 x7 h = some o) : wq p l e (mt_R (6) 0 0) s m args below meth c (MQ below (mt_Q G (some (.int o.1)) o.2) args s 0 0 (hp_A G)) G 10 0 0 154 [(0, .ref x0), (1, .int x1), (2, .int x2), (3, .int x3), (4, .int x4), (5, .int x5), (6, .int x6), (7, .int x7)] [] h := by
  unfold f_X11_byMud_154 at hf
  refine wk_iload X dX11_byMud_154 4 rfl ?_
  refine wk_iload X dX11_byMud_156 6 rfl ?_
  refine wk_iload X dX11_byMud_158 7 rfl ?_
  refine wk_imul X dX11_byMud_160 ?_
  refine wk_iadd X dX11_byMud_161 ?_
  refine wk_istore (lv' := [(4, .int (x4 + (x6 * x7))), (0, .ref x0), (1, .int x1), (2, .int x2), (3, .int x3), (5, .int x5), (6, .int x6), (7, .int x7)]) X dX11_byMud_162 (by decide) rfl ?_
  refine wk_iinc (lv' := [(5, .int (x5 + 1)), (4, .int (x4 + (x6 * x7))), (0, .ref x0), (1, .int x1), (2, .int x2), (3, .int x3), (6, .int x6), (7, .int x7)]) X dX11_byMud_164 5 rfl ic_1 (by decide) rfl ?_
  refine wk_goto X 53 dX11_byMud_167 (by decide) ?_
  exact wq_sub [2, 3, 4, 5, 1, 0] rfl (hk53 _ _ _ _ _ _ _ hf)
def f_X11_byMud_128 (k53 : Nat → Int32 → Int32 → Int32 → Int32 → Int32 → hp_H → Option (Int32 × hp_H)) (k74 : Nat → Int32 → Int32 → Int32 → Int32 → Int32 → Int32 → Int32 → Int32 → hp_H → Option (Int32 × hp_H)) (x0 : Nat) (x1 : Int32) (x2 : Int32) (x3 : Int32) (x4 : Int32) (x5 : Int32) (x6 : Int32) (x7 : Int32) (x8 : Int32) (t0 : Nat) (t1 : Int32) (h : hp_H) : Option (Int32 × hp_H) := (wr_I h t0 11 41 t1).bind fun h1 => (f_X11_nightGoes x0 33 h1).bind fun r2 => (rd_R r2 x0 11 44).bind fun v3 => (rd_A r2 0 v3 x1).bind fun v4 => k74 x0 x1 x2 x3 x4 x5 x6 (x7 + v4) (x8 + 1) r2
set_option maxRecDepth 20000 in
theorem w_X11_byMud_128 (X : wx G p s m args meth c cX11_byMud 10 RX11 (some .int)) (k53 : Nat → Int32 → Int32 → Int32 → Int32 → Int32 → hp_H → Option (Int32 × hp_H)) (hk53 : ∀ (x0 : Nat) (x1 : Int32) (x2 : Int32) (x3 : Int32) (x4 : Int32) (x5 : Int32) (h : hp_H), k53 x0 x1 x2 x3 x4 x5 h = some o → wq p l e (mt_R (6) 0 0) s m args below meth c (MQ below (mt_Q G (some (.int o.1)) o.2) args s 0 0 (hp_A G)) G 10 0 0 53 [(0, .ref x0), (1, .int x1), (2, .int x2), (3, .int x3), (4, .int x4), (5, .int x5)] [] h) (k74 : Nat → Int32 → Int32 → Int32 → Int32 → Int32 → Int32 → Int32 → Int32 → hp_H → Option (Int32 × hp_H)) (hk74 : ∀ (x0 : Nat) (x1 : Int32) (x2 : Int32) (x3 : Int32) (x4 : Int32) (x5 : Int32) (x6 : Int32) (x7 : Int32) (x8 : Int32) (h : hp_H), k74 x0 x1 x2 x3 x4 x5 x6 x7 x8 h = some o → wq p l e (mt_R (6) 0 0) s m args below meth c (MQ below (mt_Q G (some (.int o.1)) o.2) args s 0 0 (hp_A G)) G 10 0 0 74 [(0, .ref x0), (1, .int x1), (2, .int x2), (3, .int x3), (4, .int x4), (5, .int x5), (6, .int x6), (7, .int x7), (8, .int x8)] [] h) (x0 : Nat) (x1 : Int32) (x2 : Int32) (x3 : Int32) (x4 : Int32) (x5 : Int32) (x6 : Int32) (x7 : Int32) (x8 : Int32) (t0 : Nat) (t1 : Int32) (h : hp_H) (hf : f_X11_byMud_128 k53 k74 x0 x1 x2 x3 x4 x5 x6 x7 x8 t0 t1 h = some o) : wq p l e (mt_R (6) 0 0) s m args below meth c (MQ below (mt_Q G (some (.int o.1)) o.2) args s 0 0 (hp_A G)) G 10 0 0 128 [(0, .ref x0), (1, .int x1), (2, .int x2), (3, .int x3), (4, .int x4), (5, .int x5), (6, .int x6), (7, .int x7), (8, .int x8)] [.int t1, .ref t0] h := by
  unfold f_X11_byMud_128 at hf
  refine wk_putI X dX11_byMud_128 fo_X11_63 hf (fun h1 hf => ?_)
  refine wk_aload_n X dX11_byMud_131 0 rfl ?_
  refine wk_bipush X dX11_byMud_132 ib_33 ?_
  refine wk_callVv X [.int 33] [] dX11_byMud_134 rfl vo_X11_308 rfl (by decide) (Nat.le_of_ble_eq_true rfl) hf (c_X11_nightGoes l _ _ _) (fun r2 hf => ?_)
  refine wk_iload X dX11_byMud_137 7 rfl ?_
  refine wk_aload_n X dX11_byMud_139 0 rfl ?_
  refine wk_getR X dX11_byMud_140 fo_X11_66 hf (fun v3 hf => ?_)
  refine wk_iload_n X dX11_byMud_143 1 rfl ?_
  refine wk_iald X dX11_byMud_144 hf (fun v4 hf => ?_)
  refine wk_iadd X dX11_byMud_145 ?_
  refine wk_istore (lv' := [(7, .int (x7 + v4)), (0, .ref x0), (1, .int x1), (2, .int x2), (3, .int x3), (4, .int x4), (5, .int x5), (6, .int x6), (8, .int x8)]) X dX11_byMud_146 (by decide) rfl ?_
  refine wk_iinc (lv' := [(8, .int (x8 + 1)), (7, .int (x7 + v4)), (0, .ref x0), (1, .int x1), (2, .int x2), (3, .int x3), (4, .int x4), (5, .int x5), (6, .int x6)]) X dX11_byMud_148 8 rfl ic_1 (by decide) rfl ?_
  refine wk_goto X 74 dX11_byMud_151 (by decide) ?_
  exact wq_sub [2, 3, 4, 5, 6, 7, 8, 1, 0] rfl (hk74 _ _ _ _ _ _ _ _ _ _ hf)
def f_X11_byMud_113 (k53 : Nat → Int32 → Int32 → Int32 → Int32 → Int32 → hp_H → Option (Int32 × hp_H)) (k74 : Nat → Int32 → Int32 → Int32 → Int32 → Int32 → Int32 → Int32 → Int32 → hp_H → Option (Int32 × hp_H)) (x0 : Nat) (x1 : Int32) (x2 : Int32) (x3 : Int32) (x4 : Int32) (x5 : Int32) (x7 : Int32) (x8 : Int32) (x9 : Int32) (t0 : Int32) (t1 : Int32) (h : hp_H) : Option (Int32 × hp_H) := if x9 = 0 then (f_X11_byMud_128 k53 k74 x0 x1 x2 x3 x4 x5 (t0 * t1) x7 x8 x0 0 h) else (f_X11_byMud_128 k53 k74 x0 x1 x2 x3 x4 x5 (t0 * t1) x7 x8 x0 9 h)
set_option maxRecDepth 20000 in
theorem w_X11_byMud_113 (X : wx G p s m args meth c cX11_byMud 10 RX11 (some .int)) (k53 : Nat → Int32 → Int32 → Int32 → Int32 → Int32 → hp_H → Option (Int32 × hp_H)) (hk53 : ∀ (x0 : Nat) (x1 : Int32) (x2 : Int32) (x3 : Int32) (x4 : Int32) (x5 : Int32) (h : hp_H), k53 x0 x1 x2 x3 x4 x5 h = some o → wq p l e (mt_R (6) 0 0) s m args below meth c (MQ below (mt_Q G (some (.int o.1)) o.2) args s 0 0 (hp_A G)) G 10 0 0 53 [(0, .ref x0), (1, .int x1), (2, .int x2), (3, .int x3), (4, .int x4), (5, .int x5)] [] h) (k74 : Nat → Int32 → Int32 → Int32 → Int32 → Int32 → Int32 → Int32 → Int32 → hp_H → Option (Int32 × hp_H)) (hk74 : ∀ (x0 : Nat) (x1 : Int32) (x2 : Int32) (x3 : Int32) (x4 : Int32) (x5 : Int32) (x6 : Int32) (x7 : Int32) (x8 : Int32) (h : hp_H), k74 x0 x1 x2 x3 x4 x5 x6 x7 x8 h = some o → wq p l e (mt_R (6) 0 0) s m args below meth c (MQ below (mt_Q G (some (.int o.1)) o.2) args s 0 0 (hp_A G)) G 10 0 0 74 [(0, .ref x0), (1, .int x1), (2, .int x2), (3, .int x3), (4, .int x4), (5, .int x5), (6, .int x6), (7, .int x7), (8, .int x8)] [] h) (x0 : Nat) (x1 : Int32) (x2 : Int32) (x3 : Int32) (x4 : Int32) (x5 : Int32) (x7 : Int32) (x8 : Int32) (x9 : Int32) (t0 : Int32) (t1 : Int32) (h : hp_H) (hf : f_X11_byMud_113 k53 k74 x0 x1 x2 x3 x4 x5 x7 x8 x9 t0 t1 h = some o) : wq p l e (mt_R (6) 0 0) s m args below meth c (MQ below (mt_Q G (some (.int o.1)) o.2) args s 0 0 (hp_A G)) G 10 0 0 113 [(0, .ref x0), (1, .int x1), (2, .int x2), (3, .int x3), (4, .int x4), (5, .int x5), (7, .int x7), (8, .int x8), (9, .int x9)] [.int t1, .int t0] h := by
  unfold f_X11_byMud_113 at hf
  refine wk_imul X dX11_byMud_113 ?_
  refine wk_istore (lv' := [(6, .int (t0 * t1)), (0, .ref x0), (1, .int x1), (2, .int x2), (3, .int x3), (4, .int x4), (5, .int x5), (7, .int x7), (8, .int x8), (9, .int x9)]) X dX11_byMud_114 (by decide) rfl ?_
  refine wk_aload_n X dX11_byMud_116 1 rfl ?_
  refine wk_iload X dX11_byMud_117 9 rfl ?_
  refine wk_if_eq X 127 dX11_byMud_119 (by decide) hf (fun hf => ?_) (fun hf => ?_)
  · refine wk_iconst X dX11_byMud_127 ic_0 ?_
    exact wq_sub [1, 2, 3, 4, 5, 6, 0, 7, 8] rfl (w_X11_byMud_128 X k53 hk53 k74 hk74 _ _ _ _ _ _ _ _ _ _ _ _ hf)
  · refine wk_bipush X dX11_byMud_122 ib_9 ?_
    refine wk_goto X 128 dX11_byMud_124 (by decide) ?_
    exact wq_sub [1, 2, 3, 4, 5, 6, 0, 7, 8] rfl (w_X11_byMud_128 X k53 hk53 k74 hk74 _ _ _ _ _ _ _ _ _ _ _ _ hf)
def f_X11_byMud_96 (k53 : Nat → Int32 → Int32 → Int32 → Int32 → Int32 → hp_H → Option (Int32 × hp_H)) (k74 : Nat → Int32 → Int32 → Int32 → Int32 → Int32 → Int32 → Int32 → Int32 → hp_H → Option (Int32 × hp_H)) (x0 : Nat) (x1 : Int32) (x2 : Int32) (x3 : Int32) (x4 : Int32) (x5 : Int32) (x6 : Int32) (x7 : Int32) (x8 : Int32) (t0 : Int32) (h : hp_H) : Option (Int32 × hp_H) := if t0 = 0 then (f_X11_byMud_113 k53 k74 x0 x1 x2 x3 x4 x5 x7 x8 t0 x6 (10 - x3) h) else (f_X11_byMud_113 k53 k74 x0 x1 x2 x3 x4 x5 x7 x8 t0 x6 x3 h)
set_option maxRecDepth 20000 in
theorem w_X11_byMud_96 (X : wx G p s m args meth c cX11_byMud 10 RX11 (some .int)) (k53 : Nat → Int32 → Int32 → Int32 → Int32 → Int32 → hp_H → Option (Int32 × hp_H)) (hk53 : ∀ (x0 : Nat) (x1 : Int32) (x2 : Int32) (x3 : Int32) (x4 : Int32) (x5 : Int32) (h : hp_H), k53 x0 x1 x2 x3 x4 x5 h = some o → wq p l e (mt_R (6) 0 0) s m args below meth c (MQ below (mt_Q G (some (.int o.1)) o.2) args s 0 0 (hp_A G)) G 10 0 0 53 [(0, .ref x0), (1, .int x1), (2, .int x2), (3, .int x3), (4, .int x4), (5, .int x5)] [] h) (k74 : Nat → Int32 → Int32 → Int32 → Int32 → Int32 → Int32 → Int32 → Int32 → hp_H → Option (Int32 × hp_H)) (hk74 : ∀ (x0 : Nat) (x1 : Int32) (x2 : Int32) (x3 : Int32) (x4 : Int32) (x5 : Int32) (x6 : Int32) (x7 : Int32) (x8 : Int32) (h : hp_H), k74 x0 x1 x2 x3 x4 x5 x6 x7 x8 h = some o → wq p l e (mt_R (6) 0 0) s m args below meth c (MQ below (mt_Q G (some (.int o.1)) o.2) args s 0 0 (hp_A G)) G 10 0 0 74 [(0, .ref x0), (1, .int x1), (2, .int x2), (3, .int x3), (4, .int x4), (5, .int x5), (6, .int x6), (7, .int x7), (8, .int x8)] [] h) (x0 : Nat) (x1 : Int32) (x2 : Int32) (x3 : Int32) (x4 : Int32) (x5 : Int32) (x6 : Int32) (x7 : Int32) (x8 : Int32) (t0 : Int32) (h : hp_H) (hf : f_X11_byMud_96 k53 k74 x0 x1 x2 x3 x4 x5 x6 x7 x8 t0 h = some o) : wq p l e (mt_R (6) 0 0) s m args below meth c (MQ below (mt_Q G (some (.int o.1)) o.2) args s 0 0 (hp_A G)) G 10 0 0 96 [(0, .ref x0), (1, .int x1), (2, .int x2), (3, .int x3), (4, .int x4), (5, .int x5), (6, .int x6), (7, .int x7), (8, .int x8)] [.int t0] h := by
  unfold f_X11_byMud_96 at hf
  refine wk_istore (lv' := [(9, .int t0), (0, .ref x0), (1, .int x1), (2, .int x2), (3, .int x3), (4, .int x4), (5, .int x5), (6, .int x6), (7, .int x7), (8, .int x8)]) X dX11_byMud_96 (by decide) rfl ?_
  refine wk_iload X dX11_byMud_98 7 rfl ?_
  refine wk_iload X dX11_byMud_100 0 rfl ?_
  refine wk_if_eq X 109 dX11_byMud_102 (by decide) hf (fun hf => ?_) (fun hf => ?_)
  · refine wk_bipush X dX11_byMud_109 ib_10 ?_
    refine wk_iload_n X dX11_byMud_111 4 rfl ?_
    refine wk_isub X dX11_byMud_112 ?_
    exact wq_sub [1, 2, 3, 4, 5, 6, 8, 9, 0] rfl (w_X11_byMud_113 X k53 hk53 k74 hk74 _ _ _ _ _ _ _ _ _ _ _ _ hf)
  · refine wk_iload_n X dX11_byMud_105 4 rfl ?_
    refine wk_goto X 113 dX11_byMud_106 (by decide) ?_
    exact wq_sub [1, 2, 3, 4, 5, 6, 8, 9, 0] rfl (w_X11_byMud_113 X k53 hk53 k74 hk74 _ _ _ _ _ _ _ _ _ _ _ _ hf)
def f_X11_byMud_74 (k53 : Nat → Int32 → Int32 → Int32 → Int32 → Int32 → hp_H → Option (Int32 × hp_H)) (k74 : Nat → Int32 → Int32 → Int32 → Int32 → Int32 → Int32 → Int32 → Int32 → hp_H → Option (Int32 × hp_H)) (x0 : Nat) (x1 : Int32) (x2 : Int32) (x3 : Int32) (x4 : Int32) (x5 : Int32) (x6 : Int32) (x7 : Int32) (x8 : Int32) (h : hp_H) : Option (Int32 × hp_H) := if x2 ≤ x8 then (f_X11_byMud_154 k53 x0 x1 x2 x3 x4 x5 x6 x7 h) else (if ((x5 >>> (x8 &&& 31)) &&& (1 : Int32)) = 1 then (f_X11_byMud_96 k53 k74 x0 x1 x2 x3 x4 x5 x6 x7 x8 1 h) else (f_X11_byMud_96 k53 k74 x0 x1 x2 x3 x4 x5 x6 x7 x8 0 h))
set_option maxRecDepth 20000 in
theorem w_X11_byMud_74 (X : wx G p s m args meth c cX11_byMud 10 RX11 (some .int)) (k53 : Nat → Int32 → Int32 → Int32 → Int32 → Int32 → hp_H → Option (Int32 × hp_H)) (hk53 : ∀ (x0 : Nat) (x1 : Int32) (x2 : Int32) (x3 : Int32) (x4 : Int32) (x5 : Int32) (h : hp_H), k53 x0 x1 x2 x3 x4 x5 h = some o → wq p l e (mt_R (6) 0 0) s m args below meth c (MQ below (mt_Q G (some (.int o.1)) o.2) args s 0 0 (hp_A G)) G 10 0 0 53 [(0, .ref x0), (1, .int x1), (2, .int x2), (3, .int x3), (4, .int x4), (5, .int x5)] [] h) (k74 : Nat → Int32 → Int32 → Int32 → Int32 → Int32 → Int32 → Int32 → Int32 → hp_H → Option (Int32 × hp_H)) (hk74 : ∀ (x0 : Nat) (x1 : Int32) (x2 : Int32) (x3 : Int32) (x4 : Int32) (x5 : Int32) (x6 : Int32) (x7 : Int32) (x8 : Int32) (h : hp_H), k74 x0 x1 x2 x3 x4 x5 x6 x7 x8 h = some o → wq p l e (mt_R (6) 0 0) s m args below meth c (MQ below (mt_Q G (some (.int o.1)) o.2) args s 0 0 (hp_A G)) G 10 0 0 74 [(0, .ref x0), (1, .int x1), (2, .int x2), (3, .int x3), (4, .int x4), (5, .int x5), (6, .int x6), (7, .int x7), (8, .int x8)] [] h) (x0 : Nat) (x1 : Int32) (x2 : Int32) (x3 : Int32) (x4 : Int32) (x5 : Int32) (x6 : Int32) (x7 : Int32) (x8 : Int32) (h : hp_H) (hf : f_X11_byMud_74 k53 k74 x0 x1 x2 x3 x4 x5 x6 x7 x8 h = some o) : wq p l e (mt_R (6) 0 0) s m args below meth c (MQ below (mt_Q G (some (.int o.1)) o.2) args s 0 0 (hp_A G)) G 10 0 0 74 [(0, .ref x0), (1, .int x1), (2, .int x2), (3, .int x3), (4, .int x4), (5, .int x5), (6, .int x6), (7, .int x7), (8, .int x8)] [] h := by
  unfold f_X11_byMud_74 at hf
  refine wk_iload X dX11_byMud_74 8 rfl ?_
  refine wk_iload_n X dX11_byMud_76 2 rfl ?_
  refine wk_icmp_ge X 154 dX11_byMud_77 (by decide) hf (fun hf => ?_) (fun hf => ?_)
  · exact wq_sub [0, 1, 2, 3, 4, 5, 6, 7] rfl (w_X11_byMud_154 X k53 hk53 _ _ _ _ _ _ _ _ _ hf)
  · refine wk_iload X dX11_byMud_80 5 rfl ?_
    refine wk_iload X dX11_byMud_82 8 rfl ?_
    refine wk_ishr X dX11_byMud_84 ?_
    refine wk_iconst X dX11_byMud_85 ic_1 ?_
    refine wk_iand X dX11_byMud_86 ?_
    refine wk_iconst X dX11_byMud_87 ic_1 ?_
    refine wk_icmp_ne X 95 dX11_byMud_88 (by decide) hf (fun hf => ?_) (fun hf => ?_)
    · refine wk_iconst X dX11_byMud_95 ic_0 ?_
      exact wq_sub [0, 1, 2, 3, 4, 5, 6, 7, 8] rfl (w_X11_byMud_96 X k53 hk53 k74 hk74 _ _ _ _ _ _ _ _ _ _ _ hf)
    · refine wk_iconst X dX11_byMud_91 ic_1 ?_
      refine wk_goto X 96 dX11_byMud_92 (by decide) ?_
      exact wq_sub [0, 1, 2, 3, 4, 5, 6, 7, 8] rfl (w_X11_byMud_96 X k53 hk53 k74 hk74 _ _ _ _ _ _ _ _ _ _ _ hf)
def l_X11_byMud_74 (k53 : Nat → Int32 → Int32 → Int32 → Int32 → Int32 → hp_H → Option (Int32 × hp_H)) (x0 : Nat) (x1 : Int32) (x2 : Int32) (x3 : Int32) (x4 : Int32) (x5 : Int32) (x6 : Int32) (x7 : Int32) (x8 : Int32) (h : hp_H) : Option (Int32 × hp_H) := lp (fun k (s : Nat × Int32 × Int32 × Int32 × Int32 × Int32 × Int32 × Int32 × Int32 × hp_H) => f_X11_byMud_74 k53 (fun a0 a1 a2 a3 a4 a5 a6 a7 a8 a9 => k (a0, a1, a2, a3, a4, a5, a6, a7, a8, a9)) s.1 s.2.1 s.2.2.1 s.2.2.2.1 s.2.2.2.2.1 s.2.2.2.2.2.1 s.2.2.2.2.2.2.1 s.2.2.2.2.2.2.2.1 s.2.2.2.2.2.2.2.2.1 s.2.2.2.2.2.2.2.2.2) 100000 (x0, x1, x2, x3, x4, x5, x6, x7, x8, h)
theorem wl_X11_byMud_74 (X : wx G p s m args meth c cX11_byMud 10 RX11 (some .int)) (k53 : Nat → Int32 → Int32 → Int32 → Int32 → Int32 → hp_H → Option (Int32 × hp_H)) (hk53 : ∀ (x0 : Nat) (x1 : Int32) (x2 : Int32) (x3 : Int32) (x4 : Int32) (x5 : Int32) (h : hp_H), k53 x0 x1 x2 x3 x4 x5 h = some o → wq p l e (mt_R (6) 0 0) s m args below meth c (MQ below (mt_Q G (some (.int o.1)) o.2) args s 0 0 (hp_A G)) G 10 0 0 53 [(0, .ref x0), (1, .int x1), (2, .int x2), (3, .int x3), (4, .int x4), (5, .int x5)] [] h) (x0 : Nat) (x1 : Int32) (x2 : Int32) (x3 : Int32) (x4 : Int32) (x5 : Int32) (x6 : Int32) (x7 : Int32) (x8 : Int32) (h : hp_H) (hf : l_X11_byMud_74 k53 x0 x1 x2 x3 x4 x5 x6 x7 x8 h = some o) : wq p l e (mt_R (6) 0 0) s m args below meth c (MQ below (mt_Q G (some (.int o.1)) o.2) args s 0 0 (hp_A G)) G 10 0 0 74 [(0, .ref x0), (1, .int x1), (2, .int x2), (3, .int x3), (4, .int x4), (5, .int x5), (6, .int x6), (7, .int x7), (8, .int x8)] [] h :=
  lp_ind (P := fun (s_ : Nat × Int32 × Int32 × Int32 × Int32 × Int32 × Int32 × Int32 × Int32 × hp_H) => wq p l e (mt_R (6) 0 0) s m args below meth c (MQ below (mt_Q G (some (.int o.1)) o.2) args s 0 0 (hp_A G)) G 10 0 0 74 [(0, .ref s_.1), (1, .int s_.2.1), (2, .int s_.2.2.1), (3, .int s_.2.2.2.1), (4, .int s_.2.2.2.2.1), (5, .int s_.2.2.2.2.2.1), (6, .int s_.2.2.2.2.2.2.1), (7, .int s_.2.2.2.2.2.2.2.1), (8, .int s_.2.2.2.2.2.2.2.2.1)] [] s_.2.2.2.2.2.2.2.2.2) (fun k s hk hf => w_X11_byMud_74 X k53 hk53 (fun a0 a1 a2 a3 a4 a5 a6 a7 a8 a9 => k (a0, a1, a2, a3, a4, a5, a6, a7, a8, a9)) (fun a0 a1 a2 a3 a4 a5 a6 a7 a8 a9 hf => hk (a0, a1, a2, a3, a4, a5, a6, a7, a8, a9) hf) s.1 s.2.1 s.2.2.1 s.2.2.2.1 s.2.2.2.2.1 s.2.2.2.2.2.1 s.2.2.2.2.2.2.1 s.2.2.2.2.2.2.2.1 s.2.2.2.2.2.2.2.2.1 s.2.2.2.2.2.2.2.2.2 hf) 100000 (x0, x1, x2, x3, x4, x5, x6, x7, x8, h) hf
def f_X11_byMud_53 (k53 : Nat → Int32 → Int32 → Int32 → Int32 → Int32 → hp_H → Option (Int32 × hp_H)) (x0 : Nat) (x1 : Int32) (x2 : Int32) (x3 : Int32) (x4 : Int32) (x5 : Int32) (h : hp_H) : Option (Int32 × hp_H) := if (1 <<< (x2 &&& 31)) ≤ x5 then (f_X11_byMud_170 x0 x4 h) else ((f_X11_tries x0 h).bind fun r1 => l_X11_byMud_74 k53 x0 x1 x2 x3 x4 x5 1 0 0 r1)
set_option maxRecDepth 20000 in
theorem w_X11_byMud_53 (X : wx G p s m args meth c cX11_byMud 10 RX11 (some .int)) (k53 : Nat → Int32 → Int32 → Int32 → Int32 → Int32 → hp_H → Option (Int32 × hp_H)) (hk53 : ∀ (x0 : Nat) (x1 : Int32) (x2 : Int32) (x3 : Int32) (x4 : Int32) (x5 : Int32) (h : hp_H), k53 x0 x1 x2 x3 x4 x5 h = some o → wq p l e (mt_R (6) 0 0) s m args below meth c (MQ below (mt_Q G (some (.int o.1)) o.2) args s 0 0 (hp_A G)) G 10 0 0 53 [(0, .ref x0), (1, .int x1), (2, .int x2), (3, .int x3), (4, .int x4), (5, .int x5)] [] h) (x0 : Nat) (x1 : Int32) (x2 : Int32) (x3 : Int32) (x4 : Int32) (x5 : Int32) (h : hp_H) (hf : f_X11_byMud_53 k53 x0 x1 x2 x3 x4 x5 h = some o) : wq p l e (mt_R (6) 0 0) s m args below meth c (MQ below (mt_Q G (some (.int o.1)) o.2) args s 0 0 (hp_A G)) G 10 0 0 53 [(0, .ref x0), (1, .int x1), (2, .int x2), (3, .int x3), (4, .int x4), (5, .int x5)] [] h := by
  unfold f_X11_byMud_53 at hf
  refine wk_iload X dX11_byMud_53 5 rfl ?_
  refine wk_iconst X dX11_byMud_55 ic_1 ?_
  refine wk_iload_n X dX11_byMud_56 2 rfl ?_
  refine wk_ishl X dX11_byMud_57 ?_
  refine wk_icmp_ge X 170 dX11_byMud_58 (by decide) hf (fun hf => ?_) (fun hf => ?_)
  · exact wq_sub [0, 4] rfl (w_X11_byMud_170 X _ _ _ hf)
  · refine wk_iconst X dX11_byMud_61 ic_1 ?_
    refine wk_istore (lv' := [(6, .int 1), (0, .ref x0), (1, .int x1), (2, .int x2), (3, .int x3), (4, .int x4), (5, .int x5)]) X dX11_byMud_62 (by decide) rfl ?_
    refine wk_iconst X dX11_byMud_64 ic_0 ?_
    refine wk_istore (lv' := [(7, .int 0), (6, .int 1), (0, .ref x0), (1, .int x1), (2, .int x2), (3, .int x3), (4, .int x4), (5, .int x5)]) X dX11_byMud_65 (by decide) rfl ?_
    refine wk_aload_n X dX11_byMud_67 2 rfl ?_
    refine wk_callVv X [] [] dX11_byMud_68 rfl vo_X11_347 rfl (by decide) (Nat.le_of_ble_eq_true rfl) hf (c_X11_tries l _ _) (fun r1 hf => ?_)
    refine wk_iconst X dX11_byMud_71 ic_0 ?_
    refine wk_istore (lv' := [(8, .int 0), (7, .int 0), (6, .int 1), (0, .ref x0), (1, .int x1), (2, .int x2), (3, .int x3), (4, .int x4), (5, .int x5)]) X dX11_byMud_72 (by decide) rfl ?_
    exact wq_sub [3, 4, 5, 6, 7, 8, 2, 1, 0] rfl (wl_X11_byMud_74 X k53 hk53 _ _ _ _ _ _ _ _ _ _ hf)
def l_X11_byMud_53 (x0 : Nat) (x1 : Int32) (x2 : Int32) (x3 : Int32) (x4 : Int32) (x5 : Int32) (h : hp_H) : Option (Int32 × hp_H) := lp (fun k (s : Nat × Int32 × Int32 × Int32 × Int32 × Int32 × hp_H) => f_X11_byMud_53  (fun a0 a1 a2 a3 a4 a5 a6 => k (a0, a1, a2, a3, a4, a5, a6)) s.1 s.2.1 s.2.2.1 s.2.2.2.1 s.2.2.2.2.1 s.2.2.2.2.2.1 s.2.2.2.2.2.2) 100000 (x0, x1, x2, x3, x4, x5, h)
theorem wl_X11_byMud_53 (X : wx G p s m args meth c cX11_byMud 10 RX11 (some .int)) (x0 : Nat) (x1 : Int32) (x2 : Int32) (x3 : Int32) (x4 : Int32) (x5 : Int32) (h : hp_H) (hf : l_X11_byMud_53 x0 x1 x2 x3 x4 x5 h = some o) : wq p l e (mt_R (6) 0 0) s m args below meth c (MQ below (mt_Q G (some (.int o.1)) o.2) args s 0 0 (hp_A G)) G 10 0 0 53 [(0, .ref x0), (1, .int x1), (2, .int x2), (3, .int x3), (4, .int x4), (5, .int x5)] [] h :=
  lp_ind (P := fun (s_ : Nat × Int32 × Int32 × Int32 × Int32 × Int32 × hp_H) => wq p l e (mt_R (6) 0 0) s m args below meth c (MQ below (mt_Q G (some (.int o.1)) o.2) args s 0 0 (hp_A G)) G 10 0 0 53 [(0, .ref s_.1), (1, .int s_.2.1), (2, .int s_.2.2.1), (3, .int s_.2.2.2.1), (4, .int s_.2.2.2.2.1), (5, .int s_.2.2.2.2.2.1)] [] s_.2.2.2.2.2.2) (fun k s hk hf => w_X11_byMud_53 X  (fun a0 a1 a2 a3 a4 a5 a6 => k (a0, a1, a2, a3, a4, a5, a6)) (fun a0 a1 a2 a3 a4 a5 a6 hf => hk (a0, a1, a2, a3, a4, a5, a6) hf) s.1 s.2.1 s.2.2.1 s.2.2.2.1 s.2.2.2.2.1 s.2.2.2.2.2.1 s.2.2.2.2.2.2 hf) 100000 (x0, x1, x2, x3, x4, x5, h) hf
def f_X11_byMud_38 (x0 : Nat) (x1 : Int32) (x2 : Int32) (x3 : Int32) (t0 : Nat) (t1 : Int32) (h : hp_H) : Option (Int32 × hp_H) := (f_X11_right t0 t1 2 h).bind fun r1 => if r1.1 = 0 then (f_X11_byMud_45 r1.2) else (l_X11_byMud_53 x0 x1 x2 x3 0 0 r1.2)
set_option maxRecDepth 20000 in
theorem w_X11_byMud_38 (X : wx G p s m args meth c cX11_byMud 10 RX11 (some .int)) (x0 : Nat) (x1 : Int32) (x2 : Int32) (x3 : Int32) (t0 : Nat) (t1 : Int32) (h : hp_H) (hf : f_X11_byMud_38 x0 x1 x2 x3 t0 t1 h = some o) : wq p l e (mt_R (6) 0 0) s m args below meth c (MQ below (mt_Q G (some (.int o.1)) o.2) args s 0 0 (hp_A G)) G 10 0 0 38 [(0, .ref x0), (1, .int x1), (2, .int x2), (3, .int x3)] [.int t1, .ref t0] h := by
  unfold f_X11_byMud_38 at hf
  refine wk_iconst X dX11_byMud_38 ic_2 ?_
  refine wk_callVi X [.int t1, .int 2] [] dX11_byMud_39 rfl vo_X11_244 rfl (by decide) (Nat.le_of_ble_eq_true rfl) hf (c_X11_right l _ _ _ _) (fun r1 hf => ?_)
  refine wk_if_ne X 47 dX11_byMud_42 (by decide) hf (fun hf => ?_) (fun hf => ?_)
  · refine wk_iconst X dX11_byMud_47 ic_0 ?_
    refine wk_istore (lv' := [(4, .int 0), (0, .ref x0), (1, .int x1), (2, .int x2), (3, .int x3)]) X dX11_byMud_48 (by decide) rfl ?_
    refine wk_iconst X dX11_byMud_50 ic_0 ?_
    refine wk_istore (lv' := [(5, .int 0), (4, .int 0), (0, .ref x0), (1, .int x1), (2, .int x2), (3, .int x3)]) X dX11_byMud_51 (by decide) rfl ?_
    exact wq_sub [2, 3, 4, 5, 1, 0] rfl (wl_X11_byMud_53 X _ _ _ _ _ _ _ hf)
  · exact wq_sub [] rfl (w_X11_byMud_45 X _ hf)
def f_X11_byMud_37 (x0 : Nat) (x1 : Int32) (x2 : Int32) (x3 : Int32) (t0 : Nat) (h : hp_H) : Option (Int32 × hp_H) := f_X11_byMud_38 x0 x1 x2 x3 t0 0 h
set_option maxRecDepth 20000 in
theorem w_X11_byMud_37 (X : wx G p s m args meth c cX11_byMud 10 RX11 (some .int)) (x0 : Nat) (x1 : Int32) (x2 : Int32) (x3 : Int32) (t0 : Nat) (h : hp_H) (hf : f_X11_byMud_37 x0 x1 x2 x3 t0 h = some o) : wq p l e (mt_R (6) 0 0) s m args below meth c (MQ below (mt_Q G (some (.int o.1)) o.2) args s 0 0 (hp_A G)) G 10 0 0 37 [(0, .ref x0), (1, .int x1), (2, .int x2), (3, .int x3)] [.ref t0] h := by
  unfold f_X11_byMud_37 at hf
  refine wk_iconst X dX11_byMud_37 ic_0 ?_
  exact wq_sub [0, 1, 2, 3] rfl (w_X11_byMud_38 X _ _ _ _ _ _ _ hf)
end Sf_X11_byMud
def f_X11_byMud (x0 : Nat) (x1 : Int32) (x2 : Int32) (x3 : Int32) (h : hp_H) : Option (Int32 × hp_H) := gd h x0 11 ((wr_I h x0 11 0 0).bind fun h1 => (f_X11_isMan x0 x1 h1).bind fun r2 => if r2.1 = 0 then (f_X11_byMud_45 r2.2) else ((f_X11_within x2 1 5 r2.2).bind fun r3 => if r3.1 = 0 then (f_X11_byMud_37 x0 x1 x2 x3 x0 r3.2) else ((f_X11_within x3 0 10 r3.2).bind fun r4 => if r4.1 = 0 then (f_X11_byMud_37 x0 x1 x2 x3 x0 r4.2) else (f_X11_byMud_38 x0 x1 x2 x3 x0 1 r4.2))))
set_option maxRecDepth 20000 in
theorem c_X11_byMud (l : Launch) (x0 : Nat) (x1 : Int32) (x2 : Int32) (x3 : Int32) (h : hp_H) (r : Int32 × hp_H) (hf : f_X11_byMud x0 x1 x2 x3 h = some r) : cv l (6) yX11_byMud cX11_byMud 10 (some .int) 11 x0 [.int x1, .int x2, .int x3] h (some (.int r.1)) r.2 := by
  unfold f_X11_byMud at hf
  refine cv_of (lv := [(0, .ref x0), (1, .int x1), (2, .int x2), (3, .int x3)]) hf (by decide +kernel) (Nat.le_of_ble_eq_true rfl) rfl (fun hf p e s m args below meth c G X => ?_)
  refine wk_aload_n X dX11_byMud_0 0 rfl ?_
  refine wk_iconst X dX11_byMud_1 ic_0 ?_
  refine wk_putI X dX11_byMud_2 fo_X11_84 hf (fun h1 hf => ?_)
  refine wk_aload_n X dX11_byMud_5 0 rfl ?_
  refine wk_iload_n X dX11_byMud_6 1 rfl ?_
  refine wk_callVi X [.int x1] [] dX11_byMud_7 rfl vo_X11_327 rfl (by decide) (Nat.le_of_ble_eq_true rfl) hf (c_X11_isMan l _ _ _) (fun r2 hf => ?_)
  refine wk_if_eq X 45 dX11_byMud_10 (by decide) hf (fun hf => ?_) (fun hf => ?_)
  · exact wq_sub [] rfl (w_X11_byMud_45 X _ hf)
  · refine wk_aload_n X dX11_byMud_13 0 rfl ?_
    refine wk_iload_n X dX11_byMud_14 2 rfl ?_
    refine wk_iconst X dX11_byMud_15 ic_1 ?_
    refine wk_iconst X dX11_byMud_16 ic_5 ?_
    refine wk_callSi X [.int x2, .int 1, .int 5] [.ref x0] dX11_byMud_17 rfl vo_X11_314 rfl (by decide) (Nat.le_of_ble_eq_true rfl) hf (c_X11_within l _ _ _ _) (fun r3 hf => ?_)
    refine wk_if_eq X 37 dX11_byMud_20 (by decide) hf (fun hf => ?_) (fun hf => ?_)
    · exact wq_sub [0, 1, 2, 3] rfl (w_X11_byMud_37 X _ _ _ _ _ _ hf)
    · refine wk_iload_n X dX11_byMud_23 3 rfl ?_
      refine wk_iconst X dX11_byMud_24 ic_0 ?_
      refine wk_bipush X dX11_byMud_25 ib_10 ?_
      refine wk_callSi X [.int x3, .int 0, .int 10] [.ref x0] dX11_byMud_27 rfl vo_X11_314 rfl (by decide) (Nat.le_of_ble_eq_true rfl) hf (c_X11_within l _ _ _ _) (fun r4 hf => ?_)
      refine wk_if_eq X 37 dX11_byMud_30 (by decide) hf (fun hf => ?_) (fun hf => ?_)
      · exact wq_sub [0, 1, 2, 3] rfl (w_X11_byMud_37 X _ _ _ _ _ _ hf)
      · refine wk_iconst X dX11_byMud_33 ic_1 ?_
        refine wk_goto X 38 dX11_byMud_34 (by decide) ?_
        exact wq_sub [0, 1, 2, 3] rfl (w_X11_byMud_38 X _ _ _ _ _ _ _ hf)
section Sf_X11_gains
variable {p : Program} {l : Launch} {e : Env} {s : State} {m : MethodId} {args : Array Value} {below : List Frame} {meth : Method} {c : Code} {G : hp_G} {o : Int32 × hp_H}
def f_X11_gains_77 (x0 : Nat) (x1 : Int32) (x5 : Int32) (h : hp_H) : Option (Int32 × hp_H) := (rd_R h x0 11 36).bind fun v1 => (rd_A h 0 v1 (50 + x1)).bind fun v2 => (rd_R h x0 11 36).bind fun v3 => (rd_A h 0 v3 (17 + x1)).bind fun v4 => some ((x5 + v2) - v4, h)
set_option maxRecDepth 20000 in
theorem w_X11_gains_77 (X : wx G p s m args meth c cX11_gains 7 RX11 (some .int)) (x0 : Nat) (x1 : Int32) (x5 : Int32) (h : hp_H) (hf : f_X11_gains_77 x0 x1 x5 h = some o) : wq p l e (mt_R (6) 0 0) s m args below meth c (MQ below (mt_Q G (some (.int o.1)) o.2) args s 0 0 (hp_A G)) G 7 0 0 77 [(0, .ref x0), (1, .int x1), (5, .int x5)] [] h := by
  unfold f_X11_gains_77 at hf
  refine wk_iload X dX11_gains_77 2 rfl ?_
  refine wk_aload_n X dX11_gains_79 0 rfl ?_
  refine wk_getR X dX11_gains_80 fo_X11_51 hf (fun v1 hf => ?_)
  refine wk_bipush X dX11_gains_83 ib_50 ?_
  refine wk_iload_n X dX11_gains_85 1 rfl ?_
  refine wk_iadd X dX11_gains_86 ?_
  refine wk_iald X dX11_gains_87 hf (fun v2 hf => ?_)
  refine wk_iadd X dX11_gains_88 ?_
  refine wk_aload_n X dX11_gains_89 0 rfl ?_
  refine wk_getR X dX11_gains_90 fo_X11_51 hf (fun v3 hf => ?_)
  refine wk_bipush X dX11_gains_93 ib_17 ?_
  refine wk_iload_n X dX11_gains_95 1 rfl ?_
  refine wk_iadd X dX11_gains_96 ?_
  refine wk_iald X dX11_gains_97 hf (fun v4 hf => ?_)
  refine wk_isub X dX11_gains_98 ?_
  exact wk_ireturn X dX11_gains_99 hf
def f_X11_gains_45 (k45 : Nat → Int32 → Int32 → Int32 → Int32 → hp_H → Option (Int32 × hp_H)) (x0 : Nat) (x1 : Int32) (x2 : Int32) (x5 : Int32) (x6 : Int32) (h : hp_H) : Option (Int32 × hp_H) := if 6 ≤ x6 then (f_X11_gains_77 x0 x1 x5 h) else ((f_X11_nightGoes x0 33 h).bind fun r1 => (rd_I r1 x0 11 42).bind fun v2 => k45 x0 x1 x2 (x5 - ((v2 >>> (x2 &&& 31)) &&& (1 : Int32))) (x6 + 1) r1)
set_option maxRecDepth 20000 in
theorem w_X11_gains_45 (X : wx G p s m args meth c cX11_gains 7 RX11 (some .int)) (k45 : Nat → Int32 → Int32 → Int32 → Int32 → hp_H → Option (Int32 × hp_H)) (hk45 : ∀ (x0 : Nat) (x1 : Int32) (x2 : Int32) (x5 : Int32) (x6 : Int32) (h : hp_H), k45 x0 x1 x2 x5 x6 h = some o → wq p l e (mt_R (6) 0 0) s m args below meth c (MQ below (mt_Q G (some (.int o.1)) o.2) args s 0 0 (hp_A G)) G 7 0 0 45 [(0, .ref x0), (1, .int x1), (2, .int x2), (5, .int x5), (6, .int x6)] [] h) (x0 : Nat) (x1 : Int32) (x2 : Int32) (x5 : Int32) (x6 : Int32) (h : hp_H) (hf : f_X11_gains_45 k45 x0 x1 x2 x5 x6 h = some o) : wq p l e (mt_R (6) 0 0) s m args below meth c (MQ below (mt_Q G (some (.int o.1)) o.2) args s 0 0 (hp_A G)) G 7 0 0 45 [(0, .ref x0), (1, .int x1), (2, .int x2), (5, .int x5), (6, .int x6)] [] h := by
  unfold f_X11_gains_45 at hf
  refine wk_iload X dX11_gains_45 4 rfl ?_
  refine wk_bipush X dX11_gains_47 ib_6 ?_
  refine wk_icmp_ge X 77 dX11_gains_49 (by decide) hf (fun hf => ?_) (fun hf => ?_)
  · exact wq_sub [0, 1, 3] rfl (w_X11_gains_77 X _ _ _ _ hf)
  · refine wk_aload_n X dX11_gains_52 0 rfl ?_
    refine wk_bipush X dX11_gains_53 ib_33 ?_
    refine wk_callVv X [.int 33] [] dX11_gains_55 rfl vo_X11_308 rfl (by decide) (Nat.le_of_ble_eq_true rfl) hf (c_X11_nightGoes l _ _ _) (fun r1 hf => ?_)
    refine wk_iload X dX11_gains_58 3 rfl ?_
    refine wk_aload_n X dX11_gains_60 0 rfl ?_
    refine wk_getI X dX11_gains_61 fo_X11_296 hf (fun v2 hf => ?_)
    refine wk_iload_n X dX11_gains_64 2 rfl ?_
    refine wk_ishr X dX11_gains_65 ?_
    refine wk_iconst X dX11_gains_66 ic_1 ?_
    refine wk_iand X dX11_gains_67 ?_
    refine wk_isub X dX11_gains_68 ?_
    refine wk_istore (lv' := [(5, .int (x5 - ((v2 >>> (x2 &&& 31)) &&& (1 : Int32)))), (0, .ref x0), (1, .int x1), (2, .int x2), (6, .int x6)]) X dX11_gains_69 (by decide) rfl ?_
    refine wk_iinc (lv' := [(6, .int (x6 + 1)), (5, .int (x5 - ((v2 >>> (x2 &&& 31)) &&& (1 : Int32)))), (0, .ref x0), (1, .int x1), (2, .int x2)]) X dX11_gains_71 4 rfl ic_1 (by decide) rfl ?_
    refine wk_goto X 45 dX11_gains_74 (by decide) ?_
    exact wq_sub [2, 3, 4, 1, 0] rfl (hk45 _ _ _ _ _ _ hf)
def l_X11_gains_45 (x0 : Nat) (x1 : Int32) (x2 : Int32) (x5 : Int32) (x6 : Int32) (h : hp_H) : Option (Int32 × hp_H) := lp (fun k (s : Nat × Int32 × Int32 × Int32 × Int32 × hp_H) => f_X11_gains_45  (fun a0 a1 a2 a3 a4 a5 => k (a0, a1, a2, a3, a4, a5)) s.1 s.2.1 s.2.2.1 s.2.2.2.1 s.2.2.2.2.1 s.2.2.2.2.2) 100000 (x0, x1, x2, x5, x6, h)
theorem wl_X11_gains_45 (X : wx G p s m args meth c cX11_gains 7 RX11 (some .int)) (x0 : Nat) (x1 : Int32) (x2 : Int32) (x5 : Int32) (x6 : Int32) (h : hp_H) (hf : l_X11_gains_45 x0 x1 x2 x5 x6 h = some o) : wq p l e (mt_R (6) 0 0) s m args below meth c (MQ below (mt_Q G (some (.int o.1)) o.2) args s 0 0 (hp_A G)) G 7 0 0 45 [(0, .ref x0), (1, .int x1), (2, .int x2), (5, .int x5), (6, .int x6)] [] h :=
  lp_ind (P := fun (s_ : Nat × Int32 × Int32 × Int32 × Int32 × hp_H) => wq p l e (mt_R (6) 0 0) s m args below meth c (MQ below (mt_Q G (some (.int o.1)) o.2) args s 0 0 (hp_A G)) G 7 0 0 45 [(0, .ref s_.1), (1, .int s_.2.1), (2, .int s_.2.2.1), (5, .int s_.2.2.2.1), (6, .int s_.2.2.2.2.1)] [] s_.2.2.2.2.2) (fun k s hk hf => w_X11_gains_45 X  (fun a0 a1 a2 a3 a4 a5 => k (a0, a1, a2, a3, a4, a5)) (fun a0 a1 a2 a3 a4 a5 hf => hk (a0, a1, a2, a3, a4, a5) hf) s.1 s.2.1 s.2.2.1 s.2.2.2.1 s.2.2.2.2.1 s.2.2.2.2.2 hf) 100000 (x0, x1, x2, x5, x6, h) hf
def f_X11_gains_37 (x0 : Nat) (x1 : Int32) (x2 : Int32) (x3 : Int32) (h : hp_H) : Option (Int32 × hp_H) := l_X11_gains_45 x0 x1 x2 (0 - x3) 0 h
set_option maxRecDepth 20000 in
theorem w_X11_gains_37 (X : wx G p s m args meth c cX11_gains 7 RX11 (some .int)) (x0 : Nat) (x1 : Int32) (x2 : Int32) (x3 : Int32) (h : hp_H) (hf : f_X11_gains_37 x0 x1 x2 x3 h = some o) : wq p l e (mt_R (6) 0 0) s m args below meth c (MQ below (mt_Q G (some (.int o.1)) o.2) args s 0 0 (hp_A G)) G 7 0 0 37 [(0, .ref x0), (1, .int x1), (2, .int x2), (3, .int x3)] [] h := by
  unfold f_X11_gains_37 at hf
  refine wk_iconst X dX11_gains_37 ic_0 ?_
  refine wk_iload_n X dX11_gains_38 3 rfl ?_
  refine wk_isub X dX11_gains_39 ?_
  refine wk_istore (lv' := [(5, .int (0 - x3)), (0, .ref x0), (1, .int x1), (2, .int x2), (3, .int x3)]) X dX11_gains_40 (by decide) rfl ?_
  refine wk_iconst X dX11_gains_42 ic_0 ?_
  refine wk_istore (lv' := [(6, .int 0), (5, .int (0 - x3)), (0, .ref x0), (1, .int x1), (2, .int x2), (3, .int x3)]) X dX11_gains_43 (by decide) rfl ?_
  exact wq_sub [2, 3, 4, 1, 0] rfl (wl_X11_gains_45 X _ _ _ _ _ _ hf)
def f_X11_gains_20 (x0 : Nat) (x1 : Int32) (x2 : Int32) (x3 : Int32) (x4 : Int32) (h : hp_H) : Option (Int32 × hp_H) := if x4 = 1 then ((rd_R h x0 11 36).bind fun v1 => (wr_A h v1 (42 + x2) 9).bind fun h2 => f_X11_gains_37 x0 x1 x2 x3 h2) else (f_X11_gains_37 x0 x1 x2 x3 h)
set_option maxRecDepth 20000 in
theorem w_X11_gains_20 (X : wx G p s m args meth c cX11_gains 7 RX11 (some .int)) (x0 : Nat) (x1 : Int32) (x2 : Int32) (x3 : Int32) (x4 : Int32) (h : hp_H) (hf : f_X11_gains_20 x0 x1 x2 x3 x4 h = some o) : wq p l e (mt_R (6) 0 0) s m args below meth c (MQ below (mt_Q G (some (.int o.1)) o.2) args s 0 0 (hp_A G)) G 7 0 0 20 [(0, .ref x0), (1, .int x1), (2, .int x2), (3, .int x3), (4, .int x4)] [] h := by
  unfold f_X11_gains_20 at hf
  refine wk_iload X dX11_gains_20 4 rfl ?_
  refine wk_iconst X dX11_gains_22 ic_1 ?_
  refine wk_icmp_ne X 37 dX11_gains_23 (by decide) hf (fun hf => ?_) (fun hf => ?_)
  · exact wq_sub [0, 1, 2, 3] rfl (w_X11_gains_37 X _ _ _ _ _ hf)
  · refine wk_aload_n X dX11_gains_26 0 rfl ?_
    refine wk_getR X dX11_gains_27 fo_X11_51 hf (fun v1 hf => ?_)
    refine wk_bipush X dX11_gains_30 ib_42 ?_
    refine wk_iload_n X dX11_gains_32 2 rfl ?_
    refine wk_iadd X dX11_gains_33 ?_
    refine wk_bipush X dX11_gains_34 ib_9 ?_
    refine wk_iast X dX11_gains_36 hf (fun h2 hf => ?_)
    exact wq_sub [0, 1, 2, 3] rfl (w_X11_gains_37 X _ _ _ _ _ hf)
end Sf_X11_gains
def f_X11_gains (x0 : Nat) (x1 : Int32) (x2 : Int32) (x3 : Int32) (x4 : Int32) (h : hp_H) : Option (Int32 × hp_H) := gd h x0 11 ((f_X11_tries x0 h).bind fun r1 => if x3 = 1 then ((rd_R r1 x0 11 36).bind fun v2 => (wr_A r1 v2 (42 + x1) 9).bind fun h3 => f_X11_gains_20 x0 x1 x2 x3 x4 h3) else (f_X11_gains_20 x0 x1 x2 x3 x4 r1))
set_option maxRecDepth 20000 in
theorem c_X11_gains (l : Launch) (x0 : Nat) (x1 : Int32) (x2 : Int32) (x3 : Int32) (x4 : Int32) (h : hp_H) (r : Int32 × hp_H) (hf : f_X11_gains x0 x1 x2 x3 x4 h = some r) : cv l (6) yX11_gains cX11_gains 7 (some .int) 11 x0 [.int x1, .int x2, .int x3, .int x4] h (some (.int r.1)) r.2 := by
  unfold f_X11_gains at hf
  refine cv_of (lv := [(0, .ref x0), (1, .int x1), (2, .int x2), (3, .int x3), (4, .int x4)]) hf (by decide +kernel) (Nat.le_of_ble_eq_true rfl) rfl (fun hf p e s m args below meth c G X => ?_)
  refine wk_aload_n X dX11_gains_0 0 rfl ?_
  refine wk_callVv X [] [] dX11_gains_1 rfl vo_X11_347 rfl (by decide) (Nat.le_of_ble_eq_true rfl) hf (c_X11_tries l _ _) (fun r1 hf => ?_)
  refine wk_iload_n X dX11_gains_4 3 rfl ?_
  refine wk_iconst X dX11_gains_5 ic_1 ?_
  refine wk_icmp_ne X 20 dX11_gains_6 (by decide) hf (fun hf => ?_) (fun hf => ?_)
  · exact wq_sub [0, 1, 2, 3, 4] rfl (w_X11_gains_20 X _ _ _ _ _ _ hf)
  · refine wk_aload_n X dX11_gains_9 0 rfl ?_
    refine wk_getR X dX11_gains_10 fo_X11_51 hf (fun v2 hf => ?_)
    refine wk_bipush X dX11_gains_13 ib_42 ?_
    refine wk_iload_n X dX11_gains_15 1 rfl ?_
    refine wk_iadd X dX11_gains_16 ?_
    refine wk_bipush X dX11_gains_17 ib_9 ?_
    refine wk_iast X dX11_gains_19 hf (fun h3 hf => ?_)
    exact wq_sub [0, 1, 2, 3, 4] rfl (w_X11_gains_20 X _ _ _ _ _ _ hf)
section Sf_X11_game
variable {p : Program} {l : Launch} {e : Env} {s : State} {m : MethodId} {args : Array Value} {below : List Frame} {meth : Method} {c : Code} {G : hp_G} {o : Int32 × hp_H}
def f_X11_game_68  (h : hp_H) : Option (Int32 × hp_H) := some (0, h)
set_option maxRecDepth 20000 in
theorem w_X11_game_68 (X : wx G p s m args meth c cX11_game 9 RX11 (some .int))  (h : hp_H) (hf : f_X11_game_68 h = some o) : wq p l e (mt_R (7) 0 0) s m args below meth c (MQ below (mt_Q G (some (.int o.1)) o.2) args s 0 0 (hp_A G)) G 9 0 0 68 [] [] h := by
  unfold f_X11_game_68 at hf
  refine wk_iconst X dX11_game_68 ic_0 ?_
  exact wk_ireturn X dX11_game_69 hf
def f_X11_game_186 (t0 : Int32) (h : hp_H) : Option (Int32 × hp_H) := some (t0, h)
set_option maxRecDepth 20000 in
theorem w_X11_game_186 (X : wx G p s m args meth c cX11_game 9 RX11 (some .int)) (t0 : Int32) (h : hp_H) (hf : f_X11_game_186 t0 h = some o) : wq p l e (mt_R (7) 0 0) s m args below meth c (MQ below (mt_Q G (some (.int o.1)) o.2) args s 0 0 (hp_A G)) G 9 0 0 186 [] [.int t0] h := by
  unfold f_X11_game_186 at hf
  exact wk_ireturn X dX11_game_186 hf
def f_X11_game_175 (x3 : Int32) (x4 : Int32) (x5 : Int32) (h : hp_H) : Option (Int32 × hp_H) := if x3 = 0 then (f_X11_game_186 x4 h) else (f_X11_game_186 x5 h)
set_option maxRecDepth 20000 in
theorem w_X11_game_175 (X : wx G p s m args meth c cX11_game 9 RX11 (some .int)) (x3 : Int32) (x4 : Int32) (x5 : Int32) (h : hp_H) (hf : f_X11_game_175 x3 x4 x5 h = some o) : wq p l e (mt_R (7) 0 0) s m args below meth c (MQ below (mt_Q G (some (.int o.1)) o.2) args s 0 0 (hp_A G)) G 9 0 0 175 [(3, .int x3), (4, .int x4), (5, .int x5)] [] h := by
  unfold f_X11_game_175 at hf
  refine wk_iload_n X dX11_game_175 0 rfl ?_
  refine wk_if_ne X 184 dX11_game_176 (by decide) hf (fun hf => ?_) (fun hf => ?_)
  · refine wk_iload X dX11_game_184 2 rfl ?_
    exact wq_sub [] rfl (w_X11_game_186 X _ _ hf)
  · refine wk_iload X dX11_game_179 1 rfl ?_
    refine wk_goto X 186 dX11_game_181 (by decide) ?_
    exact wq_sub [] rfl (w_X11_game_186 X _ _ hf)
def f_X11_game_169 (k79 : Nat → Int32 → Int32 → Int32 → Int32 → Int32 → Int32 → hp_H → Option (Int32 × hp_H)) (x0 : Nat) (x1 : Int32) (x2 : Int32) (x3 : Int32) (x4 : Int32) (x5 : Int32) (x6 : Int32) (h : hp_H) : Option (Int32 × hp_H) := k79 x0 x1 x2 x3 x4 x5 (x6 + 1) h
set_option maxRecDepth 20000 in
theorem w_X11_game_169 (X : wx G p s m args meth c cX11_game 9 RX11 (some .int)) (k79 : Nat → Int32 → Int32 → Int32 → Int32 → Int32 → Int32 → hp_H → Option (Int32 × hp_H)) (hk79 : ∀ (x0 : Nat) (x1 : Int32) (x2 : Int32) (x3 : Int32) (x4 : Int32) (x5 : Int32) (x6 : Int32) (h : hp_H), k79 x0 x1 x2 x3 x4 x5 x6 h = some o → wq p l e (mt_R (7) 0 0) s m args below meth c (MQ below (mt_Q G (some (.int o.1)) o.2) args s 0 0 (hp_A G)) G 9 0 0 79 [(0, .ref x0), (1, .int x1), (2, .int x2), (3, .int x3), (4, .int x4), (5, .int x5), (6, .int x6)] [] h) (x0 : Nat) (x1 : Int32) (x2 : Int32) (x3 : Int32) (x4 : Int32) (x5 : Int32) (x6 : Int32) (h : hp_H) (hf : f_X11_game_169 k79 x0 x1 x2 x3 x4 x5 x6 h = some o) : wq p l e (mt_R (7) 0 0) s m args below meth c (MQ below (mt_Q G (some (.int o.1)) o.2) args s 0 0 (hp_A G)) G 9 0 0 169 [(0, .ref x0), (1, .int x1), (2, .int x2), (3, .int x3), (4, .int x4), (5, .int x5), (6, .int x6)] [] h := by
  unfold f_X11_game_169 at hf
  refine wk_iinc (lv' := [(6, .int (x6 + 1)), (0, .ref x0), (1, .int x1), (2, .int x2), (3, .int x3), (4, .int x4), (5, .int x5)]) X dX11_game_169 6 rfl ic_1 (by decide) rfl ?_
  refine wk_goto X 79 dX11_game_172 (by decide) ?_
  exact wq_sub [1, 2, 3, 4, 5, 6, 0] rfl (hk79 _ _ _ _ _ _ _ _ hf)
def f_X11_game_79 (k79 : Nat → Int32 → Int32 → Int32 → Int32 → Int32 → Int32 → hp_H → Option (Int32 × hp_H)) (x0 : Nat) (x1 : Int32) (x2 : Int32) (x3 : Int32) (x4 : Int32) (x5 : Int32) (x6 : Int32) (h : hp_H) : Option (Int32 × hp_H) := if 4 ≤ x6 then (f_X11_game_175 x3 x4 x5 h) else ((hp_div x6 2).bind fun v1 => (hp_rem x6 2).bind fun v2 => (f_X11_gains x0 x1 x2 (1 - v1) v2 h).bind fun r3 => (f_X11_gains x0 x1 x2 v1 v2 r3.2).bind fun r4 => if r4.1 < r3.1 then (f_X11_game_169 k79 x0 x1 x2 x3 x4 x5 x6 r4.2) else ((f_X11_gains x0 x2 x1 (1 - v2) v1 r4.2).bind fun r5 => (f_X11_gains x0 x2 x1 v2 v1 r5.2).bind fun r6 => if r5.1 ≤ r6.1 then (if x5 = (-1) then (f_X11_game_169 k79 x0 x1 x2 x3 (x4 + 1) ((10 * v1) + v2) x6 r6.2) else (f_X11_game_169 k79 x0 x1 x2 x3 (x4 + 1) x5 x6 r6.2)) else (f_X11_game_169 k79 x0 x1 x2 x3 x4 x5 x6 r6.2)))
set_option maxRecDepth 20000 in
theorem w_X11_game_79 (X : wx G p s m args meth c cX11_game 9 RX11 (some .int)) (k79 : Nat → Int32 → Int32 → Int32 → Int32 → Int32 → Int32 → hp_H → Option (Int32 × hp_H)) (hk79 : ∀ (x0 : Nat) (x1 : Int32) (x2 : Int32) (x3 : Int32) (x4 : Int32) (x5 : Int32) (x6 : Int32) (h : hp_H), k79 x0 x1 x2 x3 x4 x5 x6 h = some o → wq p l e (mt_R (7) 0 0) s m args below meth c (MQ below (mt_Q G (some (.int o.1)) o.2) args s 0 0 (hp_A G)) G 9 0 0 79 [(0, .ref x0), (1, .int x1), (2, .int x2), (3, .int x3), (4, .int x4), (5, .int x5), (6, .int x6)] [] h) (x0 : Nat) (x1 : Int32) (x2 : Int32) (x3 : Int32) (x4 : Int32) (x5 : Int32) (x6 : Int32) (h : hp_H) (hf : f_X11_game_79 k79 x0 x1 x2 x3 x4 x5 x6 h = some o) : wq p l e (mt_R (7) 0 0) s m args below meth c (MQ below (mt_Q G (some (.int o.1)) o.2) args s 0 0 (hp_A G)) G 9 0 0 79 [(0, .ref x0), (1, .int x1), (2, .int x2), (3, .int x3), (4, .int x4), (5, .int x5), (6, .int x6)] [] h := by
  unfold f_X11_game_79 at hf
  refine wk_iload X dX11_game_79 6 rfl ?_
  refine wk_iconst X dX11_game_81 ic_4 ?_
  refine wk_icmp_ge X 175 dX11_game_82 (by decide) hf (fun hf => ?_) (fun hf => ?_)
  · exact wq_sub [3, 4, 5] rfl (w_X11_game_175 X _ _ _ _ hf)
  · refine wk_iload X dX11_game_85 6 rfl ?_
    refine wk_iconst X dX11_game_87 ic_2 ?_
    refine wk_idiv X dX11_game_88 hf (fun v1 hf => ?_)
    refine wk_istore (lv' := [(7, .int v1), (0, .ref x0), (1, .int x1), (2, .int x2), (3, .int x3), (4, .int x4), (5, .int x5), (6, .int x6)]) X dX11_game_89 (by decide) rfl ?_
    refine wk_iload X dX11_game_91 7 rfl ?_
    refine wk_iconst X dX11_game_93 ic_2 ?_
    refine wk_irem X dX11_game_94 hf (fun v2 hf => ?_)
    refine wk_istore (lv' := [(8, .int v2), (7, .int v1), (0, .ref x0), (1, .int x1), (2, .int x2), (3, .int x3), (4, .int x4), (5, .int x5), (6, .int x6)]) X dX11_game_95 (by decide) rfl ?_
    refine wk_aload_n X dX11_game_97 2 rfl ?_
    refine wk_iload_n X dX11_game_98 3 rfl ?_
    refine wk_iload_n X dX11_game_99 4 rfl ?_
    refine wk_iconst X dX11_game_100 ic_1 ?_
    refine wk_iload X dX11_game_101 1 rfl ?_
    refine wk_isub X dX11_game_103 ?_
    refine wk_iload X dX11_game_104 0 rfl ?_
    refine wk_callVi X [.int x1, .int x2, .int (1 - v1), .int v2] [] dX11_game_106 rfl vo_X11_381 rfl (by decide) (Nat.le_of_ble_eq_true rfl) hf (c_X11_gains l _ _ _ _ _ _) (fun r3 hf => ?_)
    refine wk_aload_n X dX11_game_109 2 rfl ?_
    refine wk_iload_n X dX11_game_110 3 rfl ?_
    refine wk_iload_n X dX11_game_111 4 rfl ?_
    refine wk_iload X dX11_game_112 1 rfl ?_
    refine wk_iload X dX11_game_114 0 rfl ?_
    refine wk_callVi X [.int x1, .int x2, .int v1, .int v2] [.int r3.1] dX11_game_116 rfl vo_X11_381 rfl (by decide) (Nat.le_of_ble_eq_true rfl) hf (c_X11_gains l _ _ _ _ _ _) (fun r4 hf => ?_)
    refine wk_icmp_gt X 169 dX11_game_119 (by decide) hf (fun hf => ?_) (fun hf => ?_)
    · exact wq_sub [2, 3, 4, 5, 6, 7, 8] rfl (w_X11_game_169 X k79 hk79 _ _ _ _ _ _ _ _ hf)
    · refine wk_aload_n X dX11_game_122 2 rfl ?_
      refine wk_iload_n X dX11_game_123 4 rfl ?_
      refine wk_iload_n X dX11_game_124 3 rfl ?_
      refine wk_iconst X dX11_game_125 ic_1 ?_
      refine wk_iload X dX11_game_126 0 rfl ?_
      refine wk_isub X dX11_game_128 ?_
      refine wk_iload X dX11_game_129 1 rfl ?_
      refine wk_callVi X [.int x2, .int x1, .int (1 - v2), .int v1] [] dX11_game_131 rfl vo_X11_381 rfl (by decide) (Nat.le_of_ble_eq_true rfl) hf (c_X11_gains l _ _ _ _ _ _) (fun r5 hf => ?_)
      refine wk_aload_n X dX11_game_134 2 rfl ?_
      refine wk_iload_n X dX11_game_135 4 rfl ?_
      refine wk_iload_n X dX11_game_136 3 rfl ?_
      refine wk_iload X dX11_game_137 0 rfl ?_
      refine wk_iload X dX11_game_139 1 rfl ?_
      refine wk_callVi X [.int x2, .int x1, .int v2, .int v1] [.int r5.1] dX11_game_141 rfl vo_X11_381 rfl (by decide) (Nat.le_of_ble_eq_true rfl) hf (c_X11_gains l _ _ _ _ _ _) (fun r6 hf => ?_)
      refine wk_icmp_le X 150 dX11_game_144 (by decide) hf (fun hf => ?_) (fun hf => ?_)
      · refine wk_iinc (lv' := [(4, .int (x4 + 1)), (8, .int v2), (7, .int v1), (0, .ref x0), (1, .int x1), (2, .int x2), (3, .int x3), (5, .int x5), (6, .int x6)]) X dX11_game_150 6 rfl ic_1 (by decide) rfl ?_
        refine wk_iload X dX11_game_153 7 rfl ?_
        refine wk_iconst X dX11_game_155 ic_m1 ?_
        refine wk_icmp_ne X 169 dX11_game_156 (by decide) hf (fun hf => ?_) (fun hf => ?_)
        · exact wq_sub [3, 4, 5, 6, 0, 7, 8] rfl (w_X11_game_169 X k79 hk79 _ _ _ _ _ _ _ _ hf)
        · refine wk_bipush X dX11_game_159 ib_10 ?_
          refine wk_iload X dX11_game_161 2 rfl ?_
          refine wk_imul X dX11_game_163 ?_
          refine wk_iload X dX11_game_164 1 rfl ?_
          refine wk_iadd X dX11_game_166 ?_
          refine wk_istore (lv' := [(5, .int ((10 * v1) + v2)), (4, .int (x4 + 1)), (8, .int v2), (7, .int v1), (0, .ref x0), (1, .int x1), (2, .int x2), (3, .int x3), (6, .int x6)]) X dX11_game_167 (by decide) rfl ?_
          exact wq_sub [4, 5, 6, 7, 1, 0, 8] rfl (w_X11_game_169 X k79 hk79 _ _ _ _ _ _ _ _ hf)
      · refine wk_goto X 169 dX11_game_147 (by decide) ?_
        exact wq_sub [2, 3, 4, 5, 6, 7, 8] rfl (w_X11_game_169 X k79 hk79 _ _ _ _ _ _ _ _ hf)
def l_X11_game_79 (x0 : Nat) (x1 : Int32) (x2 : Int32) (x3 : Int32) (x4 : Int32) (x5 : Int32) (x6 : Int32) (h : hp_H) : Option (Int32 × hp_H) := lp (fun k (s : Nat × Int32 × Int32 × Int32 × Int32 × Int32 × Int32 × hp_H) => f_X11_game_79  (fun a0 a1 a2 a3 a4 a5 a6 a7 => k (a0, a1, a2, a3, a4, a5, a6, a7)) s.1 s.2.1 s.2.2.1 s.2.2.2.1 s.2.2.2.2.1 s.2.2.2.2.2.1 s.2.2.2.2.2.2.1 s.2.2.2.2.2.2.2) 100000 (x0, x1, x2, x3, x4, x5, x6, h)
theorem wl_X11_game_79 (X : wx G p s m args meth c cX11_game 9 RX11 (some .int)) (x0 : Nat) (x1 : Int32) (x2 : Int32) (x3 : Int32) (x4 : Int32) (x5 : Int32) (x6 : Int32) (h : hp_H) (hf : l_X11_game_79 x0 x1 x2 x3 x4 x5 x6 h = some o) : wq p l e (mt_R (7) 0 0) s m args below meth c (MQ below (mt_Q G (some (.int o.1)) o.2) args s 0 0 (hp_A G)) G 9 0 0 79 [(0, .ref x0), (1, .int x1), (2, .int x2), (3, .int x3), (4, .int x4), (5, .int x5), (6, .int x6)] [] h :=
  lp_ind (P := fun (s_ : Nat × Int32 × Int32 × Int32 × Int32 × Int32 × Int32 × hp_H) => wq p l e (mt_R (7) 0 0) s m args below meth c (MQ below (mt_Q G (some (.int o.1)) o.2) args s 0 0 (hp_A G)) G 9 0 0 79 [(0, .ref s_.1), (1, .int s_.2.1), (2, .int s_.2.2.1), (3, .int s_.2.2.2.1), (4, .int s_.2.2.2.2.1), (5, .int s_.2.2.2.2.2.1), (6, .int s_.2.2.2.2.2.2.1)] [] s_.2.2.2.2.2.2.2) (fun k s hk hf => w_X11_game_79 X  (fun a0 a1 a2 a3 a4 a5 a6 a7 => k (a0, a1, a2, a3, a4, a5, a6, a7)) (fun a0 a1 a2 a3 a4 a5 a6 a7 hf => hk (a0, a1, a2, a3, a4, a5, a6, a7) hf) s.1 s.2.1 s.2.2.1 s.2.2.2.1 s.2.2.2.2.1 s.2.2.2.2.2.1 s.2.2.2.2.2.2.1 s.2.2.2.2.2.2.2 hf) 100000 (x0, x1, x2, x3, x4, x5, x6, h) hf
def f_X11_game_61 (x0 : Nat) (x1 : Int32) (x2 : Int32) (x3 : Int32) (t0 : Nat) (t1 : Int32) (h : hp_H) : Option (Int32 × hp_H) := (f_X11_right t0 t1 2 h).bind fun r1 => if r1.1 = 0 then (f_X11_game_68 r1.2) else (l_X11_game_79 x0 x1 x2 x3 0 (-1) 0 r1.2)
set_option maxRecDepth 20000 in
theorem w_X11_game_61 (X : wx G p s m args meth c cX11_game 9 RX11 (some .int)) (x0 : Nat) (x1 : Int32) (x2 : Int32) (x3 : Int32) (t0 : Nat) (t1 : Int32) (h : hp_H) (hf : f_X11_game_61 x0 x1 x2 x3 t0 t1 h = some o) : wq p l e (mt_R (7) 0 0) s m args below meth c (MQ below (mt_Q G (some (.int o.1)) o.2) args s 0 0 (hp_A G)) G 9 0 0 61 [(0, .ref x0), (1, .int x1), (2, .int x2), (3, .int x3)] [.int t1, .ref t0] h := by
  unfold f_X11_game_61 at hf
  refine wk_iconst X dX11_game_61 ic_2 ?_
  refine wk_callVi X [.int t1, .int 2] [] dX11_game_62 rfl vo_X11_244 rfl (by decide) (Nat.le_of_ble_eq_true rfl) hf (c_X11_right l _ _ _ _) (fun r1 hf => ?_)
  refine wk_if_ne X 70 dX11_game_65 (by decide) hf (fun hf => ?_) (fun hf => ?_)
  · refine wk_iconst X dX11_game_70 ic_0 ?_
    refine wk_istore (lv' := [(4, .int 0), (0, .ref x0), (1, .int x1), (2, .int x2), (3, .int x3)]) X dX11_game_71 (by decide) rfl ?_
    refine wk_iconst X dX11_game_73 ic_m1 ?_
    refine wk_istore (lv' := [(5, .int (-1)), (4, .int 0), (0, .ref x0), (1, .int x1), (2, .int x2), (3, .int x3)]) X dX11_game_74 (by decide) rfl ?_
    refine wk_iconst X dX11_game_76 ic_0 ?_
    refine wk_istore (lv' := [(6, .int 0), (5, .int (-1)), (4, .int 0), (0, .ref x0), (1, .int x1), (2, .int x2), (3, .int x3)]) X dX11_game_77 (by decide) rfl ?_
    exact wq_sub [3, 4, 5, 6, 2, 1, 0] rfl (wl_X11_game_79 X _ _ _ _ _ _ _ _ hf)
  · exact wq_sub [] rfl (w_X11_game_68 X _ hf)
def f_X11_game_60 (x0 : Nat) (x1 : Int32) (x2 : Int32) (x3 : Int32) (t0 : Nat) (h : hp_H) : Option (Int32 × hp_H) := f_X11_game_61 x0 x1 x2 x3 t0 0 h
set_option maxRecDepth 20000 in
theorem w_X11_game_60 (X : wx G p s m args meth c cX11_game 9 RX11 (some .int)) (x0 : Nat) (x1 : Int32) (x2 : Int32) (x3 : Int32) (t0 : Nat) (h : hp_H) (hf : f_X11_game_60 x0 x1 x2 x3 t0 h = some o) : wq p l e (mt_R (7) 0 0) s m args below meth c (MQ below (mt_Q G (some (.int o.1)) o.2) args s 0 0 (hp_A G)) G 9 0 0 60 [(0, .ref x0), (1, .int x1), (2, .int x2), (3, .int x3)] [.ref t0] h := by
  unfold f_X11_game_60 at hf
  refine wk_iconst X dX11_game_60 ic_0 ?_
  exact wq_sub [0, 1, 2, 3] rfl (w_X11_game_61 X _ _ _ _ _ _ _ hf)
end Sf_X11_game
def f_X11_game (x0 : Nat) (x1 : Int32) (x2 : Int32) (x3 : Int32) (h : hp_H) : Option (Int32 × hp_H) := gd h x0 11 ((wr_I h x0 11 0 0).bind fun h1 => (f_X11_isMan x0 x1 h1).bind fun r2 => if r2.1 = 0 then (f_X11_game_68 r2.2) else ((f_X11_isMan x0 x2 r2.2).bind fun r3 => if r3.1 = 0 then (f_X11_game_68 r3.2) else ((f_X11_isWhat x0 x3 1 r3.2).bind fun r4 => if r4.1 = 0 then (f_X11_game_68 r4.2) else (if x1 = x2 then (f_X11_game_60 x0 x1 x2 x3 x0 r4.2) else ((f_X11_rowOf x0 0 x1 r4.2).bind fun r5 => if r5.1 = (-1) then (f_X11_game_60 x0 x1 x2 x3 x0 r5.2) else ((f_X11_rowOf x0 0 x2 r5.2).bind fun r6 => if r6.1 = (-1) then (f_X11_game_60 x0 x1 x2 x3 x0 r6.2) else (f_X11_game_61 x0 x1 x2 x3 x0 1 r6.2)))))))
set_option maxRecDepth 20000 in
theorem c_X11_game (l : Launch) (x0 : Nat) (x1 : Int32) (x2 : Int32) (x3 : Int32) (h : hp_H) (r : Int32 × hp_H) (hf : f_X11_game x0 x1 x2 x3 h = some r) : cv l (7) yX11_game cX11_game 9 (some .int) 11 x0 [.int x1, .int x2, .int x3] h (some (.int r.1)) r.2 := by
  unfold f_X11_game at hf
  refine cv_of (lv := [(0, .ref x0), (1, .int x1), (2, .int x2), (3, .int x3)]) hf (by decide +kernel) (Nat.le_of_ble_eq_true rfl) rfl (fun hf p e s m args below meth c G X => ?_)
  refine wk_aload_n X dX11_game_0 0 rfl ?_
  refine wk_iconst X dX11_game_1 ic_0 ?_
  refine wk_putI X dX11_game_2 fo_X11_84 hf (fun h1 hf => ?_)
  refine wk_aload_n X dX11_game_5 0 rfl ?_
  refine wk_iload_n X dX11_game_6 1 rfl ?_
  refine wk_callVi X [.int x1] [] dX11_game_7 rfl vo_X11_327 rfl (by decide) (Nat.le_of_ble_eq_true rfl) hf (c_X11_isMan l _ _ _) (fun r2 hf => ?_)
  refine wk_if_eq X 68 dX11_game_10 (by decide) hf (fun hf => ?_) (fun hf => ?_)
  · exact wq_sub [] rfl (w_X11_game_68 X _ hf)
  · refine wk_aload_n X dX11_game_13 0 rfl ?_
    refine wk_iload_n X dX11_game_14 2 rfl ?_
    refine wk_callVi X [.int x2] [] dX11_game_15 rfl vo_X11_327 rfl (by decide) (Nat.le_of_ble_eq_true rfl) hf (c_X11_isMan l _ _ _) (fun r3 hf => ?_)
    refine wk_if_eq X 68 dX11_game_18 (by decide) hf (fun hf => ?_) (fun hf => ?_)
    · exact wq_sub [] rfl (w_X11_game_68 X _ hf)
    · refine wk_aload_n X dX11_game_21 0 rfl ?_
      refine wk_iload_n X dX11_game_22 3 rfl ?_
      refine wk_iconst X dX11_game_23 ic_1 ?_
      refine wk_callVi X [.int x3, .int 1] [] dX11_game_24 rfl vo_X11_330 rfl (by decide) (Nat.le_of_ble_eq_true rfl) hf (c_X11_isWhat l _ _ _ _) (fun r4 hf => ?_)
      refine wk_if_eq X 68 dX11_game_27 (by decide) hf (fun hf => ?_) (fun hf => ?_)
      · exact wq_sub [] rfl (w_X11_game_68 X _ hf)
      · refine wk_aload_n X dX11_game_30 0 rfl ?_
        refine wk_iload_n X dX11_game_31 1 rfl ?_
        refine wk_iload_n X dX11_game_32 2 rfl ?_
        refine wk_icmp_eq X 60 dX11_game_33 (by decide) hf (fun hf => ?_) (fun hf => ?_)
        · exact wq_sub [0, 1, 2, 3] rfl (w_X11_game_60 X _ _ _ _ _ _ hf)
        · refine wk_aload_n X dX11_game_36 0 rfl ?_
          refine wk_iconst X dX11_game_37 ic_0 ?_
          refine wk_iload_n X dX11_game_38 1 rfl ?_
          refine wk_callVi X [.int 0, .int x1] [.ref x0] dX11_game_39 rfl vo_X11_311 rfl (by decide) (Nat.le_of_ble_eq_true rfl) hf (c_X11_rowOf l _ _ _ _) (fun r5 hf => ?_)
          refine wk_iconst X dX11_game_42 ic_m1 ?_
          refine wk_icmp_eq X 60 dX11_game_43 (by decide) hf (fun hf => ?_) (fun hf => ?_)
          · exact wq_sub [0, 1, 2, 3] rfl (w_X11_game_60 X _ _ _ _ _ _ hf)
          · refine wk_aload_n X dX11_game_46 0 rfl ?_
            refine wk_iconst X dX11_game_47 ic_0 ?_
            refine wk_iload_n X dX11_game_48 2 rfl ?_
            refine wk_callVi X [.int 0, .int x2] [.ref x0] dX11_game_49 rfl vo_X11_311 rfl (by decide) (Nat.le_of_ble_eq_true rfl) hf (c_X11_rowOf l _ _ _ _) (fun r6 hf => ?_)
            refine wk_iconst X dX11_game_52 ic_m1 ?_
            refine wk_icmp_eq X 60 dX11_game_53 (by decide) hf (fun hf => ?_) (fun hf => ?_)
            · exact wq_sub [0, 1, 2, 3] rfl (w_X11_game_60 X _ _ _ _ _ _ hf)
            · refine wk_iconst X dX11_game_56 ic_1 ?_
              refine wk_goto X 61 dX11_game_57 (by decide) ?_
              exact wq_sub [0, 1, 2, 3] rfl (w_X11_game_61 X _ _ _ _ _ _ _ hf)
section Sf_X11_draw
variable {p : Program} {l : Launch} {e : Env} {s : State} {m : MethodId} {args : Array Value} {below : List Frame} {meth : Method} {c : Code} {G : hp_G} {o : Int32 × hp_H}
end Sf_X11_draw
def f_X11_draw (x0 : Nat) (x1 : Int32) (h : hp_H) : Option (Int32 × hp_H) := gd h x0 11 ((rd_I h x0 11 48).bind fun v1 => (wr_I h x0 11 48 ((v1 * 1103515245) + 12345)).bind fun h2 => (rd_I h2 x0 11 48).bind fun v3 => (hp_rem ((v3 >>> (16 &&& 31)) &&& (32767 : Int32)) x1).bind fun v4 => some (v4, h2))
set_option maxRecDepth 20000 in
theorem c_X11_draw (l : Launch) (x0 : Nat) (x1 : Int32) (h : hp_H) (r : Int32 × hp_H) (hf : f_X11_draw x0 x1 h = some r) : cv l (1) yX11_draw cX11_draw 2 (some .int) 11 x0 [.int x1] h (some (.int r.1)) r.2 := by
  unfold f_X11_draw at hf
  refine cv_of (lv := [(0, .ref x0), (1, .int x1)]) hf (by decide +kernel) (Nat.le_of_ble_eq_true rfl) rfl (fun hf p e s m args below meth c G X => ?_)
  refine wk_aload_n X dX11_draw_0 0 rfl ?_
  refine wk_aload_n X dX11_draw_1 0 rfl ?_
  refine wk_getI X dX11_draw_2 fo_X11_385 hf (fun v1 hf => ?_)
  refine wk_ldcw X dX11_draw_5 mt_X11_388 ?_
  refine wk_imul X dX11_draw_8 ?_
  refine wk_sipush X dX11_draw_9 is_12345 ?_
  refine wk_iadd X dX11_draw_12 ?_
  refine wk_putI X dX11_draw_13 fo_X11_385 hf (fun h2 hf => ?_)
  refine wk_aload_n X dX11_draw_16 0 rfl ?_
  refine wk_getI X dX11_draw_17 fo_X11_385 hf (fun v3 hf => ?_)
  refine wk_bipush X dX11_draw_20 ib_16 ?_
  refine wk_ishr X dX11_draw_22 ?_
  refine wk_sipush X dX11_draw_23 is_32767 ?_
  refine wk_iand X dX11_draw_26 ?_
  refine wk_iload_n X dX11_draw_27 1 rfl ?_
  refine wk_irem X dX11_draw_28 hf (fun v4 hf => ?_)
  exact wk_ireturn X dX11_draw_29 hf
section Sf_X11_happens
variable {p : Program} {l : Launch} {e : Env} {s : State} {m : MethodId} {args : Array Value} {below : List Frame} {meth : Method} {c : Code} {G : hp_G} {o : hp_H}
def f_X11_happens_66  (h : hp_H) : Option (hp_H) := some h
set_option maxRecDepth 20000 in
theorem w_X11_happens_66 (X : wx G p s m args meth c cX11_happens 3 RX11 none)  (h : hp_H) (hf : f_X11_happens_66 h = some o) : wq p l e (mt_R (2) 0 0) s m args below meth c (MQ below (mt_Q G none o) args s 0 0 (hp_A G)) G 3 0 0 66 [] [] h := by
  unfold f_X11_happens_66 at hf
  exact wk_return X dX11_happens_66 hf
end Sf_X11_happens
def f_X11_happens (x0 : Nat) (h : hp_H) : Option (hp_H) := gd h x0 11 ((rd_I h x0 11 2).bind fun v1 => (f_X11_draw x0 v1 h).bind fun r2 => (f_X11_draw x0 3 r2.2).bind fun r3 => if r3.1 = 0 then ((rd_R r3.2 x0 11 36).bind fun v7 => (rd_A r3.2 0 v7 (34 + r2.1)).bind fun v8 => (rd_I r3.2 x0 11 1).bind fun v9 => (f_X11_draw x0 v9 r3.2).bind fun r10 => (wr_A r10.2 v7 (34 + r2.1) (v8 ^^^ (1 <<< (r10.1 &&& 31)))).bind fun h11 => f_X11_happens_66 h11) else (if r3.1 = 1 then ((rd_R r3.2 x0 11 36).bind fun v4 => (f_X11_draw x0 9 r3.2).bind fun r5 => (wr_A r5.2 v4 (42 + r2.1) (r5.1 + 1)).bind fun h6 => f_X11_happens_66 h6) else (f_X11_happens_66 r3.2)))
set_option maxRecDepth 20000 in
theorem c_X11_happens (l : Launch) (x0 : Nat) (h : hp_H) (r : hp_H) (hf : f_X11_happens x0 h = some r) : cv l (2) yX11_happens cX11_happens 3 none 11 x0 [] h none r := by
  unfold f_X11_happens at hf
  refine cv_of (lv := [(0, .ref x0)]) hf (by decide +kernel) (Nat.le_of_ble_eq_true rfl) rfl (fun hf p e s m args below meth c G X => ?_)
  refine wk_aload_n X dX11_happens_0 0 rfl ?_
  refine wk_aload_n X dX11_happens_1 0 rfl ?_
  refine wk_getI X dX11_happens_2 fo_X11_251 hf (fun v1 hf => ?_)
  refine wk_callVi X [.int v1] [] dX11_happens_5 rfl vo_X11_389 rfl (by decide) (Nat.le_of_ble_eq_true rfl) hf (c_X11_draw l _ _ _) (fun r2 hf => ?_)
  refine wk_istore_n (lv' := [(1, .int r2.1), (0, .ref x0)]) X dX11_happens_8 (by decide) rfl ?_
  refine wk_aload_n X dX11_happens_9 1 rfl ?_
  refine wk_iconst X dX11_happens_10 ic_3 ?_
  refine wk_callVi X [.int 3] [] dX11_happens_11 rfl vo_X11_389 rfl (by decide) (Nat.le_of_ble_eq_true rfl) hf (c_X11_draw l _ _ _) (fun r3 hf => ?_)
  refine wk_istore_n (lv' := [(2, .int r3.1), (1, .int r2.1), (0, .ref x0)]) X dX11_happens_14 (by decide) rfl ?_
  refine wk_iload_n X dX11_happens_15 0 rfl ?_
  refine wk_if_ne X 44 dX11_happens_16 (by decide) hf (fun hf => ?_) (fun hf => ?_)
  · refine wk_iload_n X dX11_happens_44 0 rfl ?_
    refine wk_iconst X dX11_happens_45 ic_1 ?_
    refine wk_icmp_ne X 66 dX11_happens_46 (by decide) hf (fun hf => ?_) (fun hf => ?_)
    · exact wq_sub [] rfl (w_X11_happens_66 X _ hf)
    · refine wk_aload_n X dX11_happens_49 2 rfl ?_
      refine wk_getR X dX11_happens_50 fo_X11_51 hf (fun v4 hf => ?_)
      refine wk_bipush X dX11_happens_53 ib_42 ?_
      refine wk_iload_n X dX11_happens_55 1 rfl ?_
      refine wk_iadd X dX11_happens_56 ?_
      refine wk_aload_n X dX11_happens_57 2 rfl ?_
      refine wk_bipush X dX11_happens_58 ib_9 ?_
      refine wk_callVi X [.int 9] [.int (42 + r2.1), .ref v4] dX11_happens_60 rfl vo_X11_389 rfl (by decide) (Nat.le_of_ble_eq_true rfl) hf (c_X11_draw l _ _ _) (fun r5 hf => ?_)
      refine wk_iconst X dX11_happens_63 ic_1 ?_
      refine wk_iadd X dX11_happens_64 ?_
      refine wk_iast X dX11_happens_65 hf (fun h6 hf => ?_)
      exact wq_sub [] rfl (w_X11_happens_66 X _ hf)
  · refine wk_aload_n X dX11_happens_19 2 rfl ?_
    refine wk_getR X dX11_happens_20 fo_X11_51 hf (fun v7 hf => ?_)
    refine wk_bipush X dX11_happens_23 ib_34 ?_
    refine wk_iload_n X dX11_happens_25 1 rfl ?_
    refine wk_iadd X dX11_happens_26 ?_
    refine wk_dup2 X dX11_happens_27 rfl rfl ?_
    refine wk_iald X dX11_happens_28 hf (fun v8 hf => ?_)
    refine wk_iconst X dX11_happens_29 ic_1 ?_
    refine wk_aload_n X dX11_happens_30 2 rfl ?_
    refine wk_aload_n X dX11_happens_31 2 rfl ?_
    refine wk_getI X dX11_happens_32 fo_X11_7 hf (fun v9 hf => ?_)
    refine wk_callVi X [.int v9] [.int 1, .int v8, .int (34 + r2.1), .ref v7] dX11_happens_35 rfl vo_X11_389 rfl (by decide) (Nat.le_of_ble_eq_true rfl) hf (c_X11_draw l _ _ _) (fun r10 hf => ?_)
    refine wk_ishl X dX11_happens_38 ?_
    refine wk_ixor X dX11_happens_39 ?_
    refine wk_iast X dX11_happens_40 hf (fun h11 hf => ?_)
    refine wk_goto X 66 dX11_happens_41 (by decide) ?_
    exact wq_sub [] rfl (w_X11_happens_66 X _ hf)
section Sf_X11_reviews
variable {p : Program} {l : Launch} {e : Env} {s : State} {m : MethodId} {args : Array Value} {below : List Frame} {meth : Method} {c : Code} {G : hp_G} {o : Int32 × hp_H}
def f_X11_reviews_24  (h : hp_H) : Option (Int32 × hp_H) := some (0, h)
set_option maxRecDepth 20000 in
theorem w_X11_reviews_24 (X : wx G p s m args meth c cX11_reviews 7 RX11 (some .int))  (h : hp_H) (hf : f_X11_reviews_24 h = some o) : wq p l e (mt_R (6) 0 0) s m args below meth c (MQ below (mt_Q G (some (.int o.1)) o.2) args s 0 0 (hp_A G)) G 7 0 0 24 [] [] h := by
  unfold f_X11_reviews_24 at hf
  refine wk_iconst X dX11_reviews_24 ic_0 ?_
  exact wk_ireturn X dX11_reviews_25 hf
def f_X11_reviews_176 (t0 : Int32) (h : hp_H) : Option (Int32 × hp_H) := some (t0, h)
set_option maxRecDepth 20000 in
theorem w_X11_reviews_176 (X : wx G p s m args meth c cX11_reviews 7 RX11 (some .int)) (t0 : Int32) (h : hp_H) (hf : f_X11_reviews_176 t0 h = some o) : wq p l e (mt_R (6) 0 0) s m args below meth c (MQ below (mt_Q G (some (.int o.1)) o.2) args s 0 0 (hp_A G)) G 7 0 0 176 [] [.int t0] h := by
  unfold f_X11_reviews_176 at hf
  exact wk_ireturn X dX11_reviews_176 hf
def f_X11_reviews_151 (x0 : Nat) (x3 : Int32) (x4 : Int32) (x5 : Int32) (h : hp_H) : Option (Int32 × hp_H) := if x3 = 0 then ((f_X11_honourOf x0 33 h).bind fun r1 => f_X11_reviews_176 r1.1 r1.2) else (if x3 = 1 then (f_X11_reviews_176 x4 h) else (f_X11_reviews_176 x5 h))
set_option maxRecDepth 20000 in
theorem w_X11_reviews_151 (X : wx G p s m args meth c cX11_reviews 7 RX11 (some .int)) (x0 : Nat) (x3 : Int32) (x4 : Int32) (x5 : Int32) (h : hp_H) (hf : f_X11_reviews_151 x0 x3 x4 x5 h = some o) : wq p l e (mt_R (6) 0 0) s m args below meth c (MQ below (mt_Q G (some (.int o.1)) o.2) args s 0 0 (hp_A G)) G 7 0 0 151 [(0, .ref x0), (3, .int x3), (4, .int x4), (5, .int x5)] [] h := by
  unfold f_X11_reviews_151 at hf
  refine wk_iload_n X dX11_reviews_151 1 rfl ?_
  refine wk_if_ne X 164 dX11_reviews_152 (by decide) hf (fun hf => ?_) (fun hf => ?_)
  · refine wk_iload_n X dX11_reviews_164 1 rfl ?_
    refine wk_iconst X dX11_reviews_165 ic_1 ?_
    refine wk_icmp_ne X 174 dX11_reviews_166 (by decide) hf (fun hf => ?_) (fun hf => ?_)
    · refine wk_iload X dX11_reviews_174 3 rfl ?_
      exact wq_sub [] rfl (w_X11_reviews_176 X _ _ hf)
    · refine wk_iload X dX11_reviews_169 2 rfl ?_
      refine wk_goto X 176 dX11_reviews_171 (by decide) ?_
      exact wq_sub [] rfl (w_X11_reviews_176 X _ _ hf)
  · refine wk_aload_n X dX11_reviews_155 0 rfl ?_
    refine wk_bipush X dX11_reviews_156 ib_33 ?_
    refine wk_callVi X [.int 33] [] dX11_reviews_158 rfl vo_X11_318 rfl (by decide) (Nat.le_of_ble_eq_true rfl) hf (c_X11_honourOf l _ _ _) (fun r1 hf => ?_)
    refine wk_goto X 176 dX11_reviews_161 (by decide) ?_
    exact wq_sub [] rfl (w_X11_reviews_176 X _ _ hf)
def f_X11_reviews_145 (k103 : Nat → Int32 → Int32 → Int32 → Int32 → hp_H → Option (Int32 × hp_H)) (x0 : Nat) (x3 : Int32) (x4 : Int32) (x5 : Int32) (x6 : Int32) (h : hp_H) : Option (Int32 × hp_H) := k103 x0 x3 x4 x5 (x6 + 1) h
set_option maxRecDepth 20000 in
theorem w_X11_reviews_145 (X : wx G p s m args meth c cX11_reviews 7 RX11 (some .int)) (k103 : Nat → Int32 → Int32 → Int32 → Int32 → hp_H → Option (Int32 × hp_H)) (hk103 : ∀ (x0 : Nat) (x3 : Int32) (x4 : Int32) (x5 : Int32) (x6 : Int32) (h : hp_H), k103 x0 x3 x4 x5 x6 h = some o → wq p l e (mt_R (6) 0 0) s m args below meth c (MQ below (mt_Q G (some (.int o.1)) o.2) args s 0 0 (hp_A G)) G 7 0 0 103 [(0, .ref x0), (3, .int x3), (4, .int x4), (5, .int x5), (6, .int x6)] [] h) (x0 : Nat) (x3 : Int32) (x4 : Int32) (x5 : Int32) (x6 : Int32) (h : hp_H) (hf : f_X11_reviews_145 k103 x0 x3 x4 x5 x6 h = some o) : wq p l e (mt_R (6) 0 0) s m args below meth c (MQ below (mt_Q G (some (.int o.1)) o.2) args s 0 0 (hp_A G)) G 7 0 0 145 [(0, .ref x0), (3, .int x3), (4, .int x4), (5, .int x5), (6, .int x6)] [] h := by
  unfold f_X11_reviews_145 at hf
  refine wk_iinc (lv' := [(6, .int (x6 + 1)), (0, .ref x0), (3, .int x3), (4, .int x4), (5, .int x5)]) X dX11_reviews_145 4 rfl ic_1 (by decide) rfl ?_
  refine wk_goto X 103 dX11_reviews_148 (by decide) ?_
  exact wq_sub [1, 2, 3, 4, 0] rfl (hk103 _ _ _ _ _ _ hf)
def f_X11_reviews_141 (k103 : Nat → Int32 → Int32 → Int32 → Int32 → hp_H → Option (Int32 × hp_H)) (x0 : Nat) (x3 : Int32) (x4 : Int32) (x6 : Int32) (h : hp_H) : Option (Int32 × hp_H) := f_X11_reviews_145 k103 x0 x3 x4 x6 x6 h
set_option maxRecDepth 20000 in
theorem w_X11_reviews_141 (X : wx G p s m args meth c cX11_reviews 7 RX11 (some .int)) (k103 : Nat → Int32 → Int32 → Int32 → Int32 → hp_H → Option (Int32 × hp_H)) (hk103 : ∀ (x0 : Nat) (x3 : Int32) (x4 : Int32) (x5 : Int32) (x6 : Int32) (h : hp_H), k103 x0 x3 x4 x5 x6 h = some o → wq p l e (mt_R (6) 0 0) s m args below meth c (MQ below (mt_Q G (some (.int o.1)) o.2) args s 0 0 (hp_A G)) G 7 0 0 103 [(0, .ref x0), (3, .int x3), (4, .int x4), (5, .int x5), (6, .int x6)] [] h) (x0 : Nat) (x3 : Int32) (x4 : Int32) (x6 : Int32) (h : hp_H) (hf : f_X11_reviews_141 k103 x0 x3 x4 x6 h = some o) : wq p l e (mt_R (6) 0 0) s m args below meth c (MQ below (mt_Q G (some (.int o.1)) o.2) args s 0 0 (hp_A G)) G 7 0 0 141 [(0, .ref x0), (3, .int x3), (4, .int x4), (6, .int x6)] [] h := by
  unfold f_X11_reviews_141 at hf
  refine wk_iload X dX11_reviews_141 3 rfl ?_
  refine wk_istore (lv' := [(5, .int x6), (0, .ref x0), (3, .int x3), (4, .int x4), (6, .int x6)]) X dX11_reviews_143 (by decide) rfl ?_
  exact wq_sub [1, 2, 3, 0, 4] rfl (w_X11_reviews_145 X k103 hk103 _ _ _ _ _ _ hf)
def f_X11_reviews_103 (k103 : Nat → Int32 → Int32 → Int32 → Int32 → hp_H → Option (Int32 × hp_H)) (x0 : Nat) (x3 : Int32) (x4 : Int32) (x5 : Int32) (x6 : Int32) (h : hp_H) : Option (Int32 × hp_H) := (rd_I h x0 11 2).bind fun v1 => if v1 ≤ x6 then (f_X11_reviews_151 x0 x3 x4 x5 h) else (if x5 = (-1) then (f_X11_reviews_141 k103 x0 x3 x4 x6 h) else ((rd_R h x0 11 36).bind fun v2 => (rd_A h 0 v2 (50 + x6)).bind fun v3 => (rd_R h x0 11 36).bind fun v4 => (rd_A h 0 v4 (50 + x5)).bind fun v5 => if v3 ≤ v5 then (f_X11_reviews_145 k103 x0 x3 x4 x5 x6 h) else (f_X11_reviews_141 k103 x0 x3 x4 x6 h)))
set_option maxRecDepth 20000 in
theorem w_X11_reviews_103 (X : wx G p s m args meth c cX11_reviews 7 RX11 (some .int)) (k103 : Nat → Int32 → Int32 → Int32 → Int32 → hp_H → Option (Int32 × hp_H)) (hk103 : ∀ (x0 : Nat) (x3 : Int32) (x4 : Int32) (x5 : Int32) (x6 : Int32) (h : hp_H), k103 x0 x3 x4 x5 x6 h = some o → wq p l e (mt_R (6) 0 0) s m args below meth c (MQ below (mt_Q G (some (.int o.1)) o.2) args s 0 0 (hp_A G)) G 7 0 0 103 [(0, .ref x0), (3, .int x3), (4, .int x4), (5, .int x5), (6, .int x6)] [] h) (x0 : Nat) (x3 : Int32) (x4 : Int32) (x5 : Int32) (x6 : Int32) (h : hp_H) (hf : f_X11_reviews_103 k103 x0 x3 x4 x5 x6 h = some o) : wq p l e (mt_R (6) 0 0) s m args below meth c (MQ below (mt_Q G (some (.int o.1)) o.2) args s 0 0 (hp_A G)) G 7 0 0 103 [(0, .ref x0), (3, .int x3), (4, .int x4), (5, .int x5), (6, .int x6)] [] h := by
  unfold f_X11_reviews_103 at hf
  refine wk_iload X dX11_reviews_103 4 rfl ?_
  refine wk_aload_n X dX11_reviews_105 0 rfl ?_
  refine wk_getI X dX11_reviews_106 fo_X11_251 hf (fun v1 hf => ?_)
  refine wk_icmp_ge X 151 dX11_reviews_109 (by decide) hf (fun hf => ?_) (fun hf => ?_)
  · exact wq_sub [0, 1, 2, 3] rfl (w_X11_reviews_151 X _ _ _ _ _ hf)
  · refine wk_iload X dX11_reviews_112 3 rfl ?_
    refine wk_iconst X dX11_reviews_114 ic_m1 ?_
    refine wk_icmp_eq X 141 dX11_reviews_115 (by decide) hf (fun hf => ?_) (fun hf => ?_)
    · exact wq_sub [0, 1, 2, 4] rfl (w_X11_reviews_141 X k103 hk103 _ _ _ _ _ hf)
    · refine wk_aload_n X dX11_reviews_118 0 rfl ?_
      refine wk_getR X dX11_reviews_119 fo_X11_51 hf (fun v2 hf => ?_)
      refine wk_bipush X dX11_reviews_122 ib_50 ?_
      refine wk_iload X dX11_reviews_124 4 rfl ?_
      refine wk_iadd X dX11_reviews_126 ?_
      refine wk_iald X dX11_reviews_127 hf (fun v3 hf => ?_)
      refine wk_aload_n X dX11_reviews_128 0 rfl ?_
      refine wk_getR X dX11_reviews_129 fo_X11_51 hf (fun v4 hf => ?_)
      refine wk_bipush X dX11_reviews_132 ib_50 ?_
      refine wk_iload X dX11_reviews_134 3 rfl ?_
      refine wk_iadd X dX11_reviews_136 ?_
      refine wk_iald X dX11_reviews_137 hf (fun v5 hf => ?_)
      refine wk_icmp_le X 145 dX11_reviews_138 (by decide) hf (fun hf => ?_) (fun hf => ?_)
      · exact wq_sub [0, 1, 2, 3, 4] rfl (w_X11_reviews_145 X k103 hk103 _ _ _ _ _ _ hf)
      · exact wq_sub [0, 1, 2, 4] rfl (w_X11_reviews_141 X k103 hk103 _ _ _ _ _ hf)
def l_X11_reviews_103 (x0 : Nat) (x3 : Int32) (x4 : Int32) (x5 : Int32) (x6 : Int32) (h : hp_H) : Option (Int32 × hp_H) := lp (fun k (s : Nat × Int32 × Int32 × Int32 × Int32 × hp_H) => f_X11_reviews_103  (fun a0 a1 a2 a3 a4 a5 => k (a0, a1, a2, a3, a4, a5)) s.1 s.2.1 s.2.2.1 s.2.2.2.1 s.2.2.2.2.1 s.2.2.2.2.2) 100000 (x0, x3, x4, x5, x6, h)
theorem wl_X11_reviews_103 (X : wx G p s m args meth c cX11_reviews 7 RX11 (some .int)) (x0 : Nat) (x3 : Int32) (x4 : Int32) (x5 : Int32) (x6 : Int32) (h : hp_H) (hf : l_X11_reviews_103 x0 x3 x4 x5 x6 h = some o) : wq p l e (mt_R (6) 0 0) s m args below meth c (MQ below (mt_Q G (some (.int o.1)) o.2) args s 0 0 (hp_A G)) G 7 0 0 103 [(0, .ref x0), (3, .int x3), (4, .int x4), (5, .int x5), (6, .int x6)] [] h :=
  lp_ind (P := fun (s_ : Nat × Int32 × Int32 × Int32 × Int32 × hp_H) => wq p l e (mt_R (6) 0 0) s m args below meth c (MQ below (mt_Q G (some (.int o.1)) o.2) args s 0 0 (hp_A G)) G 7 0 0 103 [(0, .ref s_.1), (3, .int s_.2.1), (4, .int s_.2.2.1), (5, .int s_.2.2.2.1), (6, .int s_.2.2.2.2.1)] [] s_.2.2.2.2.2) (fun k s hk hf => w_X11_reviews_103 X  (fun a0 a1 a2 a3 a4 a5 => k (a0, a1, a2, a3, a4, a5)) (fun a0 a1 a2 a3 a4 a5 hf => hk (a0, a1, a2, a3, a4, a5) hf) s.1 s.2.1 s.2.2.1 s.2.2.2.1 s.2.2.2.2.1 s.2.2.2.2.2 hf) 100000 (x0, x3, x4, x5, x6, h) hf
def f_X11_reviews_92 (x0 : Nat) (x3 : Int32) (x4 : Int32) (h : hp_H) : Option (Int32 × hp_H) := (wr_I h x0 11 41 (-1)).bind fun h1 => l_X11_reviews_103 x0 x3 x4 (-1) 0 h1
set_option maxRecDepth 20000 in
theorem w_X11_reviews_92 (X : wx G p s m args meth c cX11_reviews 7 RX11 (some .int)) (x0 : Nat) (x3 : Int32) (x4 : Int32) (h : hp_H) (hf : f_X11_reviews_92 x0 x3 x4 h = some o) : wq p l e (mt_R (6) 0 0) s m args below meth c (MQ below (mt_Q G (some (.int o.1)) o.2) args s 0 0 (hp_A G)) G 7 0 0 92 [(0, .ref x0), (3, .int x3), (4, .int x4)] [] h := by
  unfold f_X11_reviews_92 at hf
  refine wk_aload_n X dX11_reviews_92 0 rfl ?_
  refine wk_iconst X dX11_reviews_93 ic_m1 ?_
  refine wk_putI X dX11_reviews_94 fo_X11_63 hf (fun h1 hf => ?_)
  refine wk_iconst X dX11_reviews_97 ic_m1 ?_
  refine wk_istore (lv' := [(5, .int (-1)), (0, .ref x0), (3, .int x3), (4, .int x4)]) X dX11_reviews_98 (by decide) rfl ?_
  refine wk_iconst X dX11_reviews_100 ic_0 ?_
  refine wk_istore (lv' := [(6, .int 0), (5, .int (-1)), (0, .ref x0), (3, .int x3), (4, .int x4)]) X dX11_reviews_101 (by decide) rfl ?_
  exact wq_sub [2, 3, 4, 1, 0] rfl (wl_X11_reviews_103 X _ _ _ _ _ _ hf)
def f_X11_reviews_58 (k41 : Nat → Int32 → Int32 → Int32 → Int32 → hp_H → Option (Int32 × hp_H)) (x0 : Nat) (x2 : Int32) (x3 : Int32) (x4 : Int32) (x5 : Int32) (h : hp_H) : Option (Int32 × hp_H) := (f_X11_draw x0 10 h).bind fun r1 => (wr_I r1.2 x0 11 41 r1.1).bind fun h2 => (f_X11_nightGoes x0 33 h2).bind fun r3 => (rd_I r3 x0 11 43).bind fun v4 => (f_X11_bits v4 r3).bind fun r5 => k41 x0 x2 x3 (x4 + r5.1) (x5 + 1) r5.2
set_option maxRecDepth 20000 in
theorem w_X11_reviews_58 (X : wx G p s m args meth c cX11_reviews 7 RX11 (some .int)) (k41 : Nat → Int32 → Int32 → Int32 → Int32 → hp_H → Option (Int32 × hp_H)) (hk41 : ∀ (x0 : Nat) (x2 : Int32) (x3 : Int32) (x4 : Int32) (x5 : Int32) (h : hp_H), k41 x0 x2 x3 x4 x5 h = some o → wq p l e (mt_R (6) 0 0) s m args below meth c (MQ below (mt_Q G (some (.int o.1)) o.2) args s 0 0 (hp_A G)) G 7 0 0 41 [(0, .ref x0), (2, .int x2), (3, .int x3), (4, .int x4), (5, .int x5)] [] h) (x0 : Nat) (x2 : Int32) (x3 : Int32) (x4 : Int32) (x5 : Int32) (h : hp_H) (hf : f_X11_reviews_58 k41 x0 x2 x3 x4 x5 h = some o) : wq p l e (mt_R (6) 0 0) s m args below meth c (MQ below (mt_Q G (some (.int o.1)) o.2) args s 0 0 (hp_A G)) G 7 0 0 58 [(0, .ref x0), (2, .int x2), (3, .int x3), (4, .int x4), (5, .int x5)] [] h := by
  unfold f_X11_reviews_58 at hf
  refine wk_aload_n X dX11_reviews_58 0 rfl ?_
  refine wk_aload_n X dX11_reviews_59 0 rfl ?_
  refine wk_bipush X dX11_reviews_60 ib_10 ?_
  refine wk_callVi X [.int 10] [.ref x0] dX11_reviews_62 rfl vo_X11_389 rfl (by decide) (Nat.le_of_ble_eq_true rfl) hf (c_X11_draw l _ _ _) (fun r1 hf => ?_)
  refine wk_putI X dX11_reviews_65 fo_X11_63 hf (fun h2 hf => ?_)
  refine wk_aload_n X dX11_reviews_68 0 rfl ?_
  refine wk_bipush X dX11_reviews_69 ib_33 ?_
  refine wk_callVv X [.int 33] [] dX11_reviews_71 rfl vo_X11_308 rfl (by decide) (Nat.le_of_ble_eq_true rfl) hf (c_X11_nightGoes l _ _ _) (fun r3 hf => ?_)
  refine wk_iload X dX11_reviews_74 3 rfl ?_
  refine wk_aload_n X dX11_reviews_76 0 rfl ?_
  refine wk_getI X dX11_reviews_77 fo_X11_299 hf (fun v4 hf => ?_)
  refine wk_callSi X [.int v4] [.int x4] dX11_reviews_80 rfl vo_X11_284 rfl (by decide) (Nat.le_of_ble_eq_true rfl) hf (c_X11_bits l _ _) (fun r5 hf => ?_)
  refine wk_iadd X dX11_reviews_83 ?_
  refine wk_istore (lv' := [(4, .int (x4 + r5.1)), (0, .ref x0), (2, .int x2), (3, .int x3), (5, .int x5)]) X dX11_reviews_84 (by decide) rfl ?_
  refine wk_iinc (lv' := [(5, .int (x5 + 1)), (4, .int (x4 + r5.1)), (0, .ref x0), (2, .int x2), (3, .int x3)]) X dX11_reviews_86 4 rfl ic_1 (by decide) rfl ?_
  refine wk_goto X 41 dX11_reviews_89 (by decide) ?_
  exact wq_sub [2, 3, 4, 1, 0] rfl (hk41 _ _ _ _ _ _ hf)
def f_X11_reviews_41 (k41 : Nat → Int32 → Int32 → Int32 → Int32 → hp_H → Option (Int32 × hp_H)) (x0 : Nat) (x2 : Int32) (x3 : Int32) (x4 : Int32) (x5 : Int32) (h : hp_H) : Option (Int32 × hp_H) := if x2 ≤ x5 then (f_X11_reviews_92 x0 x3 x4 h) else ((rd_I h x0 11 2).bind fun v1 => if v1 ≤ 0 then (f_X11_reviews_58 k41 x0 x2 x3 x4 x5 h) else ((f_X11_happens x0 h).bind fun r2 => f_X11_reviews_58 k41 x0 x2 x3 x4 x5 r2))
set_option maxRecDepth 20000 in
theorem w_X11_reviews_41 (X : wx G p s m args meth c cX11_reviews 7 RX11 (some .int)) (k41 : Nat → Int32 → Int32 → Int32 → Int32 → hp_H → Option (Int32 × hp_H)) (hk41 : ∀ (x0 : Nat) (x2 : Int32) (x3 : Int32) (x4 : Int32) (x5 : Int32) (h : hp_H), k41 x0 x2 x3 x4 x5 h = some o → wq p l e (mt_R (6) 0 0) s m args below meth c (MQ below (mt_Q G (some (.int o.1)) o.2) args s 0 0 (hp_A G)) G 7 0 0 41 [(0, .ref x0), (2, .int x2), (3, .int x3), (4, .int x4), (5, .int x5)] [] h) (x0 : Nat) (x2 : Int32) (x3 : Int32) (x4 : Int32) (x5 : Int32) (h : hp_H) (hf : f_X11_reviews_41 k41 x0 x2 x3 x4 x5 h = some o) : wq p l e (mt_R (6) 0 0) s m args below meth c (MQ below (mt_Q G (some (.int o.1)) o.2) args s 0 0 (hp_A G)) G 7 0 0 41 [(0, .ref x0), (2, .int x2), (3, .int x3), (4, .int x4), (5, .int x5)] [] h := by
  unfold f_X11_reviews_41 at hf
  refine wk_iload X dX11_reviews_41 4 rfl ?_
  refine wk_iload_n X dX11_reviews_43 1 rfl ?_
  refine wk_icmp_ge X 92 dX11_reviews_44 (by decide) hf (fun hf => ?_) (fun hf => ?_)
  · exact wq_sub [0, 2, 3] rfl (w_X11_reviews_92 X _ _ _ _ hf)
  · refine wk_aload_n X dX11_reviews_47 0 rfl ?_
    refine wk_getI X dX11_reviews_48 fo_X11_251 hf (fun v1 hf => ?_)
    refine wk_if_le X 58 dX11_reviews_51 (by decide) hf (fun hf => ?_) (fun hf => ?_)
    · exact wq_sub [0, 1, 2, 3, 4] rfl (w_X11_reviews_58 X k41 hk41 _ _ _ _ _ _ hf)
    · refine wk_aload_n X dX11_reviews_54 0 rfl ?_
      refine wk_callVv X [] [] dX11_reviews_55 rfl vo_X11_392 rfl (by decide) (Nat.le_of_ble_eq_true rfl) hf (c_X11_happens l _ _) (fun r2 hf => ?_)
      exact wq_sub [0, 1, 2, 3, 4] rfl (w_X11_reviews_58 X k41 hk41 _ _ _ _ _ _ hf)
def l_X11_reviews_41 (x0 : Nat) (x2 : Int32) (x3 : Int32) (x4 : Int32) (x5 : Int32) (h : hp_H) : Option (Int32 × hp_H) := lp (fun k (s : Nat × Int32 × Int32 × Int32 × Int32 × hp_H) => f_X11_reviews_41  (fun a0 a1 a2 a3 a4 a5 => k (a0, a1, a2, a3, a4, a5)) s.1 s.2.1 s.2.2.1 s.2.2.2.1 s.2.2.2.2.1 s.2.2.2.2.2) 100000 (x0, x2, x3, x4, x5, h)
theorem wl_X11_reviews_41 (X : wx G p s m args meth c cX11_reviews 7 RX11 (some .int)) (x0 : Nat) (x2 : Int32) (x3 : Int32) (x4 : Int32) (x5 : Int32) (h : hp_H) (hf : l_X11_reviews_41 x0 x2 x3 x4 x5 h = some o) : wq p l e (mt_R (6) 0 0) s m args below meth c (MQ below (mt_Q G (some (.int o.1)) o.2) args s 0 0 (hp_A G)) G 7 0 0 41 [(0, .ref x0), (2, .int x2), (3, .int x3), (4, .int x4), (5, .int x5)] [] h :=
  lp_ind (P := fun (s_ : Nat × Int32 × Int32 × Int32 × Int32 × hp_H) => wq p l e (mt_R (6) 0 0) s m args below meth c (MQ below (mt_Q G (some (.int o.1)) o.2) args s 0 0 (hp_A G)) G 7 0 0 41 [(0, .ref s_.1), (2, .int s_.2.1), (3, .int s_.2.2.1), (4, .int s_.2.2.2.1), (5, .int s_.2.2.2.2.1)] [] s_.2.2.2.2.2) (fun k s hk hf => w_X11_reviews_41 X  (fun a0 a1 a2 a3 a4 a5 => k (a0, a1, a2, a3, a4, a5)) (fun a0 a1 a2 a3 a4 a5 hf => hk (a0, a1, a2, a3, a4, a5) hf) s.1 s.2.1 s.2.2.1 s.2.2.2.1 s.2.2.2.2.1 s.2.2.2.2.2 hf) 100000 (x0, x2, x3, x4, x5, h) hf
end Sf_X11_reviews
def f_X11_reviews (x0 : Nat) (x1 : Int32) (x2 : Int32) (x3 : Int32) (h : hp_H) : Option (Int32 × hp_H) := gd h x0 11 ((wr_I h x0 11 0 0).bind fun h1 => (f_X11_isWhat x0 x3 2 h1).bind fun r2 => if r2.1 = 0 then (f_X11_reviews_24 r2.2) else ((f_X11_isNights x0 x2 0 2 r2.2).bind fun r3 => if r3.1 = 0 then (f_X11_reviews_24 r3.2) else ((f_X11_tries x0 r3.2).bind fun r4 => (wr_I r4 x0 11 48 x1).bind fun h5 => l_X11_reviews_41 x0 x2 x3 0 0 h5)))
set_option maxRecDepth 20000 in
theorem c_X11_reviews (l : Launch) (x0 : Nat) (x1 : Int32) (x2 : Int32) (x3 : Int32) (h : hp_H) (r : Int32 × hp_H) (hf : f_X11_reviews x0 x1 x2 x3 h = some r) : cv l (6) yX11_reviews cX11_reviews 7 (some .int) 11 x0 [.int x1, .int x2, .int x3] h (some (.int r.1)) r.2 := by
  unfold f_X11_reviews at hf
  refine cv_of (lv := [(0, .ref x0), (1, .int x1), (2, .int x2), (3, .int x3)]) hf (by decide +kernel) (Nat.le_of_ble_eq_true rfl) rfl (fun hf p e s m args below meth c G X => ?_)
  refine wk_aload_n X dX11_reviews_0 0 rfl ?_
  refine wk_iconst X dX11_reviews_1 ic_0 ?_
  refine wk_putI X dX11_reviews_2 fo_X11_84 hf (fun h1 hf => ?_)
  refine wk_aload_n X dX11_reviews_5 0 rfl ?_
  refine wk_iload_n X dX11_reviews_6 3 rfl ?_
  refine wk_iconst X dX11_reviews_7 ic_2 ?_
  refine wk_callVi X [.int x3, .int 2] [] dX11_reviews_8 rfl vo_X11_330 rfl (by decide) (Nat.le_of_ble_eq_true rfl) hf (c_X11_isWhat l _ _ _ _) (fun r2 hf => ?_)
  refine wk_if_eq X 24 dX11_reviews_11 (by decide) hf (fun hf => ?_) (fun hf => ?_)
  · exact wq_sub [] rfl (w_X11_reviews_24 X _ hf)
  · refine wk_aload_n X dX11_reviews_14 0 rfl ?_
    refine wk_iload_n X dX11_reviews_15 2 rfl ?_
    refine wk_iconst X dX11_reviews_16 ic_0 ?_
    refine wk_iconst X dX11_reviews_17 ic_2 ?_
    refine wk_callVi X [.int x2, .int 0, .int 2] [] dX11_reviews_18 rfl vo_X11_353 rfl (by decide) (Nat.le_of_ble_eq_true rfl) hf (c_X11_isNights l _ _ _ _ _) (fun r3 hf => ?_)
    refine wk_if_ne X 26 dX11_reviews_21 (by decide) hf (fun hf => ?_) (fun hf => ?_)
    · refine wk_aload_n X dX11_reviews_26 0 rfl ?_
      refine wk_callVv X [] [] dX11_reviews_27 rfl vo_X11_347 rfl (by decide) (Nat.le_of_ble_eq_true rfl) hf (c_X11_tries l _ _) (fun r4 hf => ?_)
      refine wk_aload_n X dX11_reviews_30 0 rfl ?_
      refine wk_iload_n X dX11_reviews_31 1 rfl ?_
      refine wk_putI X dX11_reviews_32 fo_X11_385 hf (fun h5 hf => ?_)
      refine wk_iconst X dX11_reviews_35 ic_0 ?_
      refine wk_istore (lv' := [(4, .int 0), (0, .ref x0), (1, .int x1), (2, .int x2), (3, .int x3)]) X dX11_reviews_36 (by decide) rfl ?_
      refine wk_iconst X dX11_reviews_38 ic_0 ?_
      refine wk_istore (lv' := [(5, .int 0), (4, .int 0), (0, .ref x0), (1, .int x1), (2, .int x2), (3, .int x3)]) X dX11_reviews_39 (by decide) rfl ?_
      exact wq_sub [2, 4, 5, 1, 0] rfl (wl_X11_reviews_41 X _ _ _ _ _ _ hf)
    · exact wq_sub [] rfl (w_X11_reviews_24 X _ hf)
section Sf_X11_areBeats
variable {p : Program} {l : Launch} {e : Env} {s : State} {m : MethodId} {args : Array Value} {below : List Frame} {meth : Method} {c : Code} {G : hp_G} {o : Int32 × hp_H}
def f_X11_areBeats_20 (t0 : Nat) (t1 : Int32) (h : hp_H) : Option (Int32 × hp_H) := (f_X11_right t0 t1 1 h).bind fun r1 => if r1.1 = 0 ∨ r1.1 = 1 then some (r1.1, r1.2) else none
set_option maxRecDepth 20000 in
theorem w_X11_areBeats_20 (X : wx G p s m args meth c cX11_areBeats 2 RX11 (some .boolean)) (t0 : Nat) (t1 : Int32) (h : hp_H) (hf : f_X11_areBeats_20 t0 t1 h = some o) : wq p l e (mt_R (2) 0 0) s m args below meth c (MQ below (mt_Q G (some (.int o.1)) o.2) args s 0 0 (hp_A G)) G 2 0 0 20 [] [.int t1, .ref t0] h := by
  unfold f_X11_areBeats_20 at hf
  refine wk_iconst X dX11_areBeats_20 ic_1 ?_
  refine wk_callVi X [.int t1, .int 1] [] dX11_areBeats_21 rfl vo_X11_244 rfl (by decide) (Nat.le_of_ble_eq_true rfl) hf (c_X11_right l _ _ _ _) (fun r1 hf => ?_)
  exact wk_zreturn X dX11_areBeats_24 hf
def f_X11_areBeats_19 (t0 : Nat) (h : hp_H) : Option (Int32 × hp_H) := f_X11_areBeats_20 t0 0 h
set_option maxRecDepth 20000 in
theorem w_X11_areBeats_19 (X : wx G p s m args meth c cX11_areBeats 2 RX11 (some .boolean)) (t0 : Nat) (h : hp_H) (hf : f_X11_areBeats_19 t0 h = some o) : wq p l e (mt_R (2) 0 0) s m args below meth c (MQ below (mt_Q G (some (.int o.1)) o.2) args s 0 0 (hp_A G)) G 2 0 0 19 [] [.ref t0] h := by
  unfold f_X11_areBeats_19 at hf
  refine wk_iconst X dX11_areBeats_19 ic_0 ?_
  exact wq_sub [] rfl (w_X11_areBeats_20 X _ _ _ hf)
end Sf_X11_areBeats
def f_X11_areBeats (x0 : Nat) (x1 : Int32) (h : hp_H) : Option (Int32 × hp_H) := gd h x0 11 (if x1 < 0 then (f_X11_areBeats_19 x0 h) else ((rd_I h x0 11 1).bind fun v1 => if (1 <<< (v1 &&& 31)) ≤ x1 then (f_X11_areBeats_19 x0 h) else (f_X11_areBeats_20 x0 1 h)))
set_option maxRecDepth 20000 in
theorem c_X11_areBeats (l : Launch) (x0 : Nat) (x1 : Int32) (h : hp_H) (r : Int32 × hp_H) (hf : f_X11_areBeats x0 x1 h = some r) : cv l (2) yX11_areBeats cX11_areBeats 2 (some .boolean) 11 x0 [.int x1] h (some (.int r.1)) r.2 := by
  unfold f_X11_areBeats at hf
  refine cv_of (lv := [(0, .ref x0), (1, .int x1)]) hf (by decide +kernel) (Nat.le_of_ble_eq_true rfl) rfl (fun hf p e s m args below meth c G X => ?_)
  refine wk_aload_n X dX11_areBeats_0 0 rfl ?_
  refine wk_iload_n X dX11_areBeats_1 1 rfl ?_
  refine wk_if_lt X 19 dX11_areBeats_2 (by decide) hf (fun hf => ?_) (fun hf => ?_)
  · exact wq_sub [] rfl (w_X11_areBeats_19 X _ _ hf)
  · refine wk_iload_n X dX11_areBeats_5 1 rfl ?_
    refine wk_iconst X dX11_areBeats_6 ic_1 ?_
    refine wk_aload_n X dX11_areBeats_7 0 rfl ?_
    refine wk_getI X dX11_areBeats_8 fo_X11_7 hf (fun v1 hf => ?_)
    refine wk_ishl X dX11_areBeats_11 ?_
    refine wk_icmp_ge X 19 dX11_areBeats_12 (by decide) hf (fun hf => ?_) (fun hf => ?_)
    · exact wq_sub [] rfl (w_X11_areBeats_19 X _ _ hf)
    · refine wk_iconst X dX11_areBeats_15 ic_1 ?_
      refine wk_goto X 20 dX11_areBeats_16 (by decide) ?_
      exact wq_sub [] rfl (w_X11_areBeats_20 X _ _ _ hf)
section Sf_X11_nextTo
variable {p : Program} {l : Launch} {e : Env} {s : State} {m : MethodId} {args : Array Value} {below : List Frame} {meth : Method} {c : Code} {G : hp_G} {o : Int32 × hp_H}
def f_X11_nextTo_23 (t0 : Int32) (h : hp_H) : Option (Int32 × hp_H) := some (t0, h)
set_option maxRecDepth 20000 in
theorem w_X11_nextTo_23 (X : wx G p s m args meth c cX11_nextTo 2 RX11 (some .int)) (t0 : Int32) (h : hp_H) (hf : f_X11_nextTo_23 t0 h = some o) : wq p l e (mt_R (3) 0 0) s m args below meth c (MQ below (mt_Q G (some (.int o.1)) o.2) args s 0 0 (hp_A G)) G 2 0 0 23 [] [.int t0] h := by
  unfold f_X11_nextTo_23 at hf
  exact wk_ireturn X dX11_nextTo_23 hf
end Sf_X11_nextTo
def f_X11_nextTo (x0 : Nat) (x1 : Int32) (h : hp_H) : Option (Int32 × hp_H) := gd h x0 11 ((wr_I h x0 11 0 0).bind fun h1 => (f_X11_areBeats x0 x1 h1).bind fun r2 => if r2.1 = 0 then (f_X11_nextTo_23 0 r2.2) else ((f_X11_nearestTo x0 0 x1 r2.2).bind fun r3 => f_X11_nextTo_23 r3.1 r3.2))
set_option maxRecDepth 20000 in
theorem c_X11_nextTo (l : Launch) (x0 : Nat) (x1 : Int32) (h : hp_H) (r : Int32 × hp_H) (hf : f_X11_nextTo x0 x1 h = some r) : cv l (3) yX11_nextTo cX11_nextTo 2 (some .int) 11 x0 [.int x1] h (some (.int r.1)) r.2 := by
  unfold f_X11_nextTo at hf
  refine cv_of (lv := [(0, .ref x0), (1, .int x1)]) hf (by decide +kernel) (Nat.le_of_ble_eq_true rfl) rfl (fun hf p e s m args below meth c G X => ?_)
  refine wk_aload_n X dX11_nextTo_0 0 rfl ?_
  refine wk_iconst X dX11_nextTo_1 ic_0 ?_
  refine wk_putI X dX11_nextTo_2 fo_X11_84 hf (fun h1 hf => ?_)
  refine wk_aload_n X dX11_nextTo_5 0 rfl ?_
  refine wk_iload_n X dX11_nextTo_6 1 rfl ?_
  refine wk_callVi X [.int x1] [] dX11_nextTo_7 rfl vo_X11_395 rfl (by decide) (Nat.le_of_ble_eq_true rfl) hf (c_X11_areBeats l _ _ _) (fun r2 hf => ?_)
  refine wk_if_eq X 22 dX11_nextTo_10 (by decide) hf (fun hf => ?_) (fun hf => ?_)
  · refine wk_iconst X dX11_nextTo_22 ic_0 ?_
    exact wq_sub [] rfl (w_X11_nextTo_23 X _ _ hf)
  · refine wk_aload_n X dX11_nextTo_13 0 rfl ?_
    refine wk_iconst X dX11_nextTo_14 ic_0 ?_
    refine wk_iload_n X dX11_nextTo_15 1 rfl ?_
    refine wk_callVi X [.int 0, .int x1] [] dX11_nextTo_16 rfl vo_X11_293 rfl (by decide) (Nat.le_of_ble_eq_true rfl) hf (c_X11_nearestTo l _ _ _ _) (fun r3 hf => ?_)
    refine wk_goto X 23 dX11_nextTo_19 (by decide) ?_
    exact wq_sub [] rfl (w_X11_nextTo_23 X _ _ hf)
section Sf_X11_alike
variable {p : Program} {l : Launch} {e : Env} {s : State} {m : MethodId} {args : Array Value} {below : List Frame} {meth : Method} {c : Code} {G : hp_G} {o : Int32 × hp_H}
def f_X11_alike_87 (x3 : Int32) (h : hp_H) : Option (Int32 × hp_H) := some (x3, h)
set_option maxRecDepth 20000 in
theorem w_X11_alike_87 (X : wx G p s m args meth c cX11_alike 6 RX11 (some .int)) (x3 : Int32) (h : hp_H) (hf : f_X11_alike_87 x3 h = some o) : wq p l e (mt_R (3) 0 0) s m args below meth c (MQ below (mt_Q G (some (.int o.1)) o.2) args s 0 0 (hp_A G)) G 6 0 0 87 [(3, .int x3)] [] h := by
  unfold f_X11_alike_87 at hf
  refine wk_iload_n X dX11_alike_87 0 rfl ?_
  exact wk_ireturn X dX11_alike_88 hf
def f_X11_alike_79 (k24 : Nat → Int32 → Int32 → Int32 → Int32 → hp_H → Option (Int32 × hp_H)) (x0 : Nat) (x1 : Int32) (x2 : Int32) (x4 : Int32) (t0 : Int32) (t1 : Int32) (h : hp_H) : Option (Int32 × hp_H) := k24 x0 x1 x2 (t0 ||| t1) (x4 + 1) h
set_option maxRecDepth 20000 in
theorem w_X11_alike_79 (X : wx G p s m args meth c cX11_alike 6 RX11 (some .int)) (k24 : Nat → Int32 → Int32 → Int32 → Int32 → hp_H → Option (Int32 × hp_H)) (hk24 : ∀ (x0 : Nat) (x1 : Int32) (x2 : Int32) (x3 : Int32) (x4 : Int32) (h : hp_H), k24 x0 x1 x2 x3 x4 h = some o → wq p l e (mt_R (3) 0 0) s m args below meth c (MQ below (mt_Q G (some (.int o.1)) o.2) args s 0 0 (hp_A G)) G 6 0 0 24 [(0, .ref x0), (1, .int x1), (2, .int x2), (3, .int x3), (4, .int x4)] [] h) (x0 : Nat) (x1 : Int32) (x2 : Int32) (x4 : Int32) (t0 : Int32) (t1 : Int32) (h : hp_H) (hf : f_X11_alike_79 k24 x0 x1 x2 x4 t0 t1 h = some o) : wq p l e (mt_R (3) 0 0) s m args below meth c (MQ below (mt_Q G (some (.int o.1)) o.2) args s 0 0 (hp_A G)) G 6 0 0 79 [(0, .ref x0), (1, .int x1), (2, .int x2), (4, .int x4)] [.int t1, .int t0] h := by
  unfold f_X11_alike_79 at hf
  refine wk_ior X dX11_alike_79 ?_
  refine wk_istore_n (lv' := [(3, .int (t0 ||| t1)), (0, .ref x0), (1, .int x1), (2, .int x2), (4, .int x4)]) X dX11_alike_80 (by decide) rfl ?_
  refine wk_iinc (lv' := [(4, .int (x4 + 1)), (3, .int (t0 ||| t1)), (0, .ref x0), (1, .int x1), (2, .int x2)]) X dX11_alike_81 4 rfl ic_1 (by decide) rfl ?_
  refine wk_goto X 24 dX11_alike_84 (by decide) ?_
  exact wq_sub [2, 3, 4, 1, 0] rfl (hk24 _ _ _ _ _ _ hf)
def f_X11_alike_57 (k24 : Nat → Int32 → Int32 → Int32 → Int32 → hp_H → Option (Int32 × hp_H)) (x0 : Nat) (x1 : Int32) (x2 : Int32) (x3 : Int32) (x4 : Int32) (x5 : Int32) (h : hp_H) : Option (Int32 × hp_H) := (f_X11_lesser x2 x5 h).bind fun r1 => if x5 = r1.1 then (f_X11_alike_79 k24 x0 x1 r1.1 x4 x3 (1 <<< (x4 &&& 31)) r1.2) else (f_X11_alike_79 k24 x0 x1 r1.1 x4 x3 0 r1.2)
set_option maxRecDepth 20000 in
theorem w_X11_alike_57 (X : wx G p s m args meth c cX11_alike 6 RX11 (some .int)) (k24 : Nat → Int32 → Int32 → Int32 → Int32 → hp_H → Option (Int32 × hp_H)) (hk24 : ∀ (x0 : Nat) (x1 : Int32) (x2 : Int32) (x3 : Int32) (x4 : Int32) (h : hp_H), k24 x0 x1 x2 x3 x4 h = some o → wq p l e (mt_R (3) 0 0) s m args below meth c (MQ below (mt_Q G (some (.int o.1)) o.2) args s 0 0 (hp_A G)) G 6 0 0 24 [(0, .ref x0), (1, .int x1), (2, .int x2), (3, .int x3), (4, .int x4)] [] h) (x0 : Nat) (x1 : Int32) (x2 : Int32) (x3 : Int32) (x4 : Int32) (x5 : Int32) (h : hp_H) (hf : f_X11_alike_57 k24 x0 x1 x2 x3 x4 x5 h = some o) : wq p l e (mt_R (3) 0 0) s m args below meth c (MQ below (mt_Q G (some (.int o.1)) o.2) args s 0 0 (hp_A G)) G 6 0 0 57 [(0, .ref x0), (1, .int x1), (2, .int x2), (3, .int x3), (4, .int x4), (5, .int x5)] [] h := by
  unfold f_X11_alike_57 at hf
  refine wk_iload_n X dX11_alike_57 2 rfl ?_
  refine wk_iload X dX11_alike_58 5 rfl ?_
  refine wk_callSi X [.int x2, .int x5] [] dX11_alike_60 rfl vo_X11_305 rfl (by decide) (Nat.le_of_ble_eq_true rfl) hf (c_X11_lesser l _ _ _) (fun r1 hf => ?_)
  refine wk_istore_n (lv' := [(2, .int r1.1), (0, .ref x0), (1, .int x1), (3, .int x3), (4, .int x4), (5, .int x5)]) X dX11_alike_63 (by decide) rfl ?_
  refine wk_iload_n X dX11_alike_64 3 rfl ?_
  refine wk_iload X dX11_alike_65 5 rfl ?_
  refine wk_iload_n X dX11_alike_67 0 rfl ?_
  refine wk_icmp_ne X 78 dX11_alike_68 (by decide) hf (fun hf => ?_) (fun hf => ?_)
  · refine wk_iconst X dX11_alike_78 ic_0 ?_
    exact wq_sub [1, 2, 0, 4] rfl (w_X11_alike_79 X k24 hk24 _ _ _ _ _ _ _ hf)
  · refine wk_iconst X dX11_alike_71 ic_1 ?_
    refine wk_iload X dX11_alike_72 4 rfl ?_
    refine wk_ishl X dX11_alike_74 ?_
    refine wk_goto X 79 dX11_alike_75 (by decide) ?_
    exact wq_sub [1, 2, 0, 4] rfl (w_X11_alike_79 X k24 hk24 _ _ _ _ _ _ _ hf)
def f_X11_alike_24 (k24 : Nat → Int32 → Int32 → Int32 → Int32 → hp_H → Option (Int32 × hp_H)) (x0 : Nat) (x1 : Int32) (x2 : Int32) (x3 : Int32) (x4 : Int32) (h : hp_H) : Option (Int32 × hp_H) := (rd_I h x0 11 2).bind fun v1 => if v1 ≤ x4 then (f_X11_alike_87 x3 h) else ((rd_R h x0 11 36).bind fun v2 => (rd_A h 0 v2 (1 + x4)).bind fun v3 => (f_X11_bits (v3 ^^^ x1) h).bind fun r4 => if x2 ≤ r4.1 then (f_X11_alike_57 k24 x0 x1 x2 x3 x4 r4.1 r4.2) else (f_X11_alike_57 k24 x0 x1 x2 0 x4 r4.1 r4.2))
set_option maxRecDepth 20000 in
theorem w_X11_alike_24 (X : wx G p s m args meth c cX11_alike 6 RX11 (some .int)) (k24 : Nat → Int32 → Int32 → Int32 → Int32 → hp_H → Option (Int32 × hp_H)) (hk24 : ∀ (x0 : Nat) (x1 : Int32) (x2 : Int32) (x3 : Int32) (x4 : Int32) (h : hp_H), k24 x0 x1 x2 x3 x4 h = some o → wq p l e (mt_R (3) 0 0) s m args below meth c (MQ below (mt_Q G (some (.int o.1)) o.2) args s 0 0 (hp_A G)) G 6 0 0 24 [(0, .ref x0), (1, .int x1), (2, .int x2), (3, .int x3), (4, .int x4)] [] h) (x0 : Nat) (x1 : Int32) (x2 : Int32) (x3 : Int32) (x4 : Int32) (h : hp_H) (hf : f_X11_alike_24 k24 x0 x1 x2 x3 x4 h = some o) : wq p l e (mt_R (3) 0 0) s m args below meth c (MQ below (mt_Q G (some (.int o.1)) o.2) args s 0 0 (hp_A G)) G 6 0 0 24 [(0, .ref x0), (1, .int x1), (2, .int x2), (3, .int x3), (4, .int x4)] [] h := by
  unfold f_X11_alike_24 at hf
  refine wk_iload X dX11_alike_24 4 rfl ?_
  refine wk_aload_n X dX11_alike_26 0 rfl ?_
  refine wk_getI X dX11_alike_27 fo_X11_251 hf (fun v1 hf => ?_)
  refine wk_icmp_ge X 87 dX11_alike_30 (by decide) hf (fun hf => ?_) (fun hf => ?_)
  · exact wq_sub [3] rfl (w_X11_alike_87 X _ _ hf)
  · refine wk_aload_n X dX11_alike_33 0 rfl ?_
    refine wk_getR X dX11_alike_34 fo_X11_51 hf (fun v2 hf => ?_)
    refine wk_iconst X dX11_alike_37 ic_1 ?_
    refine wk_iload X dX11_alike_38 4 rfl ?_
    refine wk_iadd X dX11_alike_40 ?_
    refine wk_iald X dX11_alike_41 hf (fun v3 hf => ?_)
    refine wk_iload_n X dX11_alike_42 1 rfl ?_
    refine wk_ixor X dX11_alike_43 ?_
    refine wk_callSi X [.int (v3 ^^^ x1)] [] dX11_alike_44 rfl vo_X11_284 rfl (by decide) (Nat.le_of_ble_eq_true rfl) hf (c_X11_bits l _ _) (fun r4 hf => ?_)
    refine wk_istore (lv' := [(5, .int r4.1), (0, .ref x0), (1, .int x1), (2, .int x2), (3, .int x3), (4, .int x4)]) X dX11_alike_47 (by decide) rfl ?_
    refine wk_iload X dX11_alike_49 0 rfl ?_
    refine wk_iload_n X dX11_alike_51 3 rfl ?_
    refine wk_icmp_ge X 57 dX11_alike_52 (by decide) hf (fun hf => ?_) (fun hf => ?_)
    · exact wq_sub [1, 2, 3, 4, 5, 0] rfl (w_X11_alike_57 X k24 hk24 _ _ _ _ _ _ _ hf)
    · refine wk_iconst X dX11_alike_55 ic_0 ?_
      refine wk_istore_n (lv' := [(3, .int 0), (5, .int r4.1), (0, .ref x0), (1, .int x1), (2, .int x2), (4, .int x4)]) X dX11_alike_56 (by decide) rfl ?_
      exact wq_sub [2, 3, 4, 0, 5, 1] rfl (w_X11_alike_57 X k24 hk24 _ _ _ _ _ _ _ hf)
def l_X11_alike_24 (x0 : Nat) (x1 : Int32) (x2 : Int32) (x3 : Int32) (x4 : Int32) (h : hp_H) : Option (Int32 × hp_H) := lp (fun k (s : Nat × Int32 × Int32 × Int32 × Int32 × hp_H) => f_X11_alike_24  (fun a0 a1 a2 a3 a4 a5 => k (a0, a1, a2, a3, a4, a5)) s.1 s.2.1 s.2.2.1 s.2.2.2.1 s.2.2.2.2.1 s.2.2.2.2.2) 100000 (x0, x1, x2, x3, x4, h)
theorem wl_X11_alike_24 (X : wx G p s m args meth c cX11_alike 6 RX11 (some .int)) (x0 : Nat) (x1 : Int32) (x2 : Int32) (x3 : Int32) (x4 : Int32) (h : hp_H) (hf : l_X11_alike_24 x0 x1 x2 x3 x4 h = some o) : wq p l e (mt_R (3) 0 0) s m args below meth c (MQ below (mt_Q G (some (.int o.1)) o.2) args s 0 0 (hp_A G)) G 6 0 0 24 [(0, .ref x0), (1, .int x1), (2, .int x2), (3, .int x3), (4, .int x4)] [] h :=
  lp_ind (P := fun (s_ : Nat × Int32 × Int32 × Int32 × Int32 × hp_H) => wq p l e (mt_R (3) 0 0) s m args below meth c (MQ below (mt_Q G (some (.int o.1)) o.2) args s 0 0 (hp_A G)) G 6 0 0 24 [(0, .ref s_.1), (1, .int s_.2.1), (2, .int s_.2.2.1), (3, .int s_.2.2.2.1), (4, .int s_.2.2.2.2.1)] [] s_.2.2.2.2.2) (fun k s hk hf => w_X11_alike_24 X  (fun a0 a1 a2 a3 a4 a5 => k (a0, a1, a2, a3, a4, a5)) (fun a0 a1 a2 a3 a4 a5 hf => hk (a0, a1, a2, a3, a4, a5) hf) s.1 s.2.1 s.2.2.1 s.2.2.2.1 s.2.2.2.2.1 s.2.2.2.2.2 hf) 100000 (x0, x1, x2, x3, x4, h) hf
end Sf_X11_alike
def f_X11_alike (x0 : Nat) (x1 : Int32) (h : hp_H) : Option (Int32 × hp_H) := gd h x0 11 ((wr_I h x0 11 0 0).bind fun h1 => (f_X11_areBeats x0 x1 h1).bind fun r2 => if r2.1 = 0 then (some (0, r2.2)) else (l_X11_alike_24 x0 x1 99999 0 0 r2.2))
set_option maxRecDepth 20000 in
theorem c_X11_alike (l : Launch) (x0 : Nat) (x1 : Int32) (h : hp_H) (r : Int32 × hp_H) (hf : f_X11_alike x0 x1 h = some r) : cv l (3) yX11_alike cX11_alike 6 (some .int) 11 x0 [.int x1] h (some (.int r.1)) r.2 := by
  unfold f_X11_alike at hf
  refine cv_of (lv := [(0, .ref x0), (1, .int x1)]) hf (by decide +kernel) (Nat.le_of_ble_eq_true rfl) rfl (fun hf p e s m args below meth c G X => ?_)
  refine wk_aload_n X dX11_alike_0 0 rfl ?_
  refine wk_iconst X dX11_alike_1 ic_0 ?_
  refine wk_putI X dX11_alike_2 fo_X11_84 hf (fun h1 hf => ?_)
  refine wk_aload_n X dX11_alike_5 0 rfl ?_
  refine wk_iload_n X dX11_alike_6 1 rfl ?_
  refine wk_callVi X [.int x1] [] dX11_alike_7 rfl vo_X11_395 rfl (by decide) (Nat.le_of_ble_eq_true rfl) hf (c_X11_areBeats l _ _ _) (fun r2 hf => ?_)
  refine wk_if_ne X 15 dX11_alike_10 (by decide) hf (fun hf => ?_) (fun hf => ?_)
  · refine wk_ldcw X dX11_alike_15 mt_X11_362 ?_
    refine wk_istore_n (lv' := [(2, .int 99999), (0, .ref x0), (1, .int x1)]) X dX11_alike_18 (by decide) rfl ?_
    refine wk_iconst X dX11_alike_19 ic_0 ?_
    refine wk_istore_n (lv' := [(3, .int 0), (2, .int 99999), (0, .ref x0), (1, .int x1)]) X dX11_alike_20 (by decide) rfl ?_
    refine wk_iconst X dX11_alike_21 ic_0 ?_
    refine wk_istore (lv' := [(4, .int 0), (3, .int 0), (2, .int 99999), (0, .ref x0), (1, .int x1)]) X dX11_alike_22 (by decide) rfl ?_
    exact wq_sub [3, 4, 2, 1, 0] rfl (wl_X11_alike_24 X _ _ _ _ _ _ hf)
  · refine wk_iconst X dX11_alike_13 ic_0 ?_
    exact wk_ireturn X dX11_alike_14 hf
section Sf_X11_lost
variable {p : Program} {l : Launch} {e : Env} {s : State} {m : MethodId} {args : Array Value} {below : List Frame} {meth : Method} {c : Code} {G : hp_G} {o : Int32 × hp_H}
def f_X11_lost_55 (t0 : Int32) (h : hp_H) : Option (Int32 × hp_H) := some (t0, h)
set_option maxRecDepth 20000 in
theorem w_X11_lost_55 (X : wx G p s m args meth c cX11_lost 3 RX11 (some .int)) (t0 : Int32) (h : hp_H) (hf : f_X11_lost_55 t0 h = some o) : wq p l e (mt_R (4) 0 0) s m args below meth c (MQ below (mt_Q G (some (.int o.1)) o.2) args s 0 0 (hp_A G)) G 3 0 0 55 [] [.int t0] h := by
  unfold f_X11_lost_55 at hf
  exact wk_ireturn X dX11_lost_55 hf
end Sf_X11_lost
def f_X11_lost (x0 : Nat) (x1 : Int32) (h : hp_H) : Option (Int32 × hp_H) := gd h x0 11 ((wr_I h x0 11 0 0).bind fun h1 => (f_X11_isMan x0 x1 h1).bind fun r2 => if r2.1 = 0 then (some (0, r2.2)) else ((f_X11_rowOf x0 0 x1 r2.2).bind fun r3 => if r3.1 = (-1) then ((rd_R r3.2 x0 11 36).bind fun v7 => (rd_A r3.2 0 v7 (1 + x1)).bind fun v8 => f_X11_lost_55 v8 r3.2) else ((rd_R r3.2 x0 11 36).bind fun v4 => (rd_A r3.2 0 v4 (1 + x1)).bind fun v5 => (f_X11_heardOf x0 0 r3.1 r3.2).bind fun r6 => f_X11_lost_55 (v5 &&& (r6.1 ^^^ (-1))) r6.2)))
set_option maxRecDepth 20000 in
theorem c_X11_lost (l : Launch) (x0 : Nat) (x1 : Int32) (h : hp_H) (r : Int32 × hp_H) (hf : f_X11_lost x0 x1 h = some r) : cv l (4) yX11_lost cX11_lost 3 (some .int) 11 x0 [.int x1] h (some (.int r.1)) r.2 := by
  unfold f_X11_lost at hf
  refine cv_of (lv := [(0, .ref x0), (1, .int x1)]) hf (by decide +kernel) (Nat.le_of_ble_eq_true rfl) rfl (fun hf p e s m args below meth c G X => ?_)
  refine wk_aload_n X dX11_lost_0 0 rfl ?_
  refine wk_iconst X dX11_lost_1 ic_0 ?_
  refine wk_putI X dX11_lost_2 fo_X11_84 hf (fun h1 hf => ?_)
  refine wk_aload_n X dX11_lost_5 0 rfl ?_
  refine wk_iload_n X dX11_lost_6 1 rfl ?_
  refine wk_callVi X [.int x1] [] dX11_lost_7 rfl vo_X11_327 rfl (by decide) (Nat.le_of_ble_eq_true rfl) hf (c_X11_isMan l _ _ _) (fun r2 hf => ?_)
  refine wk_if_ne X 15 dX11_lost_10 (by decide) hf (fun hf => ?_) (fun hf => ?_)
  · refine wk_aload_n X dX11_lost_15 0 rfl ?_
    refine wk_iconst X dX11_lost_16 ic_0 ?_
    refine wk_iload_n X dX11_lost_17 1 rfl ?_
    refine wk_callVi X [.int 0, .int x1] [] dX11_lost_18 rfl vo_X11_311 rfl (by decide) (Nat.le_of_ble_eq_true rfl) hf (c_X11_rowOf l _ _ _ _) (fun r3 hf => ?_)
    refine wk_istore_n (lv' := [(2, .int r3.1), (0, .ref x0), (1, .int x1)]) X dX11_lost_21 (by decide) rfl ?_
    refine wk_iload_n X dX11_lost_22 0 rfl ?_
    refine wk_iconst X dX11_lost_23 ic_m1 ?_
    refine wk_icmp_ne X 38 dX11_lost_24 (by decide) hf (fun hf => ?_) (fun hf => ?_)
    · refine wk_aload_n X dX11_lost_38 1 rfl ?_
      refine wk_getR X dX11_lost_39 fo_X11_51 hf (fun v4 hf => ?_)
      refine wk_iconst X dX11_lost_42 ic_1 ?_
      refine wk_iload_n X dX11_lost_43 2 rfl ?_
      refine wk_iadd X dX11_lost_44 ?_
      refine wk_iald X dX11_lost_45 hf (fun v5 hf => ?_)
      refine wk_aload_n X dX11_lost_46 1 rfl ?_
      refine wk_iconst X dX11_lost_47 ic_0 ?_
      refine wk_iload_n X dX11_lost_48 0 rfl ?_
      refine wk_callVi X [.int 0, .int r3.1] [.int v5] dX11_lost_49 rfl vo_X11_290 rfl (by decide) (Nat.le_of_ble_eq_true rfl) hf (c_X11_heardOf l _ _ _ _) (fun r6 hf => ?_)
      refine wk_iconst X dX11_lost_52 ic_m1 ?_
      refine wk_ixor X dX11_lost_53 ?_
      refine wk_iand X dX11_lost_54 ?_
      exact wq_sub [] rfl (w_X11_lost_55 X _ _ hf)
    · refine wk_aload_n X dX11_lost_27 1 rfl ?_
      refine wk_getR X dX11_lost_28 fo_X11_51 hf (fun v7 hf => ?_)
      refine wk_iconst X dX11_lost_31 ic_1 ?_
      refine wk_iload_n X dX11_lost_32 2 rfl ?_
      refine wk_iadd X dX11_lost_33 ?_
      refine wk_iald X dX11_lost_34 hf (fun v8 hf => ?_)
      refine wk_goto X 55 dX11_lost_35 (by decide) ?_
      exact wq_sub [] rfl (w_X11_lost_55 X _ _ hf)
  · refine wk_iconst X dX11_lost_13 ic_0 ?_
    exact wk_ireturn X dX11_lost_14 hf
section Sf_X11_mates
variable {p : Program} {l : Launch} {e : Env} {s : State} {m : MethodId} {args : Array Value} {below : List Frame} {meth : Method} {c : Code} {G : hp_G} {o : Int32 × hp_H}
def f_X11_mates_46 (t0 : Int32) (h : hp_H) : Option (Int32 × hp_H) := some (t0, h)
set_option maxRecDepth 20000 in
theorem w_X11_mates_46 (X : wx G p s m args meth c cX11_mates 3 RX11 (some .int)) (t0 : Int32) (h : hp_H) (hf : f_X11_mates_46 t0 h = some o) : wq p l e (mt_R (3) 0 0) s m args below meth c (MQ below (mt_Q G (some (.int o.1)) o.2) args s 0 0 (hp_A G)) G 3 0 0 46 [] [.int t0] h := by
  unfold f_X11_mates_46 at hf
  exact wk_ireturn X dX11_mates_46 hf
end Sf_X11_mates
def f_X11_mates (x0 : Nat) (x1 : Int32) (h : hp_H) : Option (Int32 × hp_H) := gd h x0 11 ((wr_I h x0 11 0 0).bind fun h1 => (f_X11_isMan x0 x1 h1).bind fun r2 => if r2.1 = 0 then (some (0, r2.2)) else ((f_X11_rowOf x0 0 x1 r2.2).bind fun r3 => if r3.1 = (-1) then (f_X11_mates_46 0 r3.2) else ((rd_R r3.2 x0 11 36).bind fun v4 => (rd_A r3.2 0 v4 (25 + r3.1)).bind fun v5 => f_X11_mates_46 (v5 &&& ((1 <<< (x1 &&& 31)) ^^^ ((-1) : Int32))) r3.2)))
set_option maxRecDepth 20000 in
theorem c_X11_mates (l : Launch) (x0 : Nat) (x1 : Int32) (h : hp_H) (r : Int32 × hp_H) (hf : f_X11_mates x0 x1 h = some r) : cv l (3) yX11_mates cX11_mates 3 (some .int) 11 x0 [.int x1] h (some (.int r.1)) r.2 := by
  unfold f_X11_mates at hf
  refine cv_of (lv := [(0, .ref x0), (1, .int x1)]) hf (by decide +kernel) (Nat.le_of_ble_eq_true rfl) rfl (fun hf p e s m args below meth c G X => ?_)
  refine wk_aload_n X dX11_mates_0 0 rfl ?_
  refine wk_iconst X dX11_mates_1 ic_0 ?_
  refine wk_putI X dX11_mates_2 fo_X11_84 hf (fun h1 hf => ?_)
  refine wk_aload_n X dX11_mates_5 0 rfl ?_
  refine wk_iload_n X dX11_mates_6 1 rfl ?_
  refine wk_callVi X [.int x1] [] dX11_mates_7 rfl vo_X11_327 rfl (by decide) (Nat.le_of_ble_eq_true rfl) hf (c_X11_isMan l _ _ _) (fun r2 hf => ?_)
  refine wk_if_ne X 15 dX11_mates_10 (by decide) hf (fun hf => ?_) (fun hf => ?_)
  · refine wk_aload_n X dX11_mates_15 0 rfl ?_
    refine wk_iconst X dX11_mates_16 ic_0 ?_
    refine wk_iload_n X dX11_mates_17 1 rfl ?_
    refine wk_callVi X [.int 0, .int x1] [] dX11_mates_18 rfl vo_X11_311 rfl (by decide) (Nat.le_of_ble_eq_true rfl) hf (c_X11_rowOf l _ _ _ _) (fun r3 hf => ?_)
    refine wk_istore_n (lv' := [(2, .int r3.1), (0, .ref x0), (1, .int x1)]) X dX11_mates_21 (by decide) rfl ?_
    refine wk_iload_n X dX11_mates_22 0 rfl ?_
    refine wk_iconst X dX11_mates_23 ic_m1 ?_
    refine wk_icmp_ne X 31 dX11_mates_24 (by decide) hf (fun hf => ?_) (fun hf => ?_)
    · refine wk_aload_n X dX11_mates_31 1 rfl ?_
      refine wk_getR X dX11_mates_32 fo_X11_51 hf (fun v4 hf => ?_)
      refine wk_bipush X dX11_mates_35 ib_25 ?_
      refine wk_iload_n X dX11_mates_37 0 rfl ?_
      refine wk_iadd X dX11_mates_38 ?_
      refine wk_iald X dX11_mates_39 hf (fun v5 hf => ?_)
      refine wk_iconst X dX11_mates_40 ic_1 ?_
      refine wk_iload_n X dX11_mates_41 2 rfl ?_
      refine wk_ishl X dX11_mates_42 ?_
      refine wk_iconst X dX11_mates_43 ic_m1 ?_
      refine wk_ixor X dX11_mates_44 ?_
      refine wk_iand X dX11_mates_45 ?_
      exact wq_sub [] rfl (w_X11_mates_46 X _ _ hf)
    · refine wk_iconst X dX11_mates_27 ic_0 ?_
      refine wk_goto X 46 dX11_mates_28 (by decide) ?_
      exact wq_sub [] rfl (w_X11_mates_46 X _ _ hf)
  · refine wk_iconst X dX11_mates_13 ic_0 ?_
    exact wk_ireturn X dX11_mates_14 hf
section Sf_X11_treadsOf
variable {p : Program} {l : Launch} {e : Env} {s : State} {m : MethodId} {args : Array Value} {below : List Frame} {meth : Method} {c : Code} {G : hp_G} {o : Int32 × hp_H}
def f_X11_treadsOf_42 (x2 : Int32) (h : hp_H) : Option (Int32 × hp_H) := some (x2, h)
set_option maxRecDepth 20000 in
theorem w_X11_treadsOf_42 (X : wx G p s m args meth c cX11_treadsOf 4 RX11 (some .int)) (x2 : Int32) (h : hp_H) (hf : f_X11_treadsOf_42 x2 h = some o) : wq p l e (mt_R (1) 0 0) s m args below meth c (MQ below (mt_Q G (some (.int o.1)) o.2) args s 0 0 (hp_A G)) G 4 0 0 42 [(2, .int x2)] [] h := by
  unfold f_X11_treadsOf_42 at hf
  refine wk_iload_n X dX11_treadsOf_42 0 rfl ?_
  exact wk_ireturn X dX11_treadsOf_43 hf
def f_X11_treadsOf_34 (k4 : Nat → Int32 → Int32 → Int32 → hp_H → Option (Int32 × hp_H)) (x0 : Nat) (x1 : Int32) (x3 : Int32) (t0 : Int32) (t1 : Int32) (h : hp_H) : Option (Int32 × hp_H) := k4 x0 x1 (t0 ||| t1) (x3 + 1) h
set_option maxRecDepth 20000 in
theorem w_X11_treadsOf_34 (X : wx G p s m args meth c cX11_treadsOf 4 RX11 (some .int)) (k4 : Nat → Int32 → Int32 → Int32 → hp_H → Option (Int32 × hp_H)) (hk4 : ∀ (x0 : Nat) (x1 : Int32) (x2 : Int32) (x3 : Int32) (h : hp_H), k4 x0 x1 x2 x3 h = some o → wq p l e (mt_R (1) 0 0) s m args below meth c (MQ below (mt_Q G (some (.int o.1)) o.2) args s 0 0 (hp_A G)) G 4 0 0 4 [(0, .ref x0), (1, .int x1), (2, .int x2), (3, .int x3)] [] h) (x0 : Nat) (x1 : Int32) (x3 : Int32) (t0 : Int32) (t1 : Int32) (h : hp_H) (hf : f_X11_treadsOf_34 k4 x0 x1 x3 t0 t1 h = some o) : wq p l e (mt_R (1) 0 0) s m args below meth c (MQ below (mt_Q G (some (.int o.1)) o.2) args s 0 0 (hp_A G)) G 4 0 0 34 [(0, .ref x0), (1, .int x1), (3, .int x3)] [.int t1, .int t0] h := by
  unfold f_X11_treadsOf_34 at hf
  refine wk_ior X dX11_treadsOf_34 ?_
  refine wk_istore_n (lv' := [(2, .int (t0 ||| t1)), (0, .ref x0), (1, .int x1), (3, .int x3)]) X dX11_treadsOf_35 (by decide) rfl ?_
  refine wk_iinc (lv' := [(3, .int (x3 + 1)), (2, .int (t0 ||| t1)), (0, .ref x0), (1, .int x1)]) X dX11_treadsOf_36 3 rfl ic_1 (by decide) rfl ?_
  refine wk_goto X 4 dX11_treadsOf_39 (by decide) ?_
  exact wq_sub [2, 3, 1, 0] rfl (hk4 _ _ _ _ _ hf)
def f_X11_treadsOf_4 (k4 : Nat → Int32 → Int32 → Int32 → hp_H → Option (Int32 × hp_H)) (x0 : Nat) (x1 : Int32) (x2 : Int32) (x3 : Int32) (h : hp_H) : Option (Int32 × hp_H) := (rd_I h x0 11 2).bind fun v1 => if v1 ≤ x3 then (f_X11_treadsOf_42 x2 h) else (if ((x1 >>> (x3 &&& 31)) &&& (1 : Int32)) = 1 then ((rd_R h x0 11 36).bind fun v2 => (rd_A h 0 v2 (1 + x3)).bind fun v3 => f_X11_treadsOf_34 k4 x0 x1 x3 x2 v3 h) else (f_X11_treadsOf_34 k4 x0 x1 x3 x2 0 h))
set_option maxRecDepth 20000 in
theorem w_X11_treadsOf_4 (X : wx G p s m args meth c cX11_treadsOf 4 RX11 (some .int)) (k4 : Nat → Int32 → Int32 → Int32 → hp_H → Option (Int32 × hp_H)) (hk4 : ∀ (x0 : Nat) (x1 : Int32) (x2 : Int32) (x3 : Int32) (h : hp_H), k4 x0 x1 x2 x3 h = some o → wq p l e (mt_R (1) 0 0) s m args below meth c (MQ below (mt_Q G (some (.int o.1)) o.2) args s 0 0 (hp_A G)) G 4 0 0 4 [(0, .ref x0), (1, .int x1), (2, .int x2), (3, .int x3)] [] h) (x0 : Nat) (x1 : Int32) (x2 : Int32) (x3 : Int32) (h : hp_H) (hf : f_X11_treadsOf_4 k4 x0 x1 x2 x3 h = some o) : wq p l e (mt_R (1) 0 0) s m args below meth c (MQ below (mt_Q G (some (.int o.1)) o.2) args s 0 0 (hp_A G)) G 4 0 0 4 [(0, .ref x0), (1, .int x1), (2, .int x2), (3, .int x3)] [] h := by
  unfold f_X11_treadsOf_4 at hf
  refine wk_iload_n X dX11_treadsOf_4 3 rfl ?_
  refine wk_aload_n X dX11_treadsOf_5 0 rfl ?_
  refine wk_getI X dX11_treadsOf_6 fo_X11_251 hf (fun v1 hf => ?_)
  refine wk_icmp_ge X 42 dX11_treadsOf_9 (by decide) hf (fun hf => ?_) (fun hf => ?_)
  · exact wq_sub [2] rfl (w_X11_treadsOf_42 X _ _ hf)
  · refine wk_iload_n X dX11_treadsOf_12 2 rfl ?_
    refine wk_iload_n X dX11_treadsOf_13 1 rfl ?_
    refine wk_iload_n X dX11_treadsOf_14 3 rfl ?_
    refine wk_ishr X dX11_treadsOf_15 ?_
    refine wk_iconst X dX11_treadsOf_16 ic_1 ?_
    refine wk_iand X dX11_treadsOf_17 ?_
    refine wk_iconst X dX11_treadsOf_18 ic_1 ?_
    refine wk_icmp_ne X 33 dX11_treadsOf_19 (by decide) hf (fun hf => ?_) (fun hf => ?_)
    · refine wk_iconst X dX11_treadsOf_33 ic_0 ?_
      exact wq_sub [0, 1, 3] rfl (w_X11_treadsOf_34 X k4 hk4 _ _ _ _ _ _ hf)
    · refine wk_aload_n X dX11_treadsOf_22 0 rfl ?_
      refine wk_getR X dX11_treadsOf_23 fo_X11_51 hf (fun v2 hf => ?_)
      refine wk_iconst X dX11_treadsOf_26 ic_1 ?_
      refine wk_iload_n X dX11_treadsOf_27 3 rfl ?_
      refine wk_iadd X dX11_treadsOf_28 ?_
      refine wk_iald X dX11_treadsOf_29 hf (fun v3 hf => ?_)
      refine wk_goto X 34 dX11_treadsOf_30 (by decide) ?_
      exact wq_sub [0, 1, 3] rfl (w_X11_treadsOf_34 X k4 hk4 _ _ _ _ _ _ hf)
def l_X11_treadsOf_4 (x0 : Nat) (x1 : Int32) (x2 : Int32) (x3 : Int32) (h : hp_H) : Option (Int32 × hp_H) := lp (fun k (s : Nat × Int32 × Int32 × Int32 × hp_H) => f_X11_treadsOf_4  (fun a0 a1 a2 a3 a4 => k (a0, a1, a2, a3, a4)) s.1 s.2.1 s.2.2.1 s.2.2.2.1 s.2.2.2.2) 100000 (x0, x1, x2, x3, h)
theorem wl_X11_treadsOf_4 (X : wx G p s m args meth c cX11_treadsOf 4 RX11 (some .int)) (x0 : Nat) (x1 : Int32) (x2 : Int32) (x3 : Int32) (h : hp_H) (hf : l_X11_treadsOf_4 x0 x1 x2 x3 h = some o) : wq p l e (mt_R (1) 0 0) s m args below meth c (MQ below (mt_Q G (some (.int o.1)) o.2) args s 0 0 (hp_A G)) G 4 0 0 4 [(0, .ref x0), (1, .int x1), (2, .int x2), (3, .int x3)] [] h :=
  lp_ind (P := fun (s_ : Nat × Int32 × Int32 × Int32 × hp_H) => wq p l e (mt_R (1) 0 0) s m args below meth c (MQ below (mt_Q G (some (.int o.1)) o.2) args s 0 0 (hp_A G)) G 4 0 0 4 [(0, .ref s_.1), (1, .int s_.2.1), (2, .int s_.2.2.1), (3, .int s_.2.2.2.1)] [] s_.2.2.2.2) (fun k s hk hf => w_X11_treadsOf_4 X  (fun a0 a1 a2 a3 a4 => k (a0, a1, a2, a3, a4)) (fun a0 a1 a2 a3 a4 hf => hk (a0, a1, a2, a3, a4) hf) s.1 s.2.1 s.2.2.1 s.2.2.2.1 s.2.2.2.2 hf) 100000 (x0, x1, x2, x3, h) hf
end Sf_X11_treadsOf
def f_X11_treadsOf (x0 : Nat) (x1 : Int32) (h : hp_H) : Option (Int32 × hp_H) := gd h x0 11 (l_X11_treadsOf_4 x0 x1 0 0 h)
set_option maxRecDepth 20000 in
theorem c_X11_treadsOf (l : Launch) (x0 : Nat) (x1 : Int32) (h : hp_H) (r : Int32 × hp_H) (hf : f_X11_treadsOf x0 x1 h = some r) : cv l (1) yX11_treadsOf cX11_treadsOf 4 (some .int) 11 x0 [.int x1] h (some (.int r.1)) r.2 := by
  unfold f_X11_treadsOf at hf
  refine cv_of (lv := [(0, .ref x0), (1, .int x1)]) hf (by decide +kernel) (Nat.le_of_ble_eq_true rfl) rfl (fun hf p e s m args below meth c G X => ?_)
  refine wk_iconst X dX11_treadsOf_0 ic_0 ?_
  refine wk_istore_n (lv' := [(2, .int 0), (0, .ref x0), (1, .int x1)]) X dX11_treadsOf_1 (by decide) rfl ?_
  refine wk_iconst X dX11_treadsOf_2 ic_0 ?_
  refine wk_istore_n (lv' := [(3, .int 0), (2, .int 0), (0, .ref x0), (1, .int x1)]) X dX11_treadsOf_3 (by decide) rfl ?_
  exact wq_sub [2, 3, 1, 0] rfl (wl_X11_treadsOf_4 X _ _ _ _ _ hf)
section Sf_X11_step
variable {p : Program} {l : Launch} {e : Env} {s : State} {m : MethodId} {args : Array Value} {below : List Frame} {meth : Method} {c : Code} {G : hp_G} {o : Int32 × hp_H}
def f_X11_step_54 (x2 : Int32) (h : hp_H) : Option (Int32 × hp_H) := some (x2, h)
set_option maxRecDepth 20000 in
theorem w_X11_step_54 (X : wx G p s m args meth c cX11_step 4 RX11 (some .int)) (x2 : Int32) (h : hp_H) (hf : f_X11_step_54 x2 h = some o) : wq p l e (mt_R (2) 0 0) s m args below meth c (MQ below (mt_Q G (some (.int o.1)) o.2) args s 0 0 (hp_A G)) G 4 0 0 54 [(2, .int x2)] [] h := by
  unfold f_X11_step_54 at hf
  refine wk_iload_n X dX11_step_54 0 rfl ?_
  exact wk_ireturn X dX11_step_55 hf
def f_X11_step_48 (k18 : Nat → Int32 → Int32 → Int32 → hp_H → Option (Int32 × hp_H)) (x0 : Nat) (x1 : Int32) (x2 : Int32) (x3 : Int32) (h : hp_H) : Option (Int32 × hp_H) := k18 x0 x1 x2 (x3 + (-1)) h
set_option maxRecDepth 20000 in
theorem w_X11_step_48 (X : wx G p s m args meth c cX11_step 4 RX11 (some .int)) (k18 : Nat → Int32 → Int32 → Int32 → hp_H → Option (Int32 × hp_H)) (hk18 : ∀ (x0 : Nat) (x1 : Int32) (x2 : Int32) (x3 : Int32) (h : hp_H), k18 x0 x1 x2 x3 h = some o → wq p l e (mt_R (2) 0 0) s m args below meth c (MQ below (mt_Q G (some (.int o.1)) o.2) args s 0 0 (hp_A G)) G 4 0 0 18 [(0, .ref x0), (1, .int x1), (2, .int x2), (3, .int x3)] [] h) (x0 : Nat) (x1 : Int32) (x2 : Int32) (x3 : Int32) (h : hp_H) (hf : f_X11_step_48 k18 x0 x1 x2 x3 h = some o) : wq p l e (mt_R (2) 0 0) s m args below meth c (MQ below (mt_Q G (some (.int o.1)) o.2) args s 0 0 (hp_A G)) G 4 0 0 48 [(0, .ref x0), (1, .int x1), (2, .int x2), (3, .int x3)] [] h := by
  unfold f_X11_step_48 at hf
  refine wk_iinc (lv' := [(3, .int (x3 + (-1))), (0, .ref x0), (1, .int x1), (2, .int x2)]) X dX11_step_48 3 rfl ic_m1 (by decide) rfl ?_
  refine wk_goto X 18 dX11_step_51 (by decide) ?_
  exact wq_sub [1, 2, 3, 0] rfl (hk18 _ _ _ _ _ hf)
def f_X11_step_18 (k18 : Nat → Int32 → Int32 → Int32 → hp_H → Option (Int32 × hp_H)) (x0 : Nat) (x1 : Int32) (x2 : Int32) (x3 : Int32) (h : hp_H) : Option (Int32 × hp_H) := if x3 < 0 then (f_X11_step_54 x2 h) else ((f_X11_treadsOf x0 x3 h).bind fun r1 => (f_X11_treadsOf x0 x1 r1.2).bind fun r2 => if r1.1 = r2.1 then ((f_X11_bits x3 r2.2).bind fun r3 => (f_X11_bits x2 r3.2).bind fun r4 => if r4.1 < r3.1 then (f_X11_step_48 k18 x0 x1 x2 x3 r4.2) else (f_X11_step_48 k18 x0 x1 x3 x3 r4.2)) else (f_X11_step_48 k18 x0 x1 x2 x3 r2.2))
set_option maxRecDepth 20000 in
theorem w_X11_step_18 (X : wx G p s m args meth c cX11_step 4 RX11 (some .int)) (k18 : Nat → Int32 → Int32 → Int32 → hp_H → Option (Int32 × hp_H)) (hk18 : ∀ (x0 : Nat) (x1 : Int32) (x2 : Int32) (x3 : Int32) (h : hp_H), k18 x0 x1 x2 x3 h = some o → wq p l e (mt_R (2) 0 0) s m args below meth c (MQ below (mt_Q G (some (.int o.1)) o.2) args s 0 0 (hp_A G)) G 4 0 0 18 [(0, .ref x0), (1, .int x1), (2, .int x2), (3, .int x3)] [] h) (x0 : Nat) (x1 : Int32) (x2 : Int32) (x3 : Int32) (h : hp_H) (hf : f_X11_step_18 k18 x0 x1 x2 x3 h = some o) : wq p l e (mt_R (2) 0 0) s m args below meth c (MQ below (mt_Q G (some (.int o.1)) o.2) args s 0 0 (hp_A G)) G 4 0 0 18 [(0, .ref x0), (1, .int x1), (2, .int x2), (3, .int x3)] [] h := by
  unfold f_X11_step_18 at hf
  refine wk_iload_n X dX11_step_18 3 rfl ?_
  refine wk_if_lt X 54 dX11_step_19 (by decide) hf (fun hf => ?_) (fun hf => ?_)
  · exact wq_sub [2] rfl (w_X11_step_54 X _ _ hf)
  · refine wk_aload_n X dX11_step_22 0 rfl ?_
    refine wk_iload_n X dX11_step_23 3 rfl ?_
    refine wk_callVi X [.int x3] [] dX11_step_24 rfl vo_X11_398 rfl (by decide) (Nat.le_of_ble_eq_true rfl) hf (c_X11_treadsOf l _ _ _) (fun r1 hf => ?_)
    refine wk_aload_n X dX11_step_27 0 rfl ?_
    refine wk_iload_n X dX11_step_28 1 rfl ?_
    refine wk_callVi X [.int x1] [.int r1.1] dX11_step_29 rfl vo_X11_398 rfl (by decide) (Nat.le_of_ble_eq_true rfl) hf (c_X11_treadsOf l _ _ _) (fun r2 hf => ?_)
    refine wk_icmp_ne X 48 dX11_step_32 (by decide) hf (fun hf => ?_) (fun hf => ?_)
    · exact wq_sub [0, 1, 2, 3] rfl (w_X11_step_48 X k18 hk18 _ _ _ _ _ hf)
    · refine wk_iload_n X dX11_step_35 3 rfl ?_
      refine wk_callSi X [.int x3] [] dX11_step_36 rfl vo_X11_284 rfl (by decide) (Nat.le_of_ble_eq_true rfl) hf (c_X11_bits l _ _) (fun r3 hf => ?_)
      refine wk_iload_n X dX11_step_39 2 rfl ?_
      refine wk_callSi X [.int x2] [.int r3.1] dX11_step_40 rfl vo_X11_284 rfl (by decide) (Nat.le_of_ble_eq_true rfl) hf (c_X11_bits l _ _) (fun r4 hf => ?_)
      refine wk_icmp_gt X 48 dX11_step_43 (by decide) hf (fun hf => ?_) (fun hf => ?_)
      · exact wq_sub [0, 1, 2, 3] rfl (w_X11_step_48 X k18 hk18 _ _ _ _ _ hf)
      · refine wk_iload_n X dX11_step_46 3 rfl ?_
        refine wk_istore_n (lv' := [(2, .int x3), (0, .ref x0), (1, .int x1), (3, .int x3)]) X dX11_step_47 (by decide) rfl ?_
        exact wq_sub [1, 2, 0, 3] rfl (w_X11_step_48 X k18 hk18 _ _ _ _ _ hf)
def l_X11_step_18 (x0 : Nat) (x1 : Int32) (x2 : Int32) (x3 : Int32) (h : hp_H) : Option (Int32 × hp_H) := lp (fun k (s : Nat × Int32 × Int32 × Int32 × hp_H) => f_X11_step_18  (fun a0 a1 a2 a3 a4 => k (a0, a1, a2, a3, a4)) s.1 s.2.1 s.2.2.1 s.2.2.2.1 s.2.2.2.2) 100000 (x0, x1, x2, x3, h)
theorem wl_X11_step_18 (X : wx G p s m args meth c cX11_step 4 RX11 (some .int)) (x0 : Nat) (x1 : Int32) (x2 : Int32) (x3 : Int32) (h : hp_H) (hf : l_X11_step_18 x0 x1 x2 x3 h = some o) : wq p l e (mt_R (2) 0 0) s m args below meth c (MQ below (mt_Q G (some (.int o.1)) o.2) args s 0 0 (hp_A G)) G 4 0 0 18 [(0, .ref x0), (1, .int x1), (2, .int x2), (3, .int x3)] [] h :=
  lp_ind (P := fun (s_ : Nat × Int32 × Int32 × Int32 × hp_H) => wq p l e (mt_R (2) 0 0) s m args below meth c (MQ below (mt_Q G (some (.int o.1)) o.2) args s 0 0 (hp_A G)) G 4 0 0 18 [(0, .ref s_.1), (1, .int s_.2.1), (2, .int s_.2.2.1), (3, .int s_.2.2.2.1)] [] s_.2.2.2.2) (fun k s hk hf => w_X11_step_18 X  (fun a0 a1 a2 a3 a4 => k (a0, a1, a2, a3, a4)) (fun a0 a1 a2 a3 a4 hf => hk (a0, a1, a2, a3, a4) hf) s.1 s.2.1 s.2.2.1 s.2.2.2.1 s.2.2.2.2 hf) 100000 (x0, x1, x2, x3, h) hf
end Sf_X11_step
def f_X11_step (x0 : Nat) (h : hp_H) : Option (Int32 × hp_H) := gd h x0 11 ((wr_I h x0 11 0 0).bind fun h1 => (rd_I h1 x0 11 2).bind fun v2 => l_X11_step_18 x0 ((1 <<< (v2 &&& 31)) - (1 : Int32)) ((1 <<< (v2 &&& 31)) - (1 : Int32)) ((1 <<< (v2 &&& 31)) - (1 : Int32)) h1)
set_option maxRecDepth 20000 in
theorem c_X11_step (l : Launch) (x0 : Nat) (h : hp_H) (r : Int32 × hp_H) (hf : f_X11_step x0 h = some r) : cv l (2) yX11_step cX11_step 4 (some .int) 11 x0 [] h (some (.int r.1)) r.2 := by
  unfold f_X11_step at hf
  refine cv_of (lv := [(0, .ref x0)]) hf (by decide +kernel) (Nat.le_of_ble_eq_true rfl) rfl (fun hf p e s m args below meth c G X => ?_)
  refine wk_aload_n X dX11_step_0 0 rfl ?_
  refine wk_iconst X dX11_step_1 ic_0 ?_
  refine wk_putI X dX11_step_2 fo_X11_84 hf (fun h1 hf => ?_)
  refine wk_iconst X dX11_step_5 ic_1 ?_
  refine wk_aload_n X dX11_step_6 0 rfl ?_
  refine wk_getI X dX11_step_7 fo_X11_251 hf (fun v2 hf => ?_)
  refine wk_ishl X dX11_step_10 ?_
  refine wk_iconst X dX11_step_11 ic_1 ?_
  refine wk_isub X dX11_step_12 ?_
  refine wk_istore_n (lv' := [(1, .int ((1 <<< (v2 &&& 31)) - (1 : Int32))), (0, .ref x0)]) X dX11_step_13 (by decide) rfl ?_
  refine wk_iload_n X dX11_step_14 0 rfl ?_
  refine wk_istore_n (lv' := [(2, .int ((1 <<< (v2 &&& 31)) - (1 : Int32))), (1, .int ((1 <<< (v2 &&& 31)) - (1 : Int32))), (0, .ref x0)]) X dX11_step_15 (by decide) rfl ?_
  refine wk_iload_n X dX11_step_16 1 rfl ?_
  refine wk_istore_n (lv' := [(3, .int ((1 <<< (v2 &&& 31)) - (1 : Int32))), (2, .int ((1 <<< (v2 &&& 31)) - (1 : Int32))), (1, .int ((1 <<< (v2 &&& 31)) - (1 : Int32))), (0, .ref x0)]) X dX11_step_17 (by decide) rfl ?_
  exact wq_sub [3, 2, 1, 0] rfl (wl_X11_step_18 X _ _ _ _ _ hf)
section Sf_X11_chain
variable {p : Program} {l : Launch} {e : Env} {s : State} {m : MethodId} {args : Array Value} {below : List Frame} {meth : Method} {c : Code} {G : hp_G} {o : Int32 × hp_H}
def f_X11_chain_36  (h : hp_H) : Option (Int32 × hp_H) := some (0, h)
set_option maxRecDepth 20000 in
theorem w_X11_chain_36 (X : wx G p s m args meth c cX11_chain 9 RX11 (some .int))  (h : hp_H) (hf : f_X11_chain_36 h = some o) : wq p l e (mt_R (3) 0 0) s m args below meth c (MQ below (mt_Q G (some (.int o.1)) o.2) args s 0 0 (hp_A G)) G 9 0 0 36 [] [] h := by
  unfold f_X11_chain_36 at hf
  refine wk_iconst X dX11_chain_36 ic_0 ?_
  exact wk_ireturn X dX11_chain_37 hf
def f_X11_chain_152  (h : hp_H) : Option (Int32 × hp_H) := some ((-1), h)
set_option maxRecDepth 20000 in
theorem w_X11_chain_152 (X : wx G p s m args meth c cX11_chain 9 RX11 (some .int))  (h : hp_H) (hf : f_X11_chain_152 h = some o) : wq p l e (mt_R (3) 0 0) s m args below meth c (MQ below (mt_Q G (some (.int o.1)) o.2) args s 0 0 (hp_A G)) G 9 0 0 152 [] [] h := by
  unfold f_X11_chain_152 at hf
  refine wk_iconst X dX11_chain_152 ic_m1 ?_
  exact wk_ireturn X dX11_chain_153 hf
def f_X11_chain_142 (k46 : Nat → Int32 → Int32 → Int32 → Int32 → hp_H → Option (Int32 × hp_H)) (x0 : Nat) (x2 : Int32) (x3 : Int32) (x5 : Int32) (x6 : Int32) (h : hp_H) : Option (Int32 × hp_H) := k46 x0 x2 x3 x6 (x5 + 1) h
set_option maxRecDepth 20000 in
theorem w_X11_chain_142 (X : wx G p s m args meth c cX11_chain 9 RX11 (some .int)) (k46 : Nat → Int32 → Int32 → Int32 → Int32 → hp_H → Option (Int32 × hp_H)) (hk46 : ∀ (x0 : Nat) (x2 : Int32) (x3 : Int32) (x4 : Int32) (x5 : Int32) (h : hp_H), k46 x0 x2 x3 x4 x5 h = some o → wq p l e (mt_R (3) 0 0) s m args below meth c (MQ below (mt_Q G (some (.int o.1)) o.2) args s 0 0 (hp_A G)) G 9 0 0 46 [(0, .ref x0), (2, .int x2), (3, .int x3), (4, .int x4), (5, .int x5)] [] h) (x0 : Nat) (x2 : Int32) (x3 : Int32) (x5 : Int32) (x6 : Int32) (h : hp_H) (hf : f_X11_chain_142 k46 x0 x2 x3 x5 x6 h = some o) : wq p l e (mt_R (3) 0 0) s m args below meth c (MQ below (mt_Q G (some (.int o.1)) o.2) args s 0 0 (hp_A G)) G 9 0 0 142 [(0, .ref x0), (2, .int x2), (3, .int x3), (5, .int x5), (6, .int x6)] [] h := by
  unfold f_X11_chain_142 at hf
  refine wk_iload X dX11_chain_142 4 rfl ?_
  refine wk_istore (lv' := [(4, .int x6), (0, .ref x0), (2, .int x2), (3, .int x3), (5, .int x5), (6, .int x6)]) X dX11_chain_144 (by decide) rfl ?_
  refine wk_iinc (lv' := [(5, .int (x5 + 1)), (4, .int x6), (0, .ref x0), (2, .int x2), (3, .int x3), (6, .int x6)]) X dX11_chain_146 4 rfl ic_1 (by decide) rfl ?_
  refine wk_goto X 46 dX11_chain_149 (by decide) ?_
  exact wq_sub [2, 3, 4, 1, 0] rfl (hk46 _ _ _ _ _ _ hf)
def f_X11_chain_136 (k46 : Nat → Int32 → Int32 → Int32 → Int32 → hp_H → Option (Int32 × hp_H)) (k73 : Nat → Int32 → Int32 → Int32 → Int32 → Int32 → Int32 → hp_H → Option (Int32 × hp_H)) (x0 : Nat) (x2 : Int32) (x3 : Int32) (x4 : Int32) (x5 : Int32) (x6 : Int32) (x7 : Int32) (h : hp_H) : Option (Int32 × hp_H) := k73 x0 x2 x3 x4 x5 x6 (x7 + 1) h
set_option maxRecDepth 20000 in
theorem w_X11_chain_136 (X : wx G p s m args meth c cX11_chain 9 RX11 (some .int)) (k46 : Nat → Int32 → Int32 → Int32 → Int32 → hp_H → Option (Int32 × hp_H)) (hk46 : ∀ (x0 : Nat) (x2 : Int32) (x3 : Int32) (x4 : Int32) (x5 : Int32) (h : hp_H), k46 x0 x2 x3 x4 x5 h = some o → wq p l e (mt_R (3) 0 0) s m args below meth c (MQ below (mt_Q G (some (.int o.1)) o.2) args s 0 0 (hp_A G)) G 9 0 0 46 [(0, .ref x0), (2, .int x2), (3, .int x3), (4, .int x4), (5, .int x5)] [] h) (k73 : Nat → Int32 → Int32 → Int32 → Int32 → Int32 → Int32 → hp_H → Option (Int32 × hp_H)) (hk73 : ∀ (x0 : Nat) (x2 : Int32) (x3 : Int32) (x4 : Int32) (x5 : Int32) (x6 : Int32) (x7 : Int32) (h : hp_H), k73 x0 x2 x3 x4 x5 x6 x7 h = some o → wq p l e (mt_R (3) 0 0) s m args below meth c (MQ below (mt_Q G (some (.int o.1)) o.2) args s 0 0 (hp_A G)) G 9 0 0 73 [(0, .ref x0), (2, .int x2), (3, .int x3), (4, .int x4), (5, .int x5), (6, .int x6), (7, .int x7)] [] h) (x0 : Nat) (x2 : Int32) (x3 : Int32) (x4 : Int32) (x5 : Int32) (x6 : Int32) (x7 : Int32) (h : hp_H) (hf : f_X11_chain_136 k46 k73 x0 x2 x3 x4 x5 x6 x7 h = some o) : wq p l e (mt_R (3) 0 0) s m args below meth c (MQ below (mt_Q G (some (.int o.1)) o.2) args s 0 0 (hp_A G)) G 9 0 0 136 [(0, .ref x0), (2, .int x2), (3, .int x3), (4, .int x4), (5, .int x5), (6, .int x6), (7, .int x7)] [] h := by
  unfold f_X11_chain_136 at hf
  refine wk_iinc (lv' := [(7, .int (x7 + 1)), (0, .ref x0), (2, .int x2), (3, .int x3), (4, .int x4), (5, .int x5), (6, .int x6)]) X dX11_chain_136 6 rfl ic_1 (by decide) rfl ?_
  refine wk_goto X 73 dX11_chain_139 (by decide) ?_
  exact wq_sub [1, 2, 3, 4, 5, 6, 0] rfl (hk73 _ _ _ _ _ _ _ _ hf)
def f_X11_chain_127 (k46 : Nat → Int32 → Int32 → Int32 → Int32 → hp_H → Option (Int32 × hp_H)) (k73 : Nat → Int32 → Int32 → Int32 → Int32 → Int32 → Int32 → hp_H → Option (Int32 × hp_H)) (k85 : Nat → Int32 → Int32 → Int32 → Int32 → Int32 → Int32 → Int32 → hp_H → Option (Int32 × hp_H)) (x0 : Nat) (x2 : Int32) (x3 : Int32) (x4 : Int32) (x5 : Int32) (x7 : Int32) (x8 : Int32) (t0 : Int32) (t1 : Int32) (h : hp_H) : Option (Int32 × hp_H) := k85 x0 x2 x3 x4 x5 (t0 ||| t1) x7 (x8 + 1) h
set_option maxRecDepth 20000 in
theorem w_X11_chain_127 (X : wx G p s m args meth c cX11_chain 9 RX11 (some .int)) (k46 : Nat → Int32 → Int32 → Int32 → Int32 → hp_H → Option (Int32 × hp_H)) (hk46 : ∀ (x0 : Nat) (x2 : Int32) (x3 : Int32) (x4 : Int32) (x5 : Int32) (h : hp_H), k46 x0 x2 x3 x4 x5 h = some o → wq p l e (mt_R (3) 0 0) s m args below meth c (MQ below (mt_Q G (some (.int o.1)) o.2) args s 0 0 (hp_A G)) G 9 0 0 46 [(0, .ref x0), (2, .int x2), (3, .int x3), (4, .int x4), (5, .int x5)] [] h) (k73 : Nat → Int32 → Int32 → Int32 → Int32 → Int32 → Int32 → hp_H → Option (Int32 × hp_H)) (hk73 : ∀ (x0 : Nat) (x2 : Int32) (x3 : Int32) (x4 : Int32) (x5 : Int32) (x6 : Int32) (x7 : Int32) (h : hp_H), k73 x0 x2 x3 x4 x5 x6 x7 h = some o → wq p l e (mt_R (3) 0 0) s m args below meth c (MQ below (mt_Q G (some (.int o.1)) o.2) args s 0 0 (hp_A G)) G 9 0 0 73 [(0, .ref x0), (2, .int x2), (3, .int x3), (4, .int x4), (5, .int x5), (6, .int x6), (7, .int x7)] [] h) (k85 : Nat → Int32 → Int32 → Int32 → Int32 → Int32 → Int32 → Int32 → hp_H → Option (Int32 × hp_H)) (hk85 : ∀ (x0 : Nat) (x2 : Int32) (x3 : Int32) (x4 : Int32) (x5 : Int32) (x6 : Int32) (x7 : Int32) (x8 : Int32) (h : hp_H), k85 x0 x2 x3 x4 x5 x6 x7 x8 h = some o → wq p l e (mt_R (3) 0 0) s m args below meth c (MQ below (mt_Q G (some (.int o.1)) o.2) args s 0 0 (hp_A G)) G 9 0 0 85 [(0, .ref x0), (2, .int x2), (3, .int x3), (4, .int x4), (5, .int x5), (6, .int x6), (7, .int x7), (8, .int x8)] [] h) (x0 : Nat) (x2 : Int32) (x3 : Int32) (x4 : Int32) (x5 : Int32) (x7 : Int32) (x8 : Int32) (t0 : Int32) (t1 : Int32) (h : hp_H) (hf : f_X11_chain_127 k46 k73 k85 x0 x2 x3 x4 x5 x7 x8 t0 t1 h = some o) : wq p l e (mt_R (3) 0 0) s m args below meth c (MQ below (mt_Q G (some (.int o.1)) o.2) args s 0 0 (hp_A G)) G 9 0 0 127 [(0, .ref x0), (2, .int x2), (3, .int x3), (4, .int x4), (5, .int x5), (7, .int x7), (8, .int x8)] [.int t1, .int t0] h := by
  unfold f_X11_chain_127 at hf
  refine wk_ior X dX11_chain_127 ?_
  refine wk_istore (lv' := [(6, .int (t0 ||| t1)), (0, .ref x0), (2, .int x2), (3, .int x3), (4, .int x4), (5, .int x5), (7, .int x7), (8, .int x8)]) X dX11_chain_128 (by decide) rfl ?_
  refine wk_iinc (lv' := [(8, .int (x8 + 1)), (6, .int (t0 ||| t1)), (0, .ref x0), (2, .int x2), (3, .int x3), (4, .int x4), (5, .int x5), (7, .int x7)]) X dX11_chain_130 7 rfl ic_1 (by decide) rfl ?_
  refine wk_goto X 85 dX11_chain_133 (by decide) ?_
  exact wq_sub [2, 3, 4, 5, 6, 1, 7, 0] rfl (hk85 _ _ _ _ _ _ _ _ _ hf)
def f_X11_chain_126 (k46 : Nat → Int32 → Int32 → Int32 → Int32 → hp_H → Option (Int32 × hp_H)) (k73 : Nat → Int32 → Int32 → Int32 → Int32 → Int32 → Int32 → hp_H → Option (Int32 × hp_H)) (k85 : Nat → Int32 → Int32 → Int32 → Int32 → Int32 → Int32 → Int32 → hp_H → Option (Int32 × hp_H)) (x0 : Nat) (x2 : Int32) (x3 : Int32) (x4 : Int32) (x5 : Int32) (x7 : Int32) (x8 : Int32) (t0 : Int32) (h : hp_H) : Option (Int32 × hp_H) := f_X11_chain_127 k46 k73 k85 x0 x2 x3 x4 x5 x7 x8 t0 0 h
set_option maxRecDepth 20000 in
theorem w_X11_chain_126 (X : wx G p s m args meth c cX11_chain 9 RX11 (some .int)) (k46 : Nat → Int32 → Int32 → Int32 → Int32 → hp_H → Option (Int32 × hp_H)) (hk46 : ∀ (x0 : Nat) (x2 : Int32) (x3 : Int32) (x4 : Int32) (x5 : Int32) (h : hp_H), k46 x0 x2 x3 x4 x5 h = some o → wq p l e (mt_R (3) 0 0) s m args below meth c (MQ below (mt_Q G (some (.int o.1)) o.2) args s 0 0 (hp_A G)) G 9 0 0 46 [(0, .ref x0), (2, .int x2), (3, .int x3), (4, .int x4), (5, .int x5)] [] h) (k73 : Nat → Int32 → Int32 → Int32 → Int32 → Int32 → Int32 → hp_H → Option (Int32 × hp_H)) (hk73 : ∀ (x0 : Nat) (x2 : Int32) (x3 : Int32) (x4 : Int32) (x5 : Int32) (x6 : Int32) (x7 : Int32) (h : hp_H), k73 x0 x2 x3 x4 x5 x6 x7 h = some o → wq p l e (mt_R (3) 0 0) s m args below meth c (MQ below (mt_Q G (some (.int o.1)) o.2) args s 0 0 (hp_A G)) G 9 0 0 73 [(0, .ref x0), (2, .int x2), (3, .int x3), (4, .int x4), (5, .int x5), (6, .int x6), (7, .int x7)] [] h) (k85 : Nat → Int32 → Int32 → Int32 → Int32 → Int32 → Int32 → Int32 → hp_H → Option (Int32 × hp_H)) (hk85 : ∀ (x0 : Nat) (x2 : Int32) (x3 : Int32) (x4 : Int32) (x5 : Int32) (x6 : Int32) (x7 : Int32) (x8 : Int32) (h : hp_H), k85 x0 x2 x3 x4 x5 x6 x7 x8 h = some o → wq p l e (mt_R (3) 0 0) s m args below meth c (MQ below (mt_Q G (some (.int o.1)) o.2) args s 0 0 (hp_A G)) G 9 0 0 85 [(0, .ref x0), (2, .int x2), (3, .int x3), (4, .int x4), (5, .int x5), (6, .int x6), (7, .int x7), (8, .int x8)] [] h) (x0 : Nat) (x2 : Int32) (x3 : Int32) (x4 : Int32) (x5 : Int32) (x7 : Int32) (x8 : Int32) (t0 : Int32) (h : hp_H) (hf : f_X11_chain_126 k46 k73 k85 x0 x2 x3 x4 x5 x7 x8 t0 h = some o) : wq p l e (mt_R (3) 0 0) s m args below meth c (MQ below (mt_Q G (some (.int o.1)) o.2) args s 0 0 (hp_A G)) G 9 0 0 126 [(0, .ref x0), (2, .int x2), (3, .int x3), (4, .int x4), (5, .int x5), (7, .int x7), (8, .int x8)] [.int t0] h := by
  unfold f_X11_chain_126 at hf
  refine wk_iconst X dX11_chain_126 ic_0 ?_
  exact wq_sub [0, 1, 2, 3, 4, 5, 6] rfl (w_X11_chain_127 X k46 hk46 k73 hk73 k85 hk85 _ _ _ _ _ _ _ _ _ _ hf)
def f_X11_chain_85 (k46 : Nat → Int32 → Int32 → Int32 → Int32 → hp_H → Option (Int32 × hp_H)) (k73 : Nat → Int32 → Int32 → Int32 → Int32 → Int32 → Int32 → hp_H → Option (Int32 × hp_H)) (k85 : Nat → Int32 → Int32 → Int32 → Int32 → Int32 → Int32 → Int32 → hp_H → Option (Int32 × hp_H)) (x0 : Nat) (x2 : Int32) (x3 : Int32) (x4 : Int32) (x5 : Int32) (x6 : Int32) (x7 : Int32) (x8 : Int32) (h : hp_H) : Option (Int32 × hp_H) := (rd_I h x0 11 2).bind fun v1 => if v1 ≤ x8 then (f_X11_chain_136 k46 k73 x0 x2 x3 x4 x5 x6 x7 h) else (if ((x4 >>> (x7 &&& 31)) &&& (1 : Int32)) = 1 then ((f_X11_farOf x0 x7 x8 h).bind fun r2 => if x3 < r2.1 then (f_X11_chain_126 k46 k73 k85 x0 x2 x3 x4 x5 x7 x8 x6 r2.2) else (f_X11_chain_127 k46 k73 k85 x0 x2 x3 x4 x5 x7 x8 x6 (1 <<< (x8 &&& 31)) r2.2)) else (f_X11_chain_126 k46 k73 k85 x0 x2 x3 x4 x5 x7 x8 x6 h))
set_option maxRecDepth 20000 in
theorem w_X11_chain_85 (X : wx G p s m args meth c cX11_chain 9 RX11 (some .int)) (k46 : Nat → Int32 → Int32 → Int32 → Int32 → hp_H → Option (Int32 × hp_H)) (hk46 : ∀ (x0 : Nat) (x2 : Int32) (x3 : Int32) (x4 : Int32) (x5 : Int32) (h : hp_H), k46 x0 x2 x3 x4 x5 h = some o → wq p l e (mt_R (3) 0 0) s m args below meth c (MQ below (mt_Q G (some (.int o.1)) o.2) args s 0 0 (hp_A G)) G 9 0 0 46 [(0, .ref x0), (2, .int x2), (3, .int x3), (4, .int x4), (5, .int x5)] [] h) (k73 : Nat → Int32 → Int32 → Int32 → Int32 → Int32 → Int32 → hp_H → Option (Int32 × hp_H)) (hk73 : ∀ (x0 : Nat) (x2 : Int32) (x3 : Int32) (x4 : Int32) (x5 : Int32) (x6 : Int32) (x7 : Int32) (h : hp_H), k73 x0 x2 x3 x4 x5 x6 x7 h = some o → wq p l e (mt_R (3) 0 0) s m args below meth c (MQ below (mt_Q G (some (.int o.1)) o.2) args s 0 0 (hp_A G)) G 9 0 0 73 [(0, .ref x0), (2, .int x2), (3, .int x3), (4, .int x4), (5, .int x5), (6, .int x6), (7, .int x7)] [] h) (k85 : Nat → Int32 → Int32 → Int32 → Int32 → Int32 → Int32 → Int32 → hp_H → Option (Int32 × hp_H)) (hk85 : ∀ (x0 : Nat) (x2 : Int32) (x3 : Int32) (x4 : Int32) (x5 : Int32) (x6 : Int32) (x7 : Int32) (x8 : Int32) (h : hp_H), k85 x0 x2 x3 x4 x5 x6 x7 x8 h = some o → wq p l e (mt_R (3) 0 0) s m args below meth c (MQ below (mt_Q G (some (.int o.1)) o.2) args s 0 0 (hp_A G)) G 9 0 0 85 [(0, .ref x0), (2, .int x2), (3, .int x3), (4, .int x4), (5, .int x5), (6, .int x6), (7, .int x7), (8, .int x8)] [] h) (x0 : Nat) (x2 : Int32) (x3 : Int32) (x4 : Int32) (x5 : Int32) (x6 : Int32) (x7 : Int32) (x8 : Int32) (h : hp_H) (hf : f_X11_chain_85 k46 k73 k85 x0 x2 x3 x4 x5 x6 x7 x8 h = some o) : wq p l e (mt_R (3) 0 0) s m args below meth c (MQ below (mt_Q G (some (.int o.1)) o.2) args s 0 0 (hp_A G)) G 9 0 0 85 [(0, .ref x0), (2, .int x2), (3, .int x3), (4, .int x4), (5, .int x5), (6, .int x6), (7, .int x7), (8, .int x8)] [] h := by
  unfold f_X11_chain_85 at hf
  refine wk_iload X dX11_chain_85 7 rfl ?_
  refine wk_aload_n X dX11_chain_87 0 rfl ?_
  refine wk_getI X dX11_chain_88 fo_X11_251 hf (fun v1 hf => ?_)
  refine wk_icmp_ge X 136 dX11_chain_91 (by decide) hf (fun hf => ?_) (fun hf => ?_)
  · exact wq_sub [0, 1, 2, 3, 4, 5, 6] rfl (w_X11_chain_136 X k46 hk46 k73 hk73 _ _ _ _ _ _ _ _ hf)
  · refine wk_iload X dX11_chain_94 5 rfl ?_
    refine wk_iload X dX11_chain_96 3 rfl ?_
    refine wk_iload X dX11_chain_98 6 rfl ?_
    refine wk_ishr X dX11_chain_100 ?_
    refine wk_iconst X dX11_chain_101 ic_1 ?_
    refine wk_iand X dX11_chain_102 ?_
    refine wk_iconst X dX11_chain_103 ic_1 ?_
    refine wk_icmp_ne X 126 dX11_chain_104 (by decide) hf (fun hf => ?_) (fun hf => ?_)
    · exact wq_sub [0, 1, 2, 3, 4, 6, 7] rfl (w_X11_chain_126 X k46 hk46 k73 hk73 k85 hk85 _ _ _ _ _ _ _ _ _ hf)
    · refine wk_aload_n X dX11_chain_107 0 rfl ?_
      refine wk_iload X dX11_chain_108 6 rfl ?_
      refine wk_iload X dX11_chain_110 7 rfl ?_
      refine wk_callVi X [.int x7, .int x8] [.int x6] dX11_chain_112 rfl vo_X11_359 rfl (by decide) (Nat.le_of_ble_eq_true rfl) hf (c_X11_farOf l _ _ _ _) (fun r2 hf => ?_)
      refine wk_iload_n X dX11_chain_115 2 rfl ?_
      refine wk_icmp_gt X 126 dX11_chain_116 (by decide) hf (fun hf => ?_) (fun hf => ?_)
      · exact wq_sub [0, 1, 2, 3, 4, 6, 7] rfl (w_X11_chain_126 X k46 hk46 k73 hk73 k85 hk85 _ _ _ _ _ _ _ _ _ hf)
      · refine wk_iconst X dX11_chain_119 ic_1 ?_
        refine wk_iload X dX11_chain_120 7 rfl ?_
        refine wk_ishl X dX11_chain_122 ?_
        refine wk_goto X 127 dX11_chain_123 (by decide) ?_
        exact wq_sub [0, 1, 2, 3, 4, 6, 7] rfl (w_X11_chain_127 X k46 hk46 k73 hk73 k85 hk85 _ _ _ _ _ _ _ _ _ _ hf)
def l_X11_chain_85 (k46 : Nat → Int32 → Int32 → Int32 → Int32 → hp_H → Option (Int32 × hp_H)) (k73 : Nat → Int32 → Int32 → Int32 → Int32 → Int32 → Int32 → hp_H → Option (Int32 × hp_H)) (x0 : Nat) (x2 : Int32) (x3 : Int32) (x4 : Int32) (x5 : Int32) (x6 : Int32) (x7 : Int32) (x8 : Int32) (h : hp_H) : Option (Int32 × hp_H) := lp (fun k (s : Nat × Int32 × Int32 × Int32 × Int32 × Int32 × Int32 × Int32 × hp_H) => f_X11_chain_85 k46 k73 (fun a0 a1 a2 a3 a4 a5 a6 a7 a8 => k (a0, a1, a2, a3, a4, a5, a6, a7, a8)) s.1 s.2.1 s.2.2.1 s.2.2.2.1 s.2.2.2.2.1 s.2.2.2.2.2.1 s.2.2.2.2.2.2.1 s.2.2.2.2.2.2.2.1 s.2.2.2.2.2.2.2.2) 100000 (x0, x2, x3, x4, x5, x6, x7, x8, h)
theorem wl_X11_chain_85 (X : wx G p s m args meth c cX11_chain 9 RX11 (some .int)) (k46 : Nat → Int32 → Int32 → Int32 → Int32 → hp_H → Option (Int32 × hp_H)) (hk46 : ∀ (x0 : Nat) (x2 : Int32) (x3 : Int32) (x4 : Int32) (x5 : Int32) (h : hp_H), k46 x0 x2 x3 x4 x5 h = some o → wq p l e (mt_R (3) 0 0) s m args below meth c (MQ below (mt_Q G (some (.int o.1)) o.2) args s 0 0 (hp_A G)) G 9 0 0 46 [(0, .ref x0), (2, .int x2), (3, .int x3), (4, .int x4), (5, .int x5)] [] h) (k73 : Nat → Int32 → Int32 → Int32 → Int32 → Int32 → Int32 → hp_H → Option (Int32 × hp_H)) (hk73 : ∀ (x0 : Nat) (x2 : Int32) (x3 : Int32) (x4 : Int32) (x5 : Int32) (x6 : Int32) (x7 : Int32) (h : hp_H), k73 x0 x2 x3 x4 x5 x6 x7 h = some o → wq p l e (mt_R (3) 0 0) s m args below meth c (MQ below (mt_Q G (some (.int o.1)) o.2) args s 0 0 (hp_A G)) G 9 0 0 73 [(0, .ref x0), (2, .int x2), (3, .int x3), (4, .int x4), (5, .int x5), (6, .int x6), (7, .int x7)] [] h) (x0 : Nat) (x2 : Int32) (x3 : Int32) (x4 : Int32) (x5 : Int32) (x6 : Int32) (x7 : Int32) (x8 : Int32) (h : hp_H) (hf : l_X11_chain_85 k46 k73 x0 x2 x3 x4 x5 x6 x7 x8 h = some o) : wq p l e (mt_R (3) 0 0) s m args below meth c (MQ below (mt_Q G (some (.int o.1)) o.2) args s 0 0 (hp_A G)) G 9 0 0 85 [(0, .ref x0), (2, .int x2), (3, .int x3), (4, .int x4), (5, .int x5), (6, .int x6), (7, .int x7), (8, .int x8)] [] h :=
  lp_ind (P := fun (s_ : Nat × Int32 × Int32 × Int32 × Int32 × Int32 × Int32 × Int32 × hp_H) => wq p l e (mt_R (3) 0 0) s m args below meth c (MQ below (mt_Q G (some (.int o.1)) o.2) args s 0 0 (hp_A G)) G 9 0 0 85 [(0, .ref s_.1), (2, .int s_.2.1), (3, .int s_.2.2.1), (4, .int s_.2.2.2.1), (5, .int s_.2.2.2.2.1), (6, .int s_.2.2.2.2.2.1), (7, .int s_.2.2.2.2.2.2.1), (8, .int s_.2.2.2.2.2.2.2.1)] [] s_.2.2.2.2.2.2.2.2) (fun k s hk hf => w_X11_chain_85 X k46 hk46 k73 hk73 (fun a0 a1 a2 a3 a4 a5 a6 a7 a8 => k (a0, a1, a2, a3, a4, a5, a6, a7, a8)) (fun a0 a1 a2 a3 a4 a5 a6 a7 a8 hf => hk (a0, a1, a2, a3, a4, a5, a6, a7, a8) hf) s.1 s.2.1 s.2.2.1 s.2.2.2.1 s.2.2.2.2.1 s.2.2.2.2.2.1 s.2.2.2.2.2.2.1 s.2.2.2.2.2.2.2.1 s.2.2.2.2.2.2.2.2 hf) 100000 (x0, x2, x3, x4, x5, x6, x7, x8, h) hf
def f_X11_chain_73 (k46 : Nat → Int32 → Int32 → Int32 → Int32 → hp_H → Option (Int32 × hp_H)) (k73 : Nat → Int32 → Int32 → Int32 → Int32 → Int32 → Int32 → hp_H → Option (Int32 × hp_H)) (x0 : Nat) (x2 : Int32) (x3 : Int32) (x4 : Int32) (x5 : Int32) (x6 : Int32) (x7 : Int32) (h : hp_H) : Option (Int32 × hp_H) := (rd_I h x0 11 2).bind fun v1 => if v1 ≤ x7 then (f_X11_chain_142 k46 x0 x2 x3 x5 x6 h) else (l_X11_chain_85 k46 k73 x0 x2 x3 x4 x5 x6 x7 0 h)
set_option maxRecDepth 20000 in
theorem w_X11_chain_73 (X : wx G p s m args meth c cX11_chain 9 RX11 (some .int)) (k46 : Nat → Int32 → Int32 → Int32 → Int32 → hp_H → Option (Int32 × hp_H)) (hk46 : ∀ (x0 : Nat) (x2 : Int32) (x3 : Int32) (x4 : Int32) (x5 : Int32) (h : hp_H), k46 x0 x2 x3 x4 x5 h = some o → wq p l e (mt_R (3) 0 0) s m args below meth c (MQ below (mt_Q G (some (.int o.1)) o.2) args s 0 0 (hp_A G)) G 9 0 0 46 [(0, .ref x0), (2, .int x2), (3, .int x3), (4, .int x4), (5, .int x5)] [] h) (k73 : Nat → Int32 → Int32 → Int32 → Int32 → Int32 → Int32 → hp_H → Option (Int32 × hp_H)) (hk73 : ∀ (x0 : Nat) (x2 : Int32) (x3 : Int32) (x4 : Int32) (x5 : Int32) (x6 : Int32) (x7 : Int32) (h : hp_H), k73 x0 x2 x3 x4 x5 x6 x7 h = some o → wq p l e (mt_R (3) 0 0) s m args below meth c (MQ below (mt_Q G (some (.int o.1)) o.2) args s 0 0 (hp_A G)) G 9 0 0 73 [(0, .ref x0), (2, .int x2), (3, .int x3), (4, .int x4), (5, .int x5), (6, .int x6), (7, .int x7)] [] h) (x0 : Nat) (x2 : Int32) (x3 : Int32) (x4 : Int32) (x5 : Int32) (x6 : Int32) (x7 : Int32) (h : hp_H) (hf : f_X11_chain_73 k46 k73 x0 x2 x3 x4 x5 x6 x7 h = some o) : wq p l e (mt_R (3) 0 0) s m args below meth c (MQ below (mt_Q G (some (.int o.1)) o.2) args s 0 0 (hp_A G)) G 9 0 0 73 [(0, .ref x0), (2, .int x2), (3, .int x3), (4, .int x4), (5, .int x5), (6, .int x6), (7, .int x7)] [] h := by
  unfold f_X11_chain_73 at hf
  refine wk_iload X dX11_chain_73 6 rfl ?_
  refine wk_aload_n X dX11_chain_75 0 rfl ?_
  refine wk_getI X dX11_chain_76 fo_X11_251 hf (fun v1 hf => ?_)
  refine wk_icmp_ge X 142 dX11_chain_79 (by decide) hf (fun hf => ?_) (fun hf => ?_)
  · exact wq_sub [0, 1, 2, 4, 5] rfl (w_X11_chain_142 X k46 hk46 _ _ _ _ _ _ hf)
  · refine wk_iconst X dX11_chain_82 ic_0 ?_
    refine wk_istore (lv' := [(8, .int 0), (0, .ref x0), (2, .int x2), (3, .int x3), (4, .int x4), (5, .int x5), (6, .int x6), (7, .int x7)]) X dX11_chain_83 (by decide) rfl ?_
    exact wq_sub [1, 2, 3, 4, 5, 6, 7, 0] rfl (wl_X11_chain_85 X k46 hk46 k73 hk73 _ _ _ _ _ _ _ _ _ hf)
def l_X11_chain_73 (k46 : Nat → Int32 → Int32 → Int32 → Int32 → hp_H → Option (Int32 × hp_H)) (x0 : Nat) (x2 : Int32) (x3 : Int32) (x4 : Int32) (x5 : Int32) (x6 : Int32) (x7 : Int32) (h : hp_H) : Option (Int32 × hp_H) := lp (fun k (s : Nat × Int32 × Int32 × Int32 × Int32 × Int32 × Int32 × hp_H) => f_X11_chain_73 k46 (fun a0 a1 a2 a3 a4 a5 a6 a7 => k (a0, a1, a2, a3, a4, a5, a6, a7)) s.1 s.2.1 s.2.2.1 s.2.2.2.1 s.2.2.2.2.1 s.2.2.2.2.2.1 s.2.2.2.2.2.2.1 s.2.2.2.2.2.2.2) 100000 (x0, x2, x3, x4, x5, x6, x7, h)
theorem wl_X11_chain_73 (X : wx G p s m args meth c cX11_chain 9 RX11 (some .int)) (k46 : Nat → Int32 → Int32 → Int32 → Int32 → hp_H → Option (Int32 × hp_H)) (hk46 : ∀ (x0 : Nat) (x2 : Int32) (x3 : Int32) (x4 : Int32) (x5 : Int32) (h : hp_H), k46 x0 x2 x3 x4 x5 h = some o → wq p l e (mt_R (3) 0 0) s m args below meth c (MQ below (mt_Q G (some (.int o.1)) o.2) args s 0 0 (hp_A G)) G 9 0 0 46 [(0, .ref x0), (2, .int x2), (3, .int x3), (4, .int x4), (5, .int x5)] [] h) (x0 : Nat) (x2 : Int32) (x3 : Int32) (x4 : Int32) (x5 : Int32) (x6 : Int32) (x7 : Int32) (h : hp_H) (hf : l_X11_chain_73 k46 x0 x2 x3 x4 x5 x6 x7 h = some o) : wq p l e (mt_R (3) 0 0) s m args below meth c (MQ below (mt_Q G (some (.int o.1)) o.2) args s 0 0 (hp_A G)) G 9 0 0 73 [(0, .ref x0), (2, .int x2), (3, .int x3), (4, .int x4), (5, .int x5), (6, .int x6), (7, .int x7)] [] h :=
  lp_ind (P := fun (s_ : Nat × Int32 × Int32 × Int32 × Int32 × Int32 × Int32 × hp_H) => wq p l e (mt_R (3) 0 0) s m args below meth c (MQ below (mt_Q G (some (.int o.1)) o.2) args s 0 0 (hp_A G)) G 9 0 0 73 [(0, .ref s_.1), (2, .int s_.2.1), (3, .int s_.2.2.1), (4, .int s_.2.2.2.1), (5, .int s_.2.2.2.2.1), (6, .int s_.2.2.2.2.2.1), (7, .int s_.2.2.2.2.2.2.1)] [] s_.2.2.2.2.2.2.2) (fun k s hk hf => w_X11_chain_73 X k46 hk46 (fun a0 a1 a2 a3 a4 a5 a6 a7 => k (a0, a1, a2, a3, a4, a5, a6, a7)) (fun a0 a1 a2 a3 a4 a5 a6 a7 hf => hk (a0, a1, a2, a3, a4, a5, a6, a7) hf) s.1 s.2.1 s.2.2.1 s.2.2.2.1 s.2.2.2.2.1 s.2.2.2.2.2.1 s.2.2.2.2.2.2.1 s.2.2.2.2.2.2.2 hf) 100000 (x0, x2, x3, x4, x5, x6, x7, h) hf
def f_X11_chain_63 (x5 : Int32) (h : hp_H) : Option (Int32 × hp_H) := some (x5, h)
set_option maxRecDepth 20000 in
theorem w_X11_chain_63 (X : wx G p s m args meth c cX11_chain 9 RX11 (some .int)) (x5 : Int32) (h : hp_H) (hf : f_X11_chain_63 x5 h = some o) : wq p l e (mt_R (3) 0 0) s m args below meth c (MQ below (mt_Q G (some (.int o.1)) o.2) args s 0 0 (hp_A G)) G 9 0 0 63 [(5, .int x5)] [] h := by
  unfold f_X11_chain_63 at hf
  refine wk_iload X dX11_chain_63 0 rfl ?_
  exact wk_ireturn X dX11_chain_65 hf
def f_X11_chain_46 (k46 : Nat → Int32 → Int32 → Int32 → Int32 → hp_H → Option (Int32 × hp_H)) (x0 : Nat) (x2 : Int32) (x3 : Int32) (x4 : Int32) (x5 : Int32) (h : hp_H) : Option (Int32 × hp_H) := if 8 ≤ x5 then (f_X11_chain_152 h) else (if ((x4 >>> (x2 &&& 31)) &&& (1 : Int32)) = 1 then (f_X11_chain_63 x5 h) else (l_X11_chain_73 k46 x0 x2 x3 x4 x5 x4 0 h))
set_option maxRecDepth 20000 in
theorem w_X11_chain_46 (X : wx G p s m args meth c cX11_chain 9 RX11 (some .int)) (k46 : Nat → Int32 → Int32 → Int32 → Int32 → hp_H → Option (Int32 × hp_H)) (hk46 : ∀ (x0 : Nat) (x2 : Int32) (x3 : Int32) (x4 : Int32) (x5 : Int32) (h : hp_H), k46 x0 x2 x3 x4 x5 h = some o → wq p l e (mt_R (3) 0 0) s m args below meth c (MQ below (mt_Q G (some (.int o.1)) o.2) args s 0 0 (hp_A G)) G 9 0 0 46 [(0, .ref x0), (2, .int x2), (3, .int x3), (4, .int x4), (5, .int x5)] [] h) (x0 : Nat) (x2 : Int32) (x3 : Int32) (x4 : Int32) (x5 : Int32) (h : hp_H) (hf : f_X11_chain_46 k46 x0 x2 x3 x4 x5 h = some o) : wq p l e (mt_R (3) 0 0) s m args below meth c (MQ below (mt_Q G (some (.int o.1)) o.2) args s 0 0 (hp_A G)) G 9 0 0 46 [(0, .ref x0), (2, .int x2), (3, .int x3), (4, .int x4), (5, .int x5)] [] h := by
  unfold f_X11_chain_46 at hf
  refine wk_iload X dX11_chain_46 4 rfl ?_
  refine wk_bipush X dX11_chain_48 ib_8 ?_
  refine wk_icmp_ge X 152 dX11_chain_50 (by decide) hf (fun hf => ?_) (fun hf => ?_)
  · exact wq_sub [] rfl (w_X11_chain_152 X _ hf)
  · refine wk_iload X dX11_chain_53 3 rfl ?_
    refine wk_iload_n X dX11_chain_55 1 rfl ?_
    refine wk_ishr X dX11_chain_56 ?_
    refine wk_iconst X dX11_chain_57 ic_1 ?_
    refine wk_iand X dX11_chain_58 ?_
    refine wk_iconst X dX11_chain_59 ic_1 ?_
    refine wk_icmp_ne X 66 dX11_chain_60 (by decide) hf (fun hf => ?_) (fun hf => ?_)
    · refine wk_iload X dX11_chain_66 3 rfl ?_
      refine wk_istore (lv' := [(6, .int x4), (0, .ref x0), (2, .int x2), (3, .int x3), (4, .int x4), (5, .int x5)]) X dX11_chain_68 (by decide) rfl ?_
      refine wk_iconst X dX11_chain_70 ic_0 ?_
      refine wk_istore (lv' := [(7, .int 0), (6, .int x4), (0, .ref x0), (2, .int x2), (3, .int x3), (4, .int x4), (5, .int x5)]) X dX11_chain_71 (by decide) rfl ?_
      exact wq_sub [2, 3, 4, 5, 6, 1, 0] rfl (wl_X11_chain_73 X k46 hk46 _ _ _ _ _ _ _ _ hf)
    · exact wq_sub [4] rfl (w_X11_chain_63 X _ _ hf)
def l_X11_chain_46 (x0 : Nat) (x2 : Int32) (x3 : Int32) (x4 : Int32) (x5 : Int32) (h : hp_H) : Option (Int32 × hp_H) := lp (fun k (s : Nat × Int32 × Int32 × Int32 × Int32 × hp_H) => f_X11_chain_46  (fun a0 a1 a2 a3 a4 a5 => k (a0, a1, a2, a3, a4, a5)) s.1 s.2.1 s.2.2.1 s.2.2.2.1 s.2.2.2.2.1 s.2.2.2.2.2) 100000 (x0, x2, x3, x4, x5, h)
theorem wl_X11_chain_46 (X : wx G p s m args meth c cX11_chain 9 RX11 (some .int)) (x0 : Nat) (x2 : Int32) (x3 : Int32) (x4 : Int32) (x5 : Int32) (h : hp_H) (hf : l_X11_chain_46 x0 x2 x3 x4 x5 h = some o) : wq p l e (mt_R (3) 0 0) s m args below meth c (MQ below (mt_Q G (some (.int o.1)) o.2) args s 0 0 (hp_A G)) G 9 0 0 46 [(0, .ref x0), (2, .int x2), (3, .int x3), (4, .int x4), (5, .int x5)] [] h :=
  lp_ind (P := fun (s_ : Nat × Int32 × Int32 × Int32 × Int32 × hp_H) => wq p l e (mt_R (3) 0 0) s m args below meth c (MQ below (mt_Q G (some (.int o.1)) o.2) args s 0 0 (hp_A G)) G 9 0 0 46 [(0, .ref s_.1), (2, .int s_.2.1), (3, .int s_.2.2.1), (4, .int s_.2.2.2.1), (5, .int s_.2.2.2.2.1)] [] s_.2.2.2.2.2) (fun k s hk hf => w_X11_chain_46 X  (fun a0 a1 a2 a3 a4 a5 => k (a0, a1, a2, a3, a4, a5)) (fun a0 a1 a2 a3 a4 a5 hf => hk (a0, a1, a2, a3, a4, a5) hf) s.1 s.2.1 s.2.2.1 s.2.2.2.1 s.2.2.2.2.1 s.2.2.2.2.2 hf) 100000 (x0, x2, x3, x4, x5, h) hf
end Sf_X11_chain
def f_X11_chain (x0 : Nat) (x1 : Int32) (x2 : Int32) (x3 : Int32) (h : hp_H) : Option (Int32 × hp_H) := gd h x0 11 ((wr_I h x0 11 0 0).bind fun h1 => (f_X11_isMan x0 x1 h1).bind fun r2 => if r2.1 = 0 then (f_X11_chain_36 r2.2) else ((f_X11_isMan x0 x2 r2.2).bind fun r3 => if r3.1 = 0 then (f_X11_chain_36 r3.2) else ((f_X11_within x3 1 12 r3.2).bind fun r4 => (f_X11_right x0 r4.1 2 r4.2).bind fun r5 => if r5.1 = 0 then (f_X11_chain_36 r5.2) else (l_X11_chain_46 x0 x2 x3 (1 <<< (x1 &&& 31)) 0 r5.2))))
set_option maxRecDepth 20000 in
theorem c_X11_chain (l : Launch) (x0 : Nat) (x1 : Int32) (x2 : Int32) (x3 : Int32) (h : hp_H) (r : Int32 × hp_H) (hf : f_X11_chain x0 x1 x2 x3 h = some r) : cv l (3) yX11_chain cX11_chain 9 (some .int) 11 x0 [.int x1, .int x2, .int x3] h (some (.int r.1)) r.2 := by
  unfold f_X11_chain at hf
  refine cv_of (lv := [(0, .ref x0), (1, .int x1), (2, .int x2), (3, .int x3)]) hf (by decide +kernel) (Nat.le_of_ble_eq_true rfl) rfl (fun hf p e s m args below meth c G X => ?_)
  refine wk_aload_n X dX11_chain_0 0 rfl ?_
  refine wk_iconst X dX11_chain_1 ic_0 ?_
  refine wk_putI X dX11_chain_2 fo_X11_84 hf (fun h1 hf => ?_)
  refine wk_aload_n X dX11_chain_5 0 rfl ?_
  refine wk_iload_n X dX11_chain_6 1 rfl ?_
  refine wk_callVi X [.int x1] [] dX11_chain_7 rfl vo_X11_327 rfl (by decide) (Nat.le_of_ble_eq_true rfl) hf (c_X11_isMan l _ _ _) (fun r2 hf => ?_)
  refine wk_if_eq X 36 dX11_chain_10 (by decide) hf (fun hf => ?_) (fun hf => ?_)
  · exact wq_sub [] rfl (w_X11_chain_36 X _ hf)
  · refine wk_aload_n X dX11_chain_13 0 rfl ?_
    refine wk_iload_n X dX11_chain_14 2 rfl ?_
    refine wk_callVi X [.int x2] [] dX11_chain_15 rfl vo_X11_327 rfl (by decide) (Nat.le_of_ble_eq_true rfl) hf (c_X11_isMan l _ _ _) (fun r3 hf => ?_)
    refine wk_if_eq X 36 dX11_chain_18 (by decide) hf (fun hf => ?_) (fun hf => ?_)
    · exact wq_sub [] rfl (w_X11_chain_36 X _ hf)
    · refine wk_aload_n X dX11_chain_21 0 rfl ?_
      refine wk_iload_n X dX11_chain_22 3 rfl ?_
      refine wk_iconst X dX11_chain_23 ic_1 ?_
      refine wk_bipush X dX11_chain_24 ib_12 ?_
      refine wk_callSi X [.int x3, .int 1, .int 12] [.ref x0] dX11_chain_26 rfl vo_X11_314 rfl (by decide) (Nat.le_of_ble_eq_true rfl) hf (c_X11_within l _ _ _ _) (fun r4 hf => ?_)
      refine wk_iconst X dX11_chain_29 ic_2 ?_
      refine wk_callVi X [.int r4.1, .int 2] [] dX11_chain_30 rfl vo_X11_244 rfl (by decide) (Nat.le_of_ble_eq_true rfl) hf (c_X11_right l _ _ _ _) (fun r5 hf => ?_)
      refine wk_if_ne X 38 dX11_chain_33 (by decide) hf (fun hf => ?_) (fun hf => ?_)
      · refine wk_iconst X dX11_chain_38 ic_1 ?_
        refine wk_iload_n X dX11_chain_39 1 rfl ?_
        refine wk_ishl X dX11_chain_40 ?_
        refine wk_istore (lv' := [(4, .int (1 <<< (x1 &&& 31))), (0, .ref x0), (1, .int x1), (2, .int x2), (3, .int x3)]) X dX11_chain_41 (by decide) rfl ?_
        refine wk_iconst X dX11_chain_43 ic_0 ?_
        refine wk_istore (lv' := [(5, .int 0), (4, .int (1 <<< (x1 &&& 31))), (0, .ref x0), (1, .int x1), (2, .int x2), (3, .int x3)]) X dX11_chain_44 (by decide) rfl ?_
        exact wq_sub [2, 4, 5, 1, 0] rfl (wl_X11_chain_46 X _ _ _ _ _ _ hf)
      · exact wq_sub [] rfl (w_X11_chain_36 X _ hf)
