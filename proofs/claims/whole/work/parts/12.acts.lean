section Sf_X0_dropEarliest
variable {p : Program} {l : Launch} {e : Env} {s : State} {m : MethodId} {args : Array Value} {below : List Frame} {meth : Method} {c : Code} {G : hp_G} {o : hp_H}
def f_X0_dropEarliest_109 (x0 : Nat) (h : hp_H) : Option (hp_H) := (rd_I h x0 0 4).bind fun v1 => (wr_I h x0 0 4 (v1 - 1)).bind fun h2 => some h2
set_option maxRecDepth 20000 in
theorem w_X0_dropEarliest_109 (X : wx G p s m args meth c cX0_dropEarliest 2 RX0 none) (x0 : Nat) (h : hp_H) (hf : f_X0_dropEarliest_109 x0 h = some o) : wq p l e (mt_R (2) 0 0) s m args below meth c (MQ below (mt_Q G none o) args s 0 0 (hp_A G)) G 2 0 0 109 [(0, .ref x0)] [] h := by
  unfold f_X0_dropEarliest_109 at hf
  refine wk_aload_n X dX0_dropEarliest_109 0 rfl ?_
  refine wk_dup X dX0_dropEarliest_110 rfl ?_
  refine wk_getI X dX0_dropEarliest_111 fo_X0_29 hf (fun v1 hf => ?_)
  refine wk_iconst X dX0_dropEarliest_114 ic_1 ?_
  refine wk_isub X dX0_dropEarliest_115 ?_
  refine wk_putI X dX0_dropEarliest_116 fo_X0_29 hf (fun h2 hf => ?_)
  exact wk_return X dX0_dropEarliest_119 hf
def f_X0_dropEarliest_73 (k73 : Nat → Int32 → hp_H → Option (hp_H)) (x0 : Nat) (x1 : Int32) (h : hp_H) : Option (hp_H) := (rd_I h x0 0 4).bind fun v1 => if (v1 * 8) ≤ x1 then (f_X0_dropEarliest_109 x0 h) else ((rd_R h x0 0 3).bind fun v2 => (rd_R h x0 0 3).bind fun v3 => (f_X2_at v3 x1 h).bind fun r4 => (f_X2_set v2 (x1 - 8) r4.1 r4.2).bind fun r5 => k73 x0 (x1 + 1) r5)
set_option maxRecDepth 20000 in
theorem w_X0_dropEarliest_73 (X : wx G p s m args meth c cX0_dropEarliest 2 RX0 none) (k73 : Nat → Int32 → hp_H → Option (hp_H)) (hk73 : ∀ (x0 : Nat) (x1 : Int32) (h : hp_H), k73 x0 x1 h = some o → wq p l e (mt_R (2) 0 0) s m args below meth c (MQ below (mt_Q G none o) args s 0 0 (hp_A G)) G 2 0 0 73 [(0, .ref x0), (1, .int x1)] [] h) (x0 : Nat) (x1 : Int32) (h : hp_H) (hf : f_X0_dropEarliest_73 k73 x0 x1 h = some o) : wq p l e (mt_R (2) 0 0) s m args below meth c (MQ below (mt_Q G none o) args s 0 0 (hp_A G)) G 2 0 0 73 [(0, .ref x0), (1, .int x1)] [] h := by
  unfold f_X0_dropEarliest_73 at hf
  refine wk_iload_n X dX0_dropEarliest_73 1 rfl ?_
  refine wk_aload_n X dX0_dropEarliest_74 0 rfl ?_
  refine wk_getI X dX0_dropEarliest_75 fo_X0_29 hf (fun v1 hf => ?_)
  refine wk_bipush X dX0_dropEarliest_78 ib_8 ?_
  refine wk_imul X dX0_dropEarliest_80 ?_
  refine wk_icmp_ge X 109 dX0_dropEarliest_81 (by decide) hf (fun hf => ?_) (fun hf => ?_)
  · exact wq_sub [0] rfl (w_X0_dropEarliest_109 X _ _ hf)
  · refine wk_aload_n X dX0_dropEarliest_84 0 rfl ?_
    refine wk_getR X dX0_dropEarliest_85 fo_X0_26 hf (fun v2 hf => ?_)
    refine wk_iload_n X dX0_dropEarliest_88 1 rfl ?_
    refine wk_bipush X dX0_dropEarliest_89 ib_8 ?_
    refine wk_isub X dX0_dropEarliest_91 ?_
    refine wk_aload_n X dX0_dropEarliest_92 0 rfl ?_
    refine wk_getR X dX0_dropEarliest_93 fo_X0_26 hf (fun v3 hf => ?_)
    refine wk_iload_n X dX0_dropEarliest_96 1 rfl ?_
    refine wk_callVi X [.int x1] [.int (x1 - 8), .ref v2] dX0_dropEarliest_97 rfl vo_X0_43 rfl (by decide) (Nat.le_of_ble_eq_true rfl) hf (c_X2_at l _ _ _) (fun r4 hf => ?_)
    refine wk_callVv X [.int (x1 - 8), .int r4.1] [] dX0_dropEarliest_100 rfl vo_X0_36 rfl (by decide) (Nat.le_of_ble_eq_true rfl) hf (c_X2_set l _ _ _ _) (fun r5 hf => ?_)
    refine wk_iinc (lv' := [(1, .int (x1 + 1)), (0, .ref x0)]) X dX0_dropEarliest_103 1 rfl ic_1 (by decide) rfl ?_
    refine wk_goto X 73 dX0_dropEarliest_106 (by decide) ?_
    exact wq_sub [1, 0] rfl (hk73 _ _ _ hf)
def l_X0_dropEarliest_73 (x0 : Nat) (x1 : Int32) (h : hp_H) : Option (hp_H) := lp (fun k (s : Nat × Int32 × hp_H) => f_X0_dropEarliest_73  (fun a0 a1 a2 => k (a0, a1, a2)) s.1 s.2.1 s.2.2) 100000 (x0, x1, h)
theorem wl_X0_dropEarliest_73 (X : wx G p s m args meth c cX0_dropEarliest 2 RX0 none) (x0 : Nat) (x1 : Int32) (h : hp_H) (hf : l_X0_dropEarliest_73 x0 x1 h = some o) : wq p l e (mt_R (2) 0 0) s m args below meth c (MQ below (mt_Q G none o) args s 0 0 (hp_A G)) G 2 0 0 73 [(0, .ref x0), (1, .int x1)] [] h :=
  lp_ind (P := fun (s_ : Nat × Int32 × hp_H) => wq p l e (mt_R (2) 0 0) s m args below meth c (MQ below (mt_Q G none o) args s 0 0 (hp_A G)) G 2 0 0 73 [(0, .ref s_.1), (1, .int s_.2.1)] [] s_.2.2) (fun k s hk hf => w_X0_dropEarliest_73 X  (fun a0 a1 a2 => k (a0, a1, a2)) (fun a0 a1 a2 hf => hk (a0, a1, a2) hf) s.1 s.2.1 s.2.2 hf) 100000 (x0, x1, h) hf
def f_X0_dropEarliest_70 (x0 : Nat) (h : hp_H) : Option (hp_H) := l_X0_dropEarliest_73 x0 8 h
set_option maxRecDepth 20000 in
theorem w_X0_dropEarliest_70 (X : wx G p s m args meth c cX0_dropEarliest 2 RX0 none) (x0 : Nat) (h : hp_H) (hf : f_X0_dropEarliest_70 x0 h = some o) : wq p l e (mt_R (2) 0 0) s m args below meth c (MQ below (mt_Q G none o) args s 0 0 (hp_A G)) G 2 0 0 70 [(0, .ref x0)] [] h := by
  unfold f_X0_dropEarliest_70 at hf
  refine wk_bipush X dX0_dropEarliest_70 ib_8 ?_
  refine wk_istore_n (lv' := [(1, .int 8), (0, .ref x0)]) X dX0_dropEarliest_72 (by decide) rfl ?_
  exact wq_sub [1, 0] rfl (wl_X0_dropEarliest_73 X _ _ _ hf)
def f_X0_dropEarliest_2 (k2 : Nat → Int32 → hp_H → Option (hp_H)) (x0 : Nat) (x1 : Int32) (h : hp_H) : Option (hp_H) := (rd_I h x0 0 4).bind fun v1 => if v1 ≤ x1 then (f_X0_dropEarliest_70 x0 h) else ((rd_R h x0 0 0).bind fun v2 => (rd_R h x0 0 0).bind fun v3 => (f_X2_at v3 x1 h).bind fun r4 => (f_X2_set v2 (x1 - 1) r4.1 r4.2).bind fun r5 => (rd_R r5 x0 0 1).bind fun v6 => (rd_R r5 x0 0 1).bind fun v7 => (f_X2_at v7 x1 r5).bind fun r8 => (f_X2_set v6 (x1 - 1) r8.1 r8.2).bind fun r9 => (rd_R r9 x0 0 2).bind fun v10 => (rd_R r9 x0 0 2).bind fun v11 => (f_X2_at v11 x1 r9).bind fun r12 => (f_X2_set v10 (x1 - 1) r12.1 r12.2).bind fun r13 => k2 x0 (x1 + 1) r13)
set_option maxRecDepth 20000 in
theorem w_X0_dropEarliest_2 (X : wx G p s m args meth c cX0_dropEarliest 2 RX0 none) (k2 : Nat → Int32 → hp_H → Option (hp_H)) (hk2 : ∀ (x0 : Nat) (x1 : Int32) (h : hp_H), k2 x0 x1 h = some o → wq p l e (mt_R (2) 0 0) s m args below meth c (MQ below (mt_Q G none o) args s 0 0 (hp_A G)) G 2 0 0 2 [(0, .ref x0), (1, .int x1)] [] h) (x0 : Nat) (x1 : Int32) (h : hp_H) (hf : f_X0_dropEarliest_2 k2 x0 x1 h = some o) : wq p l e (mt_R (2) 0 0) s m args below meth c (MQ below (mt_Q G none o) args s 0 0 (hp_A G)) G 2 0 0 2 [(0, .ref x0), (1, .int x1)] [] h := by
  unfold f_X0_dropEarliest_2 at hf
  refine wk_iload_n X dX0_dropEarliest_2 1 rfl ?_
  refine wk_aload_n X dX0_dropEarliest_3 0 rfl ?_
  refine wk_getI X dX0_dropEarliest_4 fo_X0_29 hf (fun v1 hf => ?_)
  refine wk_icmp_ge X 70 dX0_dropEarliest_7 (by decide) hf (fun hf => ?_) (fun hf => ?_)
  · exact wq_sub [0] rfl (w_X0_dropEarliest_70 X _ _ hf)
  · refine wk_aload_n X dX0_dropEarliest_10 0 rfl ?_
    refine wk_getR X dX0_dropEarliest_11 fo_X0_14 hf (fun v2 hf => ?_)
    refine wk_iload_n X dX0_dropEarliest_14 1 rfl ?_
    refine wk_iconst X dX0_dropEarliest_15 ic_1 ?_
    refine wk_isub X dX0_dropEarliest_16 ?_
    refine wk_aload_n X dX0_dropEarliest_17 0 rfl ?_
    refine wk_getR X dX0_dropEarliest_18 fo_X0_14 hf (fun v3 hf => ?_)
    refine wk_iload_n X dX0_dropEarliest_21 1 rfl ?_
    refine wk_callVi X [.int x1] [.int (x1 - 1), .ref v2] dX0_dropEarliest_22 rfl vo_X0_43 rfl (by decide) (Nat.le_of_ble_eq_true rfl) hf (c_X2_at l _ _ _) (fun r4 hf => ?_)
    refine wk_callVv X [.int (x1 - 1), .int r4.1] [] dX0_dropEarliest_25 rfl vo_X0_36 rfl (by decide) (Nat.le_of_ble_eq_true rfl) hf (c_X2_set l _ _ _ _) (fun r5 hf => ?_)
    refine wk_aload_n X dX0_dropEarliest_28 0 rfl ?_
    refine wk_getR X dX0_dropEarliest_29 fo_X0_20 hf (fun v6 hf => ?_)
    refine wk_iload_n X dX0_dropEarliest_32 1 rfl ?_
    refine wk_iconst X dX0_dropEarliest_33 ic_1 ?_
    refine wk_isub X dX0_dropEarliest_34 ?_
    refine wk_aload_n X dX0_dropEarliest_35 0 rfl ?_
    refine wk_getR X dX0_dropEarliest_36 fo_X0_20 hf (fun v7 hf => ?_)
    refine wk_iload_n X dX0_dropEarliest_39 1 rfl ?_
    refine wk_callVi X [.int x1] [.int (x1 - 1), .ref v6] dX0_dropEarliest_40 rfl vo_X0_43 rfl (by decide) (Nat.le_of_ble_eq_true rfl) hf (c_X2_at l _ _ _) (fun r8 hf => ?_)
    refine wk_callVv X [.int (x1 - 1), .int r8.1] [] dX0_dropEarliest_43 rfl vo_X0_36 rfl (by decide) (Nat.le_of_ble_eq_true rfl) hf (c_X2_set l _ _ _ _) (fun r9 hf => ?_)
    refine wk_aload_n X dX0_dropEarliest_46 0 rfl ?_
    refine wk_getR X dX0_dropEarliest_47 fo_X0_23 hf (fun v10 hf => ?_)
    refine wk_iload_n X dX0_dropEarliest_50 1 rfl ?_
    refine wk_iconst X dX0_dropEarliest_51 ic_1 ?_
    refine wk_isub X dX0_dropEarliest_52 ?_
    refine wk_aload_n X dX0_dropEarliest_53 0 rfl ?_
    refine wk_getR X dX0_dropEarliest_54 fo_X0_23 hf (fun v11 hf => ?_)
    refine wk_iload_n X dX0_dropEarliest_57 1 rfl ?_
    refine wk_callVi X [.int x1] [.int (x1 - 1), .ref v10] dX0_dropEarliest_58 rfl vo_X0_43 rfl (by decide) (Nat.le_of_ble_eq_true rfl) hf (c_X2_at l _ _ _) (fun r12 hf => ?_)
    refine wk_callVv X [.int (x1 - 1), .int r12.1] [] dX0_dropEarliest_61 rfl vo_X0_36 rfl (by decide) (Nat.le_of_ble_eq_true rfl) hf (c_X2_set l _ _ _ _) (fun r13 hf => ?_)
    refine wk_iinc (lv' := [(1, .int (x1 + 1)), (0, .ref x0)]) X dX0_dropEarliest_64 1 rfl ic_1 (by decide) rfl ?_
    refine wk_goto X 2 dX0_dropEarliest_67 (by decide) ?_
    exact wq_sub [1, 0] rfl (hk2 _ _ _ hf)
def l_X0_dropEarliest_2 (x0 : Nat) (x1 : Int32) (h : hp_H) : Option (hp_H) := lp (fun k (s : Nat × Int32 × hp_H) => f_X0_dropEarliest_2  (fun a0 a1 a2 => k (a0, a1, a2)) s.1 s.2.1 s.2.2) 100000 (x0, x1, h)
theorem wl_X0_dropEarliest_2 (X : wx G p s m args meth c cX0_dropEarliest 2 RX0 none) (x0 : Nat) (x1 : Int32) (h : hp_H) (hf : l_X0_dropEarliest_2 x0 x1 h = some o) : wq p l e (mt_R (2) 0 0) s m args below meth c (MQ below (mt_Q G none o) args s 0 0 (hp_A G)) G 2 0 0 2 [(0, .ref x0), (1, .int x1)] [] h :=
  lp_ind (P := fun (s_ : Nat × Int32 × hp_H) => wq p l e (mt_R (2) 0 0) s m args below meth c (MQ below (mt_Q G none o) args s 0 0 (hp_A G)) G 2 0 0 2 [(0, .ref s_.1), (1, .int s_.2.1)] [] s_.2.2) (fun k s hk hf => w_X0_dropEarliest_2 X  (fun a0 a1 a2 => k (a0, a1, a2)) (fun a0 a1 a2 hf => hk (a0, a1, a2) hf) s.1 s.2.1 s.2.2 hf) 100000 (x0, x1, h) hf
end Sf_X0_dropEarliest
def f_X0_dropEarliest (x0 : Nat) (h : hp_H) : Option (hp_H) := gd h x0 0 (l_X0_dropEarliest_2 x0 1 h)
set_option maxRecDepth 20000 in
theorem c_X0_dropEarliest (l : Launch) (x0 : Nat) (h : hp_H) (r : hp_H) (hf : f_X0_dropEarliest x0 h = some r) : cv l (2) yX0_dropEarliest cX0_dropEarliest 2 none 0 x0 [] h none r := by
  unfold f_X0_dropEarliest at hf
  refine cv_of (lv := [(0, .ref x0)]) hf (by decide +kernel) (Nat.le_of_ble_eq_true rfl) rfl (fun hf p e s m args below meth c G X => ?_)
  refine wk_iconst X dX0_dropEarliest_0 ic_1 ?_
  refine wk_istore_n (lv' := [(1, .int 1), (0, .ref x0)]) X dX0_dropEarliest_1 (by decide) rfl ?_
  exact wq_sub [1, 0] rfl (wl_X0_dropEarliest_2 X _ _ _ hf)
section Sf_X0_keep
variable {p : Program} {l : Launch} {e : Env} {s : State} {m : MethodId} {args : Array Value} {below : List Frame} {meth : Method} {c : Code} {G : hp_G} {o : hp_H}
def f_X0_keep_92 (x0 : Nat) (h : hp_H) : Option (hp_H) := (rd_I h x0 0 4).bind fun v1 => (wr_I h x0 0 4 (v1 + 1)).bind fun h2 => some h2
set_option maxRecDepth 20000 in
theorem w_X0_keep_92 (X : wx G p s m args meth c cX0_keep 6 RX0 none) (x0 : Nat) (h : hp_H) (hf : f_X0_keep_92 x0 h = some o) : wq p l e (mt_R (3) 0 0) s m args below meth c (MQ below (mt_Q G none o) args s 0 0 (hp_A G)) G 6 0 0 92 [(0, .ref x0)] [] h := by
  unfold f_X0_keep_92 at hf
  refine wk_aload_n X dX0_keep_92 0 rfl ?_
  refine wk_dup X dX0_keep_93 rfl ?_
  refine wk_getI X dX0_keep_94 fo_X0_29 hf (fun v1 hf => ?_)
  refine wk_iconst X dX0_keep_97 ic_1 ?_
  refine wk_iadd X dX0_keep_98 ?_
  refine wk_putI X dX0_keep_99 fo_X0_29 hf (fun h2 hf => ?_)
  exact wk_return X dX0_keep_102 hf
def f_X0_keep_52 (k52 : Nat → Nat → Int32 → hp_H → Option (hp_H)) (x0 : Nat) (x4 : Nat) (x5 : Int32) (h : hp_H) : Option (hp_H) := if 8 ≤ x5 then (f_X0_keep_92 x0 h) else ((rd_R h x0 0 3).bind fun v1 => (rd_I h x0 0 4).bind fun v2 => (rd_R h x4 3 4).bind fun v3 => (f_X2_at v3 x5 h).bind fun r4 => (f_X2_set v1 ((v2 * 8) + x5) r4.1 r4.2).bind fun r5 => k52 x0 x4 (x5 + 1) r5)
set_option maxRecDepth 20000 in
theorem w_X0_keep_52 (X : wx G p s m args meth c cX0_keep 6 RX0 none) (k52 : Nat → Nat → Int32 → hp_H → Option (hp_H)) (hk52 : ∀ (x0 : Nat) (x4 : Nat) (x5 : Int32) (h : hp_H), k52 x0 x4 x5 h = some o → wq p l e (mt_R (3) 0 0) s m args below meth c (MQ below (mt_Q G none o) args s 0 0 (hp_A G)) G 6 0 0 52 [(0, .ref x0), (4, .ref x4), (5, .int x5)] [] h) (x0 : Nat) (x4 : Nat) (x5 : Int32) (h : hp_H) (hf : f_X0_keep_52 k52 x0 x4 x5 h = some o) : wq p l e (mt_R (3) 0 0) s m args below meth c (MQ below (mt_Q G none o) args s 0 0 (hp_A G)) G 6 0 0 52 [(0, .ref x0), (4, .ref x4), (5, .int x5)] [] h := by
  unfold f_X0_keep_52 at hf
  refine wk_iload X dX0_keep_52 2 rfl ?_
  refine wk_bipush X dX0_keep_54 ib_8 ?_
  refine wk_icmp_ge X 92 dX0_keep_56 (by decide) hf (fun hf => ?_) (fun hf => ?_)
  · exact wq_sub [0] rfl (w_X0_keep_92 X _ _ hf)
  · refine wk_aload_n X dX0_keep_59 0 rfl ?_
    refine wk_getR X dX0_keep_60 fo_X0_26 hf (fun v1 hf => ?_)
    refine wk_aload_n X dX0_keep_63 0 rfl ?_
    refine wk_getI X dX0_keep_64 fo_X0_29 hf (fun v2 hf => ?_)
    refine wk_bipush X dX0_keep_67 ib_8 ?_
    refine wk_imul X dX0_keep_69 ?_
    refine wk_iload X dX0_keep_70 2 rfl ?_
    refine wk_iadd X dX0_keep_72 ?_
    refine wk_aload X dX0_keep_73 1 rfl ?_
    refine wk_getR X dX0_keep_75 fo_X0_40 hf (fun v3 hf => ?_)
    refine wk_iload X dX0_keep_78 2 rfl ?_
    refine wk_callVi X [.int x5] [.int ((v2 * 8) + x5), .ref v1] dX0_keep_80 rfl vo_X0_43 rfl (by decide) (Nat.le_of_ble_eq_true rfl) hf (c_X2_at l _ _ _) (fun r4 hf => ?_)
    refine wk_callVv X [.int ((v2 * 8) + x5), .int r4.1] [] dX0_keep_83 rfl vo_X0_36 rfl (by decide) (Nat.le_of_ble_eq_true rfl) hf (c_X2_set l _ _ _ _) (fun r5 hf => ?_)
    refine wk_iinc (lv' := [(5, .int (x5 + 1)), (0, .ref x0), (4, .ref x4)]) X dX0_keep_86 2 rfl ic_1 (by decide) rfl ?_
    refine wk_goto X 52 dX0_keep_89 (by decide) ?_
    exact wq_sub [1, 2, 0] rfl (hk52 _ _ _ _ hf)
def l_X0_keep_52 (x0 : Nat) (x4 : Nat) (x5 : Int32) (h : hp_H) : Option (hp_H) := lp (fun k (s : Nat × Nat × Int32 × hp_H) => f_X0_keep_52  (fun a0 a1 a2 a3 => k (a0, a1, a2, a3)) s.1 s.2.1 s.2.2.1 s.2.2.2) 100000 (x0, x4, x5, h)
theorem wl_X0_keep_52 (X : wx G p s m args meth c cX0_keep 6 RX0 none) (x0 : Nat) (x4 : Nat) (x5 : Int32) (h : hp_H) (hf : l_X0_keep_52 x0 x4 x5 h = some o) : wq p l e (mt_R (3) 0 0) s m args below meth c (MQ below (mt_Q G none o) args s 0 0 (hp_A G)) G 6 0 0 52 [(0, .ref x0), (4, .ref x4), (5, .int x5)] [] h :=
  lp_ind (P := fun (s_ : Nat × Nat × Int32 × hp_H) => wq p l e (mt_R (3) 0 0) s m args below meth c (MQ below (mt_Q G none o) args s 0 0 (hp_A G)) G 6 0 0 52 [(0, .ref s_.1), (4, .ref s_.2.1), (5, .int s_.2.2.1)] [] s_.2.2.2) (fun k s hk hf => w_X0_keep_52 X  (fun a0 a1 a2 a3 => k (a0, a1, a2, a3)) (fun a0 a1 a2 a3 hf => hk (a0, a1, a2, a3) hf) s.1 s.2.1 s.2.2.1 s.2.2.2 hf) 100000 (x0, x4, x5, h) hf
def f_X0_keep_13 (x0 : Nat) (x1 : Int32) (x2 : Int32) (x3 : Int32) (x4 : Nat) (h : hp_H) : Option (hp_H) := (rd_R h x0 0 0).bind fun v1 => (rd_I h x0 0 4).bind fun v2 => (f_X2_set v1 v2 x1 h).bind fun r3 => (rd_R r3 x0 0 1).bind fun v4 => (rd_I r3 x0 0 4).bind fun v5 => (f_X2_set v4 v5 x2 r3).bind fun r6 => (rd_R r6 x0 0 2).bind fun v7 => (rd_I r6 x0 0 4).bind fun v8 => (f_X2_set v7 v8 x3 r6).bind fun r9 => l_X0_keep_52 x0 x4 0 r9
set_option maxRecDepth 20000 in
theorem w_X0_keep_13 (X : wx G p s m args meth c cX0_keep 6 RX0 none) (x0 : Nat) (x1 : Int32) (x2 : Int32) (x3 : Int32) (x4 : Nat) (h : hp_H) (hf : f_X0_keep_13 x0 x1 x2 x3 x4 h = some o) : wq p l e (mt_R (3) 0 0) s m args below meth c (MQ below (mt_Q G none o) args s 0 0 (hp_A G)) G 6 0 0 13 [(0, .ref x0), (1, .int x1), (2, .int x2), (3, .int x3), (4, .ref x4)] [] h := by
  unfold f_X0_keep_13 at hf
  refine wk_aload_n X dX0_keep_13 0 rfl ?_
  refine wk_getR X dX0_keep_14 fo_X0_14 hf (fun v1 hf => ?_)
  refine wk_aload_n X dX0_keep_17 0 rfl ?_
  refine wk_getI X dX0_keep_18 fo_X0_29 hf (fun v2 hf => ?_)
  refine wk_iload_n X dX0_keep_21 1 rfl ?_
  refine wk_callVv X [.int v2, .int x1] [] dX0_keep_22 rfl vo_X0_36 rfl (by decide) (Nat.le_of_ble_eq_true rfl) hf (c_X2_set l _ _ _ _) (fun r3 hf => ?_)
  refine wk_aload_n X dX0_keep_25 0 rfl ?_
  refine wk_getR X dX0_keep_26 fo_X0_20 hf (fun v4 hf => ?_)
  refine wk_aload_n X dX0_keep_29 0 rfl ?_
  refine wk_getI X dX0_keep_30 fo_X0_29 hf (fun v5 hf => ?_)
  refine wk_iload_n X dX0_keep_33 2 rfl ?_
  refine wk_callVv X [.int v5, .int x2] [] dX0_keep_34 rfl vo_X0_36 rfl (by decide) (Nat.le_of_ble_eq_true rfl) hf (c_X2_set l _ _ _ _) (fun r6 hf => ?_)
  refine wk_aload_n X dX0_keep_37 0 rfl ?_
  refine wk_getR X dX0_keep_38 fo_X0_23 hf (fun v7 hf => ?_)
  refine wk_aload_n X dX0_keep_41 0 rfl ?_
  refine wk_getI X dX0_keep_42 fo_X0_29 hf (fun v8 hf => ?_)
  refine wk_iload_n X dX0_keep_45 3 rfl ?_
  refine wk_callVv X [.int v8, .int x3] [] dX0_keep_46 rfl vo_X0_36 rfl (by decide) (Nat.le_of_ble_eq_true rfl) hf (c_X2_set l _ _ _ _) (fun r9 hf => ?_)
  refine wk_iconst X dX0_keep_49 ic_0 ?_
  refine wk_istore (lv' := [(5, .int 0), (0, .ref x0), (1, .int x1), (2, .int x2), (3, .int x3), (4, .ref x4)]) X dX0_keep_50 (by decide) rfl ?_
  exact wq_sub [1, 5, 0] rfl (wl_X0_keep_52 X _ _ _ _ hf)
end Sf_X0_keep
def f_X0_keep (x0 : Nat) (x1 : Int32) (x2 : Int32) (x3 : Int32) (x4 : Nat) (h : hp_H) : Option (hp_H) := gd h x0 0 ((rd_I h x0 0 4).bind fun v1 => if v1 < 40 then (f_X0_keep_13 x0 x1 x2 x3 x4 h) else ((f_X0_dropEarliest x0 h).bind fun r2 => f_X0_keep_13 x0 x1 x2 x3 x4 r2))
set_option maxRecDepth 20000 in
theorem c_X0_keep (l : Launch) (x0 : Nat) (x1 : Int32) (x2 : Int32) (x3 : Int32) (x4 : Nat) (h : hp_H) (r : hp_H) (hf : f_X0_keep x0 x1 x2 x3 x4 h = some r) : cv l (3) yX0_keep cX0_keep 6 none 0 x0 [.int x1, .int x2, .int x3, .ref x4] h none r := by
  unfold f_X0_keep at hf
  refine cv_of (lv := [(0, .ref x0), (1, .int x1), (2, .int x2), (3, .int x3), (4, .ref x4)]) hf (by decide +kernel) (Nat.le_of_ble_eq_true rfl) rfl (fun hf p e s m args below meth c G X => ?_)
  refine wk_aload_n X dX0_keep_0 0 rfl ?_
  refine wk_getI X dX0_keep_1 fo_X0_29 hf (fun v1 hf => ?_)
  refine wk_bipush X dX0_keep_4 ib_40 ?_
  refine wk_icmp_lt X 13 dX0_keep_6 (by decide) hf (fun hf => ?_) (fun hf => ?_)
  · exact wq_sub [0, 1, 2, 3, 4] rfl (w_X0_keep_13 X _ _ _ _ _ _ hf)
  · refine wk_aload_n X dX0_keep_9 0 rfl ?_
    refine wk_callVv X [] [] dX0_keep_10 rfl vo_X0_33 rfl (by decide) (Nat.le_of_ble_eq_true rfl) hf (c_X0_dropEarliest l _ _) (fun r2 hf => ?_)
    exact wq_sub [0, 1, 2, 3, 4] rfl (w_X0_keep_13 X _ _ _ _ _ _ hf)
section Sf_X0_takeNightsBack
variable {p : Program} {l : Launch} {e : Env} {s : State} {m : MethodId} {args : Array Value} {below : List Frame} {meth : Method} {c : Code} {G : hp_G} {o : hp_H}
def f_X0_takeNightsBack_19 (k19 : Nat → Nat → Int32 → hp_H → Option (hp_H)) (x0 : Nat) (x1 : Nat) (x3 : Int32) (h : hp_H) : Option (hp_H) := if 8 ≤ x3 then (some h) else ((rd_R h x1 3 4).bind fun v1 => (rd_R h x0 0 3).bind fun v2 => (rd_I h x0 0 4).bind fun v3 => (f_X2_at v2 ((v3 * 8) + x3) h).bind fun r4 => (f_X2_set v1 x3 r4.1 r4.2).bind fun r5 => k19 x0 x1 (x3 + 1) r5)
set_option maxRecDepth 20000 in
theorem w_X0_takeNightsBack_19 (X : wx G p s m args meth c cX0_takeNightsBack 4 RX0 none) (k19 : Nat → Nat → Int32 → hp_H → Option (hp_H)) (hk19 : ∀ (x0 : Nat) (x1 : Nat) (x3 : Int32) (h : hp_H), k19 x0 x1 x3 h = some o → wq p l e (mt_R (3) 0 0) s m args below meth c (MQ below (mt_Q G none o) args s 0 0 (hp_A G)) G 4 0 0 19 [(0, .ref x0), (1, .ref x1), (3, .int x3)] [] h) (x0 : Nat) (x1 : Nat) (x3 : Int32) (h : hp_H) (hf : f_X0_takeNightsBack_19 k19 x0 x1 x3 h = some o) : wq p l e (mt_R (3) 0 0) s m args below meth c (MQ below (mt_Q G none o) args s 0 0 (hp_A G)) G 4 0 0 19 [(0, .ref x0), (1, .ref x1), (3, .int x3)] [] h := by
  unfold f_X0_takeNightsBack_19 at hf
  refine wk_iload_n X dX0_takeNightsBack_19 2 rfl ?_
  refine wk_bipush X dX0_takeNightsBack_20 ib_8 ?_
  refine wk_icmp_ge X 55 dX0_takeNightsBack_22 (by decide) hf (fun hf => ?_) (fun hf => ?_)
  · exact wk_return X dX0_takeNightsBack_55 hf
  · refine wk_aload_n X dX0_takeNightsBack_25 1 rfl ?_
    refine wk_getR X dX0_takeNightsBack_26 fo_X0_40 hf (fun v1 hf => ?_)
    refine wk_iload_n X dX0_takeNightsBack_29 2 rfl ?_
    refine wk_aload_n X dX0_takeNightsBack_30 0 rfl ?_
    refine wk_getR X dX0_takeNightsBack_31 fo_X0_26 hf (fun v2 hf => ?_)
    refine wk_aload_n X dX0_takeNightsBack_34 0 rfl ?_
    refine wk_getI X dX0_takeNightsBack_35 fo_X0_29 hf (fun v3 hf => ?_)
    refine wk_bipush X dX0_takeNightsBack_38 ib_8 ?_
    refine wk_imul X dX0_takeNightsBack_40 ?_
    refine wk_iload_n X dX0_takeNightsBack_41 2 rfl ?_
    refine wk_iadd X dX0_takeNightsBack_42 ?_
    refine wk_callVi X [.int ((v3 * 8) + x3)] [.int x3, .ref v1] dX0_takeNightsBack_43 rfl vo_X0_43 rfl (by decide) (Nat.le_of_ble_eq_true rfl) hf (c_X2_at l _ _ _) (fun r4 hf => ?_)
    refine wk_callVv X [.int x3, .int r4.1] [] dX0_takeNightsBack_46 rfl vo_X0_36 rfl (by decide) (Nat.le_of_ble_eq_true rfl) hf (c_X2_set l _ _ _ _) (fun r5 hf => ?_)
    refine wk_iinc (lv' := [(3, .int (x3 + 1)), (0, .ref x0), (1, .ref x1)]) X dX0_takeNightsBack_49 2 rfl ic_1 (by decide) rfl ?_
    refine wk_goto X 19 dX0_takeNightsBack_52 (by decide) ?_
    exact wq_sub [1, 2, 0] rfl (hk19 _ _ _ _ hf)
def l_X0_takeNightsBack_19 (x0 : Nat) (x1 : Nat) (x3 : Int32) (h : hp_H) : Option (hp_H) := lp (fun k (s : Nat × Nat × Int32 × hp_H) => f_X0_takeNightsBack_19  (fun a0 a1 a2 a3 => k (a0, a1, a2, a3)) s.1 s.2.1 s.2.2.1 s.2.2.2) 100000 (x0, x1, x3, h)
theorem wl_X0_takeNightsBack_19 (X : wx G p s m args meth c cX0_takeNightsBack 4 RX0 none) (x0 : Nat) (x1 : Nat) (x3 : Int32) (h : hp_H) (hf : l_X0_takeNightsBack_19 x0 x1 x3 h = some o) : wq p l e (mt_R (3) 0 0) s m args below meth c (MQ below (mt_Q G none o) args s 0 0 (hp_A G)) G 4 0 0 19 [(0, .ref x0), (1, .ref x1), (3, .int x3)] [] h :=
  lp_ind (P := fun (s_ : Nat × Nat × Int32 × hp_H) => wq p l e (mt_R (3) 0 0) s m args below meth c (MQ below (mt_Q G none o) args s 0 0 (hp_A G)) G 4 0 0 19 [(0, .ref s_.1), (1, .ref s_.2.1), (3, .int s_.2.2.1)] [] s_.2.2.2) (fun k s hk hf => w_X0_takeNightsBack_19 X  (fun a0 a1 a2 a3 => k (a0, a1, a2, a3)) (fun a0 a1 a2 a3 hf => hk (a0, a1, a2, a3) hf) s.1 s.2.1 s.2.2.1 s.2.2.2 hf) 100000 (x0, x1, x3, h) hf
def f_X0_takeNightsBack_17 (x0 : Nat) (x1 : Nat) (h : hp_H) : Option (hp_H) := l_X0_takeNightsBack_19 x0 x1 0 h
set_option maxRecDepth 20000 in
theorem w_X0_takeNightsBack_17 (X : wx G p s m args meth c cX0_takeNightsBack 4 RX0 none) (x0 : Nat) (x1 : Nat) (h : hp_H) (hf : f_X0_takeNightsBack_17 x0 x1 h = some o) : wq p l e (mt_R (3) 0 0) s m args below meth c (MQ below (mt_Q G none o) args s 0 0 (hp_A G)) G 4 0 0 17 [(0, .ref x0), (1, .ref x1)] [] h := by
  unfold f_X0_takeNightsBack_17 at hf
  refine wk_iconst X dX0_takeNightsBack_17 ic_0 ?_
  refine wk_istore_n (lv' := [(3, .int 0), (0, .ref x0), (1, .ref x1)]) X dX0_takeNightsBack_18 (by decide) rfl ?_
  exact wq_sub [1, 2, 0] rfl (wl_X0_takeNightsBack_19 X _ _ _ _ hf)
def f_X0_takeNightsBack_2 (k2 : Nat → Nat → Int32 → Int32 → hp_H → Option (hp_H)) (x0 : Nat) (x1 : Nat) (x2 : Int32) (x3 : Int32) (h : hp_H) : Option (hp_H) := if x2 ≤ x3 then (f_X0_takeNightsBack_17 x0 x1 h) else ((f_X3_goBack x1 h).bind fun r1 => k2 x0 x1 x2 (x3 + 1) r1)
set_option maxRecDepth 20000 in
theorem w_X0_takeNightsBack_2 (X : wx G p s m args meth c cX0_takeNightsBack 4 RX0 none) (k2 : Nat → Nat → Int32 → Int32 → hp_H → Option (hp_H)) (hk2 : ∀ (x0 : Nat) (x1 : Nat) (x2 : Int32) (x3 : Int32) (h : hp_H), k2 x0 x1 x2 x3 h = some o → wq p l e (mt_R (3) 0 0) s m args below meth c (MQ below (mt_Q G none o) args s 0 0 (hp_A G)) G 4 0 0 2 [(0, .ref x0), (1, .ref x1), (2, .int x2), (3, .int x3)] [] h) (x0 : Nat) (x1 : Nat) (x2 : Int32) (x3 : Int32) (h : hp_H) (hf : f_X0_takeNightsBack_2 k2 x0 x1 x2 x3 h = some o) : wq p l e (mt_R (3) 0 0) s m args below meth c (MQ below (mt_Q G none o) args s 0 0 (hp_A G)) G 4 0 0 2 [(0, .ref x0), (1, .ref x1), (2, .int x2), (3, .int x3)] [] h := by
  unfold f_X0_takeNightsBack_2 at hf
  refine wk_iload_n X dX0_takeNightsBack_2 3 rfl ?_
  refine wk_iload_n X dX0_takeNightsBack_3 2 rfl ?_
  refine wk_icmp_ge X 17 dX0_takeNightsBack_4 (by decide) hf (fun hf => ?_) (fun hf => ?_)
  · exact wq_sub [0, 1] rfl (w_X0_takeNightsBack_17 X _ _ _ hf)
  · refine wk_aload_n X dX0_takeNightsBack_7 1 rfl ?_
    refine wk_callVv X [] [] dX0_takeNightsBack_8 rfl vo_X0_63 rfl (by decide) (Nat.le_of_ble_eq_true rfl) hf (c_X3_goBack l _ _) (fun r1 hf => ?_)
    refine wk_iinc (lv' := [(3, .int (x3 + 1)), (0, .ref x0), (1, .ref x1), (2, .int x2)]) X dX0_takeNightsBack_11 3 rfl ic_1 (by decide) rfl ?_
    refine wk_goto X 2 dX0_takeNightsBack_14 (by decide) ?_
    exact wq_sub [1, 2, 3, 0] rfl (hk2 _ _ _ _ _ hf)
def l_X0_takeNightsBack_2 (x0 : Nat) (x1 : Nat) (x2 : Int32) (x3 : Int32) (h : hp_H) : Option (hp_H) := lp (fun k (s : Nat × Nat × Int32 × Int32 × hp_H) => f_X0_takeNightsBack_2  (fun a0 a1 a2 a3 a4 => k (a0, a1, a2, a3, a4)) s.1 s.2.1 s.2.2.1 s.2.2.2.1 s.2.2.2.2) 100000 (x0, x1, x2, x3, h)
theorem wl_X0_takeNightsBack_2 (X : wx G p s m args meth c cX0_takeNightsBack 4 RX0 none) (x0 : Nat) (x1 : Nat) (x2 : Int32) (x3 : Int32) (h : hp_H) (hf : l_X0_takeNightsBack_2 x0 x1 x2 x3 h = some o) : wq p l e (mt_R (3) 0 0) s m args below meth c (MQ below (mt_Q G none o) args s 0 0 (hp_A G)) G 4 0 0 2 [(0, .ref x0), (1, .ref x1), (2, .int x2), (3, .int x3)] [] h :=
  lp_ind (P := fun (s_ : Nat × Nat × Int32 × Int32 × hp_H) => wq p l e (mt_R (3) 0 0) s m args below meth c (MQ below (mt_Q G none o) args s 0 0 (hp_A G)) G 4 0 0 2 [(0, .ref s_.1), (1, .ref s_.2.1), (2, .int s_.2.2.1), (3, .int s_.2.2.2.1)] [] s_.2.2.2.2) (fun k s hk hf => w_X0_takeNightsBack_2 X  (fun a0 a1 a2 a3 a4 => k (a0, a1, a2, a3, a4)) (fun a0 a1 a2 a3 a4 hf => hk (a0, a1, a2, a3, a4) hf) s.1 s.2.1 s.2.2.1 s.2.2.2.1 s.2.2.2.2 hf) 100000 (x0, x1, x2, x3, h) hf
end Sf_X0_takeNightsBack
def f_X0_takeNightsBack (x0 : Nat) (x1 : Nat) (x2 : Int32) (h : hp_H) : Option (hp_H) := gd h x0 0 (l_X0_takeNightsBack_2 x0 x1 x2 0 h)
set_option maxRecDepth 20000 in
theorem c_X0_takeNightsBack (l : Launch) (x0 : Nat) (x1 : Nat) (x2 : Int32) (h : hp_H) (r : hp_H) (hf : f_X0_takeNightsBack x0 x1 x2 h = some r) : cv l (3) yX0_takeNightsBack cX0_takeNightsBack 4 none 0 x0 [.ref x1, .int x2] h none r := by
  unfold f_X0_takeNightsBack at hf
  refine cv_of (lv := [(0, .ref x0), (1, .ref x1), (2, .int x2)]) hf (by decide +kernel) (Nat.le_of_ble_eq_true rfl) rfl (fun hf p e s m args below meth c G X => ?_)
  refine wk_iconst X dX0_takeNightsBack_0 ic_0 ?_
  refine wk_istore_n (lv' := [(3, .int 0), (0, .ref x0), (1, .ref x1), (2, .int x2)]) X dX0_takeNightsBack_1 (by decide) rfl ?_
  exact wq_sub [1, 2, 3, 0] rfl (wl_X0_takeNightsBack_2 X _ _ _ _ _ hf)
section Sf_X0_takeBack
variable {p : Program} {l : Launch} {e : Env} {s : State} {m : MethodId} {args : Array Value} {below : List Frame} {meth : Method} {c : Code} {G : hp_G} {o : Int32 × hp_H}
def f_X0_takeBack_121 (x0 : Nat) (h : hp_H) : Option (Int32 × hp_H) := (rd_I h x0 0 4).bind fun v1 => some (v1, h)
set_option maxRecDepth 20000 in
theorem w_X0_takeBack_121 (X : wx G p s m args meth c cX0_takeBack 4 RX0 (some .int)) (x0 : Nat) (h : hp_H) (hf : f_X0_takeBack_121 x0 h = some o) : wq p l e (mt_R (4) 0 0) s m args below meth c (MQ below (mt_Q G (some (.int o.1)) o.2) args s 0 0 (hp_A G)) G 4 0 0 121 [(0, .ref x0)] [] h := by
  unfold f_X0_takeBack_121 at hf
  refine wk_aload_n X dX0_takeBack_121 0 rfl ?_
  refine wk_getI X dX0_takeBack_122 fo_X0_29 hf (fun v1 hf => ?_)
  exact wk_ireturn X dX0_takeBack_125 hf
end Sf_X0_takeBack
def f_X0_takeBack (x0 : Nat) (x1 : Nat) (h : hp_H) : Option (Int32 × hp_H) := gd h x0 0 ((rd_I h x0 0 4).bind fun v1 => (wr_I h x0 0 4 (v1 - 1)).bind fun h2 => (rd_R h2 x0 0 1).bind fun v3 => (rd_I h2 x0 0 4).bind fun v4 => (f_X2_at v3 v4 h2).bind fun r5 => (rd_R r5.2 x0 0 2).bind fun v6 => (rd_I r5.2 x0 0 4).bind fun v7 => (f_X2_at v6 v7 r5.2).bind fun r8 => (rd_R r8.2 x0 0 0).bind fun v9 => (rd_I r8.2 x0 0 4).bind fun v10 => (f_X2_at v9 v10 r8.2).bind fun r11 => if r11.1 = 0 then ((f_X0_takeNightsBack x0 x1 r5.1 r11.2).bind fun r13 => f_X0_takeBack_121 x0 r13) else (if r11.1 = 1 then ((f_X3_place x1 r5.1 r8.1 r11.2).bind fun r14 => f_X0_takeBack_121 x0 r14) else (if r11.1 = 2 then ((f_X3_turnHeel x1 r5.1 r8.1 r11.2).bind fun r15 => f_X0_takeBack_121 x0 r15) else (if r11.1 = 3 then ((rd_R r11.2 x1 3 3).bind fun v16 => (f_X2_set v16 r5.1 r8.1 r11.2).bind fun r17 => f_X0_takeBack_121 x0 r17) else ((f_X3_exchange x1 r5.1 r8.1 r11.2).bind fun r12 => f_X0_takeBack_121 x0 r12)))))
set_option maxRecDepth 20000 in
theorem c_X0_takeBack (l : Launch) (x0 : Nat) (x1 : Nat) (h : hp_H) (r : Int32 × hp_H) (hf : f_X0_takeBack x0 x1 h = some r) : cv l (4) yX0_takeBack cX0_takeBack 4 (some .int) 0 x0 [.ref x1] h (some (.int r.1)) r.2 := by
  unfold f_X0_takeBack at hf
  refine cv_of (lv := [(0, .ref x0), (1, .ref x1)]) hf (by decide +kernel) (Nat.le_of_ble_eq_true rfl) rfl (fun hf p e s m args below meth c G X => ?_)
  refine wk_aload_n X dX0_takeBack_0 0 rfl ?_
  refine wk_dup X dX0_takeBack_1 rfl ?_
  refine wk_getI X dX0_takeBack_2 fo_X0_29 hf (fun v1 hf => ?_)
  refine wk_iconst X dX0_takeBack_5 ic_1 ?_
  refine wk_isub X dX0_takeBack_6 ?_
  refine wk_putI X dX0_takeBack_7 fo_X0_29 hf (fun h2 hf => ?_)
  refine wk_aload_n X dX0_takeBack_10 0 rfl ?_
  refine wk_getR X dX0_takeBack_11 fo_X0_20 hf (fun v3 hf => ?_)
  refine wk_aload_n X dX0_takeBack_14 0 rfl ?_
  refine wk_getI X dX0_takeBack_15 fo_X0_29 hf (fun v4 hf => ?_)
  refine wk_callVi X [.int v4] [] dX0_takeBack_18 rfl vo_X0_43 rfl (by decide) (Nat.le_of_ble_eq_true rfl) hf (c_X2_at l _ _ _) (fun r5 hf => ?_)
  refine wk_istore_n (lv' := [(2, .int r5.1), (0, .ref x0), (1, .ref x1)]) X dX0_takeBack_21 (by decide) rfl ?_
  refine wk_aload_n X dX0_takeBack_22 1 rfl ?_
  refine wk_getR X dX0_takeBack_23 fo_X0_23 hf (fun v6 hf => ?_)
  refine wk_aload_n X dX0_takeBack_26 1 rfl ?_
  refine wk_getI X dX0_takeBack_27 fo_X0_29 hf (fun v7 hf => ?_)
  refine wk_callVi X [.int v7] [] dX0_takeBack_30 rfl vo_X0_43 rfl (by decide) (Nat.le_of_ble_eq_true rfl) hf (c_X2_at l _ _ _) (fun r8 hf => ?_)
  refine wk_istore_n (lv' := [(3, .int r8.1), (2, .int r5.1), (0, .ref x0), (1, .ref x1)]) X dX0_takeBack_33 (by decide) rfl ?_
  refine wk_aload_n X dX0_takeBack_34 2 rfl ?_
  refine wk_getR X dX0_takeBack_35 fo_X0_14 hf (fun v9 hf => ?_)
  refine wk_aload_n X dX0_takeBack_38 2 rfl ?_
  refine wk_getI X dX0_takeBack_39 fo_X0_29 hf (fun v10 hf => ?_)
  refine wk_callVi X [.int v10] [] dX0_takeBack_42 rfl vo_X0_43 rfl (by decide) (Nat.le_of_ble_eq_true rfl) hf (c_X2_at l _ _ _) (fun r11 hf => ?_)
  refine wk_ts_in X 76 0 dX0_takeBack_45 (by decide) (by decide) (by decide) rfl (by decide) hf (fun hf => ?_) (fun n0 hf => ?_)
  · refine wk_aload_n X dX0_takeBack_76 2 rfl ?_
    refine wk_aload_n X dX0_takeBack_77 3 rfl ?_
    refine wk_iload_n X dX0_takeBack_78 1 rfl ?_
    refine wk_callVv X [.ref x1, .int r5.1] [] dX0_takeBack_79 rfl vo_X0_47 rfl (by decide) (Nat.le_of_ble_eq_true rfl) hf (c_X0_takeNightsBack l _ _ _ _) (fun r13 hf => ?_)
    refine wk_goto X 121 dX0_takeBack_82 (by decide) ?_
    exact wq_sub [2] rfl (w_X0_takeBack_121 X _ _ hf)
  refine wk_ts_in X 85 1 dX0_takeBack_45 (by decide) (by decide) (by decide) rfl (by decide) hf (fun hf => ?_) (fun n1 hf => ?_)
  · refine wk_aload_n X dX0_takeBack_85 3 rfl ?_
    refine wk_iload_n X dX0_takeBack_86 1 rfl ?_
    refine wk_iload_n X dX0_takeBack_87 0 rfl ?_
    refine wk_callVv X [.int r5.1, .int r8.1] [] dX0_takeBack_88 rfl vo_X0_51 rfl (by decide) (Nat.le_of_ble_eq_true rfl) hf (c_X3_place l _ _ _ _) (fun r14 hf => ?_)
    refine wk_goto X 121 dX0_takeBack_91 (by decide) ?_
    exact wq_sub [2] rfl (w_X0_takeBack_121 X _ _ hf)
  refine wk_ts_in X 94 2 dX0_takeBack_45 (by decide) (by decide) (by decide) rfl (by decide) hf (fun hf => ?_) (fun n2 hf => ?_)
  · refine wk_aload_n X dX0_takeBack_94 3 rfl ?_
    refine wk_iload_n X dX0_takeBack_95 1 rfl ?_
    refine wk_iload_n X dX0_takeBack_96 0 rfl ?_
    refine wk_callVv X [.int r5.1, .int r8.1] [] dX0_takeBack_97 rfl vo_X0_54 rfl (by decide) (Nat.le_of_ble_eq_true rfl) hf (c_X3_turnHeel l _ _ _ _) (fun r15 hf => ?_)
    refine wk_goto X 121 dX0_takeBack_100 (by decide) ?_
    exact wq_sub [2] rfl (w_X0_takeBack_121 X _ _ hf)
  refine wk_ts_in X 103 3 dX0_takeBack_45 (by decide) (by decide) (by decide) rfl (by decide) hf (fun hf => ?_) (fun n3 hf => ?_)
  · refine wk_aload_n X dX0_takeBack_103 3 rfl ?_
    refine wk_getR X dX0_takeBack_104 fo_X0_57 hf (fun v16 hf => ?_)
    refine wk_iload_n X dX0_takeBack_107 1 rfl ?_
    refine wk_iload_n X dX0_takeBack_108 0 rfl ?_
    refine wk_callVv X [.int r5.1, .int r8.1] [] dX0_takeBack_109 rfl vo_X0_36 rfl (by decide) (Nat.le_of_ble_eq_true rfl) hf (c_X2_set l _ _ _ _) (fun r17 hf => ?_)
    refine wk_goto X 121 dX0_takeBack_112 (by decide) ?_
    exact wq_sub [2] rfl (w_X0_takeBack_121 X _ _ hf)
  refine wk_ts_out X 115 dX0_takeBack_45 (fc_c n0 (fc_c n1 (fc_c n2 (fc_c n3 fc_n)))) (by decide) (by decide) (by decide) ?_
  refine wk_aload_n X dX0_takeBack_115 3 rfl ?_
  refine wk_iload_n X dX0_takeBack_116 1 rfl ?_
  refine wk_iload_n X dX0_takeBack_117 0 rfl ?_
  refine wk_callVv X [.int r5.1, .int r8.1] [] dX0_takeBack_118 rfl vo_X0_60 rfl (by decide) (Nat.le_of_ble_eq_true rfl) hf (c_X3_exchange l _ _ _ _) (fun r12 hf => ?_)
  exact wq_sub [2] rfl (w_X0_takeBack_121 X _ _ hf)
section Sf_X0_copyFrom
variable {p : Program} {l : Launch} {e : Env} {s : State} {m : MethodId} {args : Array Value} {below : List Frame} {meth : Method} {c : Code} {G : hp_G} {o : hp_H}
end Sf_X0_copyFrom
def f_X0_copyFrom (x0 : Nat) (x1 : Nat) (h : hp_H) : Option (hp_H) := gd h x0 0 ((rd_R h x0 0 0).bind fun v1 => (rd_R h x1 0 0).bind fun v2 => (f_X2_copyFrom v1 v2 h).bind fun r3 => (rd_R r3 x0 0 1).bind fun v4 => (rd_R r3 x1 0 1).bind fun v5 => (f_X2_copyFrom v4 v5 r3).bind fun r6 => (rd_R r6 x0 0 2).bind fun v7 => (rd_R r6 x1 0 2).bind fun v8 => (f_X2_copyFrom v7 v8 r6).bind fun r9 => (rd_R r9 x0 0 3).bind fun v10 => (rd_R r9 x1 0 3).bind fun v11 => (f_X2_copyFrom v10 v11 r9).bind fun r12 => (rd_I r12 x1 0 4).bind fun v13 => (wr_I r12 x0 0 4 v13).bind fun h14 => some h14)
set_option maxRecDepth 20000 in
theorem c_X0_copyFrom (l : Launch) (x0 : Nat) (x1 : Nat) (h : hp_H) (r : hp_H) (hf : f_X0_copyFrom x0 x1 h = some r) : cv l (2) yX0_copyFrom cX0_copyFrom 2 none 0 x0 [.ref x1] h none r := by
  unfold f_X0_copyFrom at hf
  refine cv_of (lv := [(0, .ref x0), (1, .ref x1)]) hf (by decide +kernel) (Nat.le_of_ble_eq_true rfl) rfl (fun hf p e s m args below meth c G X => ?_)
  refine wk_aload_n X dX0_copyFrom_0 0 rfl ?_
  refine wk_getR X dX0_copyFrom_1 fo_X0_14 hf (fun v1 hf => ?_)
  refine wk_aload_n X dX0_copyFrom_4 1 rfl ?_
  refine wk_getR X dX0_copyFrom_5 fo_X0_14 hf (fun v2 hf => ?_)
  refine wk_callVv X [.ref v2] [] dX0_copyFrom_8 rfl vo_X0_66 rfl (by decide) (Nat.le_of_ble_eq_true rfl) hf (c_X2_copyFrom l _ _ _) (fun r3 hf => ?_)
  refine wk_aload_n X dX0_copyFrom_11 0 rfl ?_
  refine wk_getR X dX0_copyFrom_12 fo_X0_20 hf (fun v4 hf => ?_)
  refine wk_aload_n X dX0_copyFrom_15 1 rfl ?_
  refine wk_getR X dX0_copyFrom_16 fo_X0_20 hf (fun v5 hf => ?_)
  refine wk_callVv X [.ref v5] [] dX0_copyFrom_19 rfl vo_X0_66 rfl (by decide) (Nat.le_of_ble_eq_true rfl) hf (c_X2_copyFrom l _ _ _) (fun r6 hf => ?_)
  refine wk_aload_n X dX0_copyFrom_22 0 rfl ?_
  refine wk_getR X dX0_copyFrom_23 fo_X0_23 hf (fun v7 hf => ?_)
  refine wk_aload_n X dX0_copyFrom_26 1 rfl ?_
  refine wk_getR X dX0_copyFrom_27 fo_X0_23 hf (fun v8 hf => ?_)
  refine wk_callVv X [.ref v8] [] dX0_copyFrom_30 rfl vo_X0_66 rfl (by decide) (Nat.le_of_ble_eq_true rfl) hf (c_X2_copyFrom l _ _ _) (fun r9 hf => ?_)
  refine wk_aload_n X dX0_copyFrom_33 0 rfl ?_
  refine wk_getR X dX0_copyFrom_34 fo_X0_26 hf (fun v10 hf => ?_)
  refine wk_aload_n X dX0_copyFrom_37 1 rfl ?_
  refine wk_getR X dX0_copyFrom_38 fo_X0_26 hf (fun v11 hf => ?_)
  refine wk_callVv X [.ref v11] [] dX0_copyFrom_41 rfl vo_X0_66 rfl (by decide) (Nat.le_of_ble_eq_true rfl) hf (c_X2_copyFrom l _ _ _) (fun r12 hf => ?_)
  refine wk_aload_n X dX0_copyFrom_44 0 rfl ?_
  refine wk_aload_n X dX0_copyFrom_45 1 rfl ?_
  refine wk_getI X dX0_copyFrom_46 fo_X0_29 hf (fun v13 hf => ?_)
  refine wk_putI X dX0_copyFrom_49 fo_X0_29 hf (fun h14 hf => ?_)
  exact wk_return X dX0_copyFrom_52 hf
section Sf_X4_keepBetter
variable {p : Program} {l : Launch} {e : Env} {s : State} {m : MethodId} {args : Array Value} {below : List Frame} {meth : Method} {c : Code} {G : hp_G} {o : hp_H}
def f_X4_keepBetter_24  (h : hp_H) : Option (hp_H) := some h
set_option maxRecDepth 20000 in
theorem w_X4_keepBetter_24 (X : wx G p s m args meth c cX4_keepBetter 2 RX4 none)  (h : hp_H) (hf : f_X4_keepBetter_24 h = some o) : wq p l e (mt_R (2) 0 0) s m args below meth c (MQ below (mt_Q G none o) args s 0 0 (hp_A G)) G 2 0 0 24 [] [] h := by
  unfold f_X4_keepBetter_24 at hf
  exact wk_return X dX4_keepBetter_24 hf
end Sf_X4_keepBetter
def f_X4_keepBetter (x0 : Nat) (x1 : Int32) (h : hp_H) : Option (hp_H) := gd h x0 4 ((rd_I h x0 4 3).bind fun v1 => if x1 ≤ v1 then (f_X4_keepBetter_24 h) else ((wr_I h x0 4 3 x1).bind fun h2 => (rd_R h2 x0 4 2).bind fun v3 => (rd_R h2 x0 4 1).bind fun v4 => (f_X2_copyFrom v3 v4 h2).bind fun r5 => f_X4_keepBetter_24 r5))
set_option maxRecDepth 20000 in
theorem c_X4_keepBetter (l : Launch) (x0 : Nat) (x1 : Int32) (h : hp_H) (r : hp_H) (hf : f_X4_keepBetter x0 x1 h = some r) : cv l (2) yX4_keepBetter cX4_keepBetter 2 none 4 x0 [.int x1] h none r := by
  unfold f_X4_keepBetter at hf
  refine cv_of (lv := [(0, .ref x0), (1, .int x1)]) hf (by decide +kernel) (Nat.le_of_ble_eq_true rfl) rfl (fun hf p e s m args below meth c G X => ?_)
  refine wk_iload_n X dX4_keepBetter_0 1 rfl ?_
  refine wk_aload_n X dX4_keepBetter_1 0 rfl ?_
  refine wk_getI X dX4_keepBetter_2 fo_X4_26 hf (fun v1 hf => ?_)
  refine wk_icmp_le X 24 dX4_keepBetter_5 (by decide) hf (fun hf => ?_) (fun hf => ?_)
  · exact wq_sub [] rfl (w_X4_keepBetter_24 X _ hf)
  · refine wk_aload_n X dX4_keepBetter_8 0 rfl ?_
    refine wk_iload_n X dX4_keepBetter_9 1 rfl ?_
    refine wk_putI X dX4_keepBetter_10 fo_X4_26 hf (fun h2 hf => ?_)
    refine wk_aload_n X dX4_keepBetter_13 0 rfl ?_
    refine wk_getR X dX4_keepBetter_14 fo_X4_23 hf (fun v3 hf => ?_)
    refine wk_aload_n X dX4_keepBetter_17 0 rfl ?_
    refine wk_getR X dX4_keepBetter_18 fo_X4_20 hf (fun v4 hf => ?_)
    refine wk_callVv X [.ref v4] [] dX4_keepBetter_21 rfl vo_X4_69 rfl (by decide) (Nat.le_of_ble_eq_true rfl) hf (c_X2_copyFrom l _ _ _) (fun r5 hf => ?_)
    exact wq_sub [] rfl (w_X4_keepBetter_24 X _ hf)
section Sf_X4_rightAt
variable {p : Program} {l : Launch} {e : Env} {s : State} {m : MethodId} {args : Array Value} {below : List Frame} {meth : Method} {c : Code} {G : hp_G} {o : Int32 × hp_H}
def f_X4_rightAt_169 (x0 : Nat) (x4 : Int32) (x5 : Int32) (t0 : Int32) (h : hp_H) : Option (Int32 × hp_H) := (rd_R h x0 4 0).bind fun v1 => (f_X2_set v1 ((x4 * 64) + x5) t0 h).bind fun r2 => some (t0, r2)
set_option maxRecDepth 20000 in
theorem w_X4_rightAt_169 (X : wx G p s m args meth c cX4_rightAt 11 RX4 (some .int)) (x0 : Nat) (x4 : Int32) (x5 : Int32) (t0 : Int32) (h : hp_H) (hf : f_X4_rightAt_169 x0 x4 x5 t0 h = some o) : wq p l e (mt_R (5) 0 0) s m args below meth c (MQ below (mt_Q G (some (.int o.1)) o.2) args s 0 0 (hp_A G)) G 11 0 0 169 [(0, .ref x0), (4, .int x4), (5, .int x5)] [.int t0] h := by
  unfold f_X4_rightAt_169 at hf
  refine wk_istore (lv' := [(10, .int t0), (0, .ref x0), (4, .int x4), (5, .int x5)]) X dX4_rightAt_169 (by decide) rfl ?_
  refine wk_aload_n X dX4_rightAt_171 1 rfl ?_
  refine wk_getR X dX4_rightAt_172 fo_X4_16 hf (fun v1 hf => ?_)
  refine wk_iload X dX4_rightAt_175 2 rfl ?_
  refine wk_bipush X dX4_rightAt_177 ib_64 ?_
  refine wk_imul X dX4_rightAt_179 ?_
  refine wk_iload X dX4_rightAt_180 3 rfl ?_
  refine wk_iadd X dX4_rightAt_182 ?_
  refine wk_iload X dX4_rightAt_183 0 rfl ?_
  refine wk_callVv X [.int ((x4 * 64) + x5), .int t0] [] dX4_rightAt_185 rfl vo_X4_65 rfl (by decide) (Nat.le_of_ble_eq_true rfl) hf (c_X2_set l _ _ _ _) (fun r2 hf => ?_)
  refine wk_iload X dX4_rightAt_188 0 rfl ?_
  exact wk_ireturn X dX4_rightAt_190 hf
def f_X4_rightAt_168 (x0 : Nat) (x4 : Int32) (x5 : Int32) (h : hp_H) : Option (Int32 × hp_H) := f_X4_rightAt_169 x0 x4 x5 0 h
set_option maxRecDepth 20000 in
theorem w_X4_rightAt_168 (X : wx G p s m args meth c cX4_rightAt 11 RX4 (some .int)) (x0 : Nat) (x4 : Int32) (x5 : Int32) (h : hp_H) (hf : f_X4_rightAt_168 x0 x4 x5 h = some o) : wq p l e (mt_R (5) 0 0) s m args below meth c (MQ below (mt_Q G (some (.int o.1)) o.2) args s 0 0 (hp_A G)) G 11 0 0 168 [(0, .ref x0), (4, .int x4), (5, .int x5)] [] h := by
  unfold f_X4_rightAt_168 at hf
  refine wk_iconst X dX4_rightAt_168 ic_0 ?_
  exact wq_sub [0, 1, 2] rfl (w_X4_rightAt_169 X _ _ _ _ _ hf)
def f_X4_rightAt_118 (x0 : Nat) (x1 : Nat) (x4 : Int32) (x5 : Int32) (x7 : Int32) (h : hp_H) : Option (Int32 × hp_H) := (rd_R h x1 3 5).bind fun v1 => (f_X2_at v1 x4 h).bind fun r2 => (f_X3_mudIn x1 0 r2.2).bind fun r3 => (f_X3_heard x1 r2.1 x7 r3.1 r3.2).bind fun r4 => (f_X3_namedBy x1 r4.1 r4.2).bind fun r5 => if r5.1 = (-1) then (f_X4_rightAt_168 x0 x4 x5 r5.2) else ((f_X10_holds r2.1 r5.1 r5.2).bind fun r6 => if r6.1 = 0 then (f_X4_rightAt_168 x0 x4 x5 r6.2) else (f_X4_rightAt_169 x0 x4 x5 1 r6.2))
set_option maxRecDepth 20000 in
theorem w_X4_rightAt_118 (X : wx G p s m args meth c cX4_rightAt 11 RX4 (some .int)) (x0 : Nat) (x1 : Nat) (x4 : Int32) (x5 : Int32) (x7 : Int32) (h : hp_H) (hf : f_X4_rightAt_118 x0 x1 x4 x5 x7 h = some o) : wq p l e (mt_R (5) 0 0) s m args below meth c (MQ below (mt_Q G (some (.int o.1)) o.2) args s 0 0 (hp_A G)) G 11 0 0 118 [(0, .ref x0), (1, .ref x1), (4, .int x4), (5, .int x5), (7, .int x7)] [] h := by
  unfold f_X4_rightAt_118 at hf
  refine wk_aload_n X dX4_rightAt_118 1 rfl ?_
  refine wk_getR X dX4_rightAt_119 fo_X4_77 hf (fun v1 hf => ?_)
  refine wk_iload X dX4_rightAt_122 2 rfl ?_
  refine wk_callVi X [.int x4] [] dX4_rightAt_124 rfl vo_X4_73 rfl (by decide) (Nat.le_of_ble_eq_true rfl) hf (c_X2_at l _ _ _) (fun r2 hf => ?_)
  refine wk_istore (lv' := [(8, .int r2.1), (0, .ref x0), (1, .ref x1), (4, .int x4), (5, .int x5), (7, .int x7)]) X dX4_rightAt_127 (by decide) rfl ?_
  refine wk_aload_n X dX4_rightAt_129 2 rfl ?_
  refine wk_aload_n X dX4_rightAt_130 2 rfl ?_
  refine wk_iload X dX4_rightAt_131 0 rfl ?_
  refine wk_iload X dX4_rightAt_133 5 rfl ?_
  refine wk_aload_n X dX4_rightAt_135 2 rfl ?_
  refine wk_iconst X dX4_rightAt_136 ic_0 ?_
  refine wk_callVi X [.int 0] [.int x7, .int r2.1, .ref x1, .ref x1] dX4_rightAt_137 rfl vo_X4_79 rfl (by decide) (Nat.le_of_ble_eq_true rfl) hf (c_X3_mudIn l _ _ _) (fun r3 hf => ?_)
  refine wk_callVi X [.int r2.1, .int x7, .int r3.1] [.ref x1] dX4_rightAt_140 rfl vo_X4_82 rfl (by decide) (Nat.le_of_ble_eq_true rfl) hf (c_X3_heard l _ _ _ _ _) (fun r4 hf => ?_)
  refine wk_callVi X [.int r4.1] [] dX4_rightAt_143 rfl vo_X4_86 rfl (by decide) (Nat.le_of_ble_eq_true rfl) hf (c_X3_namedBy l _ _ _) (fun r5 hf => ?_)
  refine wk_istore (lv' := [(9, .int r5.1), (8, .int r2.1), (0, .ref x0), (1, .ref x1), (4, .int x4), (5, .int x5), (7, .int x7)]) X dX4_rightAt_146 (by decide) rfl ?_
  refine wk_iload X dX4_rightAt_148 0 rfl ?_
  refine wk_iconst X dX4_rightAt_150 ic_m1 ?_
  refine wk_icmp_eq X 168 dX4_rightAt_151 (by decide) hf (fun hf => ?_) (fun hf => ?_)
  · exact wq_sub [2, 4, 5] rfl (w_X4_rightAt_168 X _ _ _ _ hf)
  · refine wk_iload X dX4_rightAt_154 1 rfl ?_
    refine wk_iload X dX4_rightAt_156 0 rfl ?_
    refine wk_callSNi X [.int r2.1, .int r5.1] [] dX4_rightAt_158 rfl vo_X4_61 rfl (by decide) (Nat.le_of_ble_eq_true rfl) hf (c_X10_holds l _ _ _) (fun r6 hf => ?_)
    refine wk_if_eq X 168 dX4_rightAt_161 (by decide) hf (fun hf => ?_) (fun hf => ?_)
    · exact wq_sub [2, 4, 5] rfl (w_X4_rightAt_168 X _ _ _ _ hf)
    · refine wk_iconst X dX4_rightAt_164 ic_1 ?_
      refine wk_goto X 169 dX4_rightAt_165 (by decide) ?_
      exact wq_sub [2, 4, 5] rfl (w_X4_rightAt_169 X _ _ _ _ _ hf)
def f_X4_rightAt_109 (k72 : Nat → Nat → Int32 → Int32 → Int32 → Int32 → hp_H → Option (Int32 × hp_H)) (x0 : Nat) (x1 : Nat) (x4 : Int32) (x5 : Int32) (x8 : Int32) (t0 : Int32) (t1 : Int32) (h : hp_H) : Option (Int32 × hp_H) := k72 x0 x1 x4 x5 (t0 ||| t1) (x8 + 1) h
set_option maxRecDepth 20000 in
theorem w_X4_rightAt_109 (X : wx G p s m args meth c cX4_rightAt 11 RX4 (some .int)) (k72 : Nat → Nat → Int32 → Int32 → Int32 → Int32 → hp_H → Option (Int32 × hp_H)) (hk72 : ∀ (x0 : Nat) (x1 : Nat) (x4 : Int32) (x5 : Int32) (x7 : Int32) (x8 : Int32) (h : hp_H), k72 x0 x1 x4 x5 x7 x8 h = some o → wq p l e (mt_R (5) 0 0) s m args below meth c (MQ below (mt_Q G (some (.int o.1)) o.2) args s 0 0 (hp_A G)) G 11 0 0 72 [(0, .ref x0), (1, .ref x1), (4, .int x4), (5, .int x5), (7, .int x7), (8, .int x8)] [] h) (x0 : Nat) (x1 : Nat) (x4 : Int32) (x5 : Int32) (x8 : Int32) (t0 : Int32) (t1 : Int32) (h : hp_H) (hf : f_X4_rightAt_109 k72 x0 x1 x4 x5 x8 t0 t1 h = some o) : wq p l e (mt_R (5) 0 0) s m args below meth c (MQ below (mt_Q G (some (.int o.1)) o.2) args s 0 0 (hp_A G)) G 11 0 0 109 [(0, .ref x0), (1, .ref x1), (4, .int x4), (5, .int x5), (8, .int x8)] [.int t1, .int t0] h := by
  unfold f_X4_rightAt_109 at hf
  refine wk_ior X dX4_rightAt_109 ?_
  refine wk_istore (lv' := [(7, .int (t0 ||| t1)), (0, .ref x0), (1, .ref x1), (4, .int x4), (5, .int x5), (8, .int x8)]) X dX4_rightAt_110 (by decide) rfl ?_
  refine wk_iinc (lv' := [(8, .int (x8 + 1)), (7, .int (t0 ||| t1)), (0, .ref x0), (1, .ref x1), (4, .int x4), (5, .int x5)]) X dX4_rightAt_112 5 rfl ic_1 (by decide) rfl ?_
  refine wk_goto X 72 dX4_rightAt_115 (by decide) ?_
  exact wq_sub [2, 3, 4, 5, 1, 0] rfl (hk72 _ _ _ _ _ _ _ hf)
def f_X4_rightAt_72 (k72 : Nat → Nat → Int32 → Int32 → Int32 → Int32 → hp_H → Option (Int32 × hp_H)) (x0 : Nat) (x1 : Nat) (x4 : Int32) (x5 : Int32) (x7 : Int32) (x8 : Int32) (h : hp_H) : Option (Int32 × hp_H) := (rd_R h x1 3 0).bind fun v1 => (rd_I h v1 1 2).bind fun v2 => if v2 ≤ x8 then (f_X4_rightAt_118 x0 x1 x4 x5 x7 h) else ((f_X10_holds x5 x8 h).bind fun r3 => if r3.1 = 0 then (f_X4_rightAt_109 k72 x0 x1 x4 x5 x8 x7 0 r3.2) else ((rd_R r3.2 x1 3 5).bind fun v4 => (f_X2_at v4 x8 r3.2).bind fun r5 => f_X4_rightAt_109 k72 x0 x1 x4 x5 x8 x7 r5.1 r5.2))
set_option maxRecDepth 20000 in
theorem w_X4_rightAt_72 (X : wx G p s m args meth c cX4_rightAt 11 RX4 (some .int)) (k72 : Nat → Nat → Int32 → Int32 → Int32 → Int32 → hp_H → Option (Int32 × hp_H)) (hk72 : ∀ (x0 : Nat) (x1 : Nat) (x4 : Int32) (x5 : Int32) (x7 : Int32) (x8 : Int32) (h : hp_H), k72 x0 x1 x4 x5 x7 x8 h = some o → wq p l e (mt_R (5) 0 0) s m args below meth c (MQ below (mt_Q G (some (.int o.1)) o.2) args s 0 0 (hp_A G)) G 11 0 0 72 [(0, .ref x0), (1, .ref x1), (4, .int x4), (5, .int x5), (7, .int x7), (8, .int x8)] [] h) (x0 : Nat) (x1 : Nat) (x4 : Int32) (x5 : Int32) (x7 : Int32) (x8 : Int32) (h : hp_H) (hf : f_X4_rightAt_72 k72 x0 x1 x4 x5 x7 x8 h = some o) : wq p l e (mt_R (5) 0 0) s m args below meth c (MQ below (mt_Q G (some (.int o.1)) o.2) args s 0 0 (hp_A G)) G 11 0 0 72 [(0, .ref x0), (1, .ref x1), (4, .int x4), (5, .int x5), (7, .int x7), (8, .int x8)] [] h := by
  unfold f_X4_rightAt_72 at hf
  refine wk_iload X dX4_rightAt_72 5 rfl ?_
  refine wk_aload_n X dX4_rightAt_74 1 rfl ?_
  refine wk_getR X dX4_rightAt_75 fo_X4_37 hf (fun v1 hf => ?_)
  refine wk_getI X dX4_rightAt_78 fo_X4_43 hf (fun v2 hf => ?_)
  refine wk_icmp_ge X 118 dX4_rightAt_81 (by decide) hf (fun hf => ?_) (fun hf => ?_)
  · exact wq_sub [0, 1, 2, 3, 4] rfl (w_X4_rightAt_118 X _ _ _ _ _ _ hf)
  · refine wk_iload X dX4_rightAt_84 4 rfl ?_
    refine wk_iload X dX4_rightAt_86 3 rfl ?_
    refine wk_iload X dX4_rightAt_88 5 rfl ?_
    refine wk_callSNi X [.int x5, .int x8] [.int x7] dX4_rightAt_90 rfl vo_X4_61 rfl (by decide) (Nat.le_of_ble_eq_true rfl) hf (c_X10_holds l _ _ _) (fun r3 hf => ?_)
    refine wk_if_eq X 108 dX4_rightAt_93 (by decide) hf (fun hf => ?_) (fun hf => ?_)
    · refine wk_iconst X dX4_rightAt_108 ic_0 ?_
      exact wq_sub [0, 1, 2, 3, 5] rfl (w_X4_rightAt_109 X k72 hk72 _ _ _ _ _ _ _ _ hf)
    · refine wk_aload_n X dX4_rightAt_96 1 rfl ?_
      refine wk_getR X dX4_rightAt_97 fo_X4_77 hf (fun v4 hf => ?_)
      refine wk_iload X dX4_rightAt_100 5 rfl ?_
      refine wk_callVi X [.int x8] [.int x7] dX4_rightAt_102 rfl vo_X4_73 rfl (by decide) (Nat.le_of_ble_eq_true rfl) hf (c_X2_at l _ _ _) (fun r5 hf => ?_)
      refine wk_goto X 109 dX4_rightAt_105 (by decide) ?_
      exact wq_sub [0, 1, 2, 3, 5] rfl (w_X4_rightAt_109 X k72 hk72 _ _ _ _ _ _ _ _ hf)
def l_X4_rightAt_72 (x0 : Nat) (x1 : Nat) (x4 : Int32) (x5 : Int32) (x7 : Int32) (x8 : Int32) (h : hp_H) : Option (Int32 × hp_H) := lp (fun k (s : Nat × Nat × Int32 × Int32 × Int32 × Int32 × hp_H) => f_X4_rightAt_72  (fun a0 a1 a2 a3 a4 a5 a6 => k (a0, a1, a2, a3, a4, a5, a6)) s.1 s.2.1 s.2.2.1 s.2.2.2.1 s.2.2.2.2.1 s.2.2.2.2.2.1 s.2.2.2.2.2.2) 100000 (x0, x1, x4, x5, x7, x8, h)
theorem wl_X4_rightAt_72 (X : wx G p s m args meth c cX4_rightAt 11 RX4 (some .int)) (x0 : Nat) (x1 : Nat) (x4 : Int32) (x5 : Int32) (x7 : Int32) (x8 : Int32) (h : hp_H) (hf : l_X4_rightAt_72 x0 x1 x4 x5 x7 x8 h = some o) : wq p l e (mt_R (5) 0 0) s m args below meth c (MQ below (mt_Q G (some (.int o.1)) o.2) args s 0 0 (hp_A G)) G 11 0 0 72 [(0, .ref x0), (1, .ref x1), (4, .int x4), (5, .int x5), (7, .int x7), (8, .int x8)] [] h :=
  lp_ind (P := fun (s_ : Nat × Nat × Int32 × Int32 × Int32 × Int32 × hp_H) => wq p l e (mt_R (5) 0 0) s m args below meth c (MQ below (mt_Q G (some (.int o.1)) o.2) args s 0 0 (hp_A G)) G 11 0 0 72 [(0, .ref s_.1), (1, .ref s_.2.1), (4, .int s_.2.2.1), (5, .int s_.2.2.2.1), (7, .int s_.2.2.2.2.1), (8, .int s_.2.2.2.2.2.1)] [] s_.2.2.2.2.2.2) (fun k s hk hf => w_X4_rightAt_72 X  (fun a0 a1 a2 a3 a4 a5 a6 => k (a0, a1, a2, a3, a4, a5, a6)) (fun a0 a1 a2 a3 a4 a5 a6 hf => hk (a0, a1, a2, a3, a4, a5, a6) hf) s.1 s.2.1 s.2.2.1 s.2.2.2.1 s.2.2.2.2.1 s.2.2.2.2.2.1 s.2.2.2.2.2.2 hf) 100000 (x0, x1, x4, x5, x7, x8, h) hf
def f_X4_rightAt_37 (x0 : Nat) (x1 : Nat) (x4 : Int32) (t0 : Int32) (t1 : Int32) (h : hp_H) : Option (Int32 × hp_H) := (rd_R h x0 4 0).bind fun v1 => (f_X2_at v1 ((x4 * 64) + (t0 ||| t1)) h).bind fun r2 => if r2.1 = (-1) then (l_X4_rightAt_72 x0 x1 x4 (t0 ||| t1) 0 0 r2.2) else (some (r2.1, r2.2))
set_option maxRecDepth 20000 in
theorem w_X4_rightAt_37 (X : wx G p s m args meth c cX4_rightAt 11 RX4 (some .int)) (x0 : Nat) (x1 : Nat) (x4 : Int32) (t0 : Int32) (t1 : Int32) (h : hp_H) (hf : f_X4_rightAt_37 x0 x1 x4 t0 t1 h = some o) : wq p l e (mt_R (5) 0 0) s m args below meth c (MQ below (mt_Q G (some (.int o.1)) o.2) args s 0 0 (hp_A G)) G 11 0 0 37 [(0, .ref x0), (1, .ref x1), (4, .int x4)] [.int t1, .int t0] h := by
  unfold f_X4_rightAt_37 at hf
  refine wk_ior X dX4_rightAt_37 ?_
  refine wk_istore (lv' := [(5, .int (t0 ||| t1)), (0, .ref x0), (1, .ref x1), (4, .int x4)]) X dX4_rightAt_38 (by decide) rfl ?_
  refine wk_aload_n X dX4_rightAt_40 1 rfl ?_
  refine wk_getR X dX4_rightAt_41 fo_X4_16 hf (fun v1 hf => ?_)
  refine wk_iload X dX4_rightAt_44 3 rfl ?_
  refine wk_bipush X dX4_rightAt_46 ib_64 ?_
  refine wk_imul X dX4_rightAt_48 ?_
  refine wk_iload X dX4_rightAt_49 0 rfl ?_
  refine wk_iadd X dX4_rightAt_51 ?_
  refine wk_callVi X [.int ((x4 * 64) + (t0 ||| t1))] [] dX4_rightAt_52 rfl vo_X4_73 rfl (by decide) (Nat.le_of_ble_eq_true rfl) hf (c_X2_at l _ _ _) (fun r2 hf => ?_)
  refine wk_istore (lv' := [(6, .int r2.1), (5, .int (t0 ||| t1)), (0, .ref x0), (1, .ref x1), (4, .int x4)]) X dX4_rightAt_55 (by decide) rfl ?_
  refine wk_iload X dX4_rightAt_57 0 rfl ?_
  refine wk_iconst X dX4_rightAt_59 ic_m1 ?_
  refine wk_icmp_eq X 66 dX4_rightAt_60 (by decide) hf (fun hf => ?_) (fun hf => ?_)
  · refine wk_iconst X dX4_rightAt_66 ic_0 ?_
    refine wk_istore (lv' := [(7, .int 0), (6, .int r2.1), (5, .int (t0 ||| t1)), (0, .ref x0), (1, .ref x1), (4, .int x4)]) X dX4_rightAt_67 (by decide) rfl ?_
    refine wk_iconst X dX4_rightAt_69 ic_0 ?_
    refine wk_istore (lv' := [(8, .int 0), (7, .int 0), (6, .int r2.1), (5, .int (t0 ||| t1)), (0, .ref x0), (1, .ref x1), (4, .int x4)]) X dX4_rightAt_70 (by decide) rfl ?_
    exact wq_sub [4, 5, 6, 3, 1, 0] rfl (wl_X4_rightAt_72 X _ _ _ _ _ _ _ hf)
  · refine wk_iload X dX4_rightAt_63 0 rfl ?_
    exact wk_ireturn X dX4_rightAt_65 hf
end Sf_X4_rightAt
def f_X4_rightAt (x0 : Nat) (x1 : Nat) (x2 : Int32) (x3 : Int32) (h : hp_H) : Option (Int32 × hp_H) := gd h x0 4 (if 0 ≤ x2 then ((rd_R h x0 4 1).bind fun v1 => (f_X2_at v1 x2 h).bind fun r2 => if x2 = 0 then (f_X4_rightAt_37 x0 x1 r2.1 x3 0 r2.2) else ((rd_R r2.2 x0 4 1).bind fun v3 => (f_X2_at v3 (x2 - 1) r2.2).bind fun r4 => f_X4_rightAt_37 x0 x1 r2.1 x3 (1 <<< (r4.1 &&& 31)) r4.2)) else (some (0, h)))
set_option maxRecDepth 20000 in
theorem c_X4_rightAt (l : Launch) (x0 : Nat) (x1 : Nat) (x2 : Int32) (x3 : Int32) (h : hp_H) (r : Int32 × hp_H) (hf : f_X4_rightAt x0 x1 x2 x3 h = some r) : cv l (5) yX4_rightAt cX4_rightAt 11 (some .int) 4 x0 [.ref x1, .int x2, .int x3] h (some (.int r.1)) r.2 := by
  unfold f_X4_rightAt at hf
  refine cv_of (lv := [(0, .ref x0), (1, .ref x1), (2, .int x2), (3, .int x3)]) hf (by decide +kernel) (Nat.le_of_ble_eq_true rfl) rfl (fun hf p e s m args below meth c G X => ?_)
  refine wk_iload_n X dX4_rightAt_0 2 rfl ?_
  refine wk_if_ge X 6 dX4_rightAt_1 (by decide) hf (fun hf => ?_) (fun hf => ?_)
  · refine wk_aload_n X dX4_rightAt_6 0 rfl ?_
    refine wk_getR X dX4_rightAt_7 fo_X4_20 hf (fun v1 hf => ?_)
    refine wk_iload_n X dX4_rightAt_10 2 rfl ?_
    refine wk_callVi X [.int x2] [] dX4_rightAt_11 rfl vo_X4_73 rfl (by decide) (Nat.le_of_ble_eq_true rfl) hf (c_X2_at l _ _ _) (fun r2 hf => ?_)
    refine wk_istore (lv' := [(4, .int r2.1), (0, .ref x0), (1, .ref x1), (2, .int x2), (3, .int x3)]) X dX4_rightAt_14 (by decide) rfl ?_
    refine wk_iload_n X dX4_rightAt_16 4 rfl ?_
    refine wk_iload_n X dX4_rightAt_17 3 rfl ?_
    refine wk_if_ne X 25 dX4_rightAt_18 (by decide) hf (fun hf => ?_) (fun hf => ?_)
    · refine wk_iconst X dX4_rightAt_25 ic_1 ?_
      refine wk_aload_n X dX4_rightAt_26 1 rfl ?_
      refine wk_getR X dX4_rightAt_27 fo_X4_20 hf (fun v3 hf => ?_)
      refine wk_iload_n X dX4_rightAt_30 3 rfl ?_
      refine wk_iconst X dX4_rightAt_31 ic_1 ?_
      refine wk_isub X dX4_rightAt_32 ?_
      refine wk_callVi X [.int (x2 - 1)] [.int 1, .int x3] dX4_rightAt_33 rfl vo_X4_73 rfl (by decide) (Nat.le_of_ble_eq_true rfl) hf (c_X2_at l _ _ _) (fun r4 hf => ?_)
      refine wk_ishl X dX4_rightAt_36 ?_
      exact wq_sub [1, 2, 0] rfl (w_X4_rightAt_37 X _ _ _ _ _ _ hf)
    · refine wk_iconst X dX4_rightAt_21 ic_0 ?_
      refine wk_goto X 37 dX4_rightAt_22 (by decide) ?_
      exact wq_sub [1, 2, 0] rfl (w_X4_rightAt_37 X _ _ _ _ _ _ hf)
  · refine wk_iconst X dX4_rightAt_4 ic_0 ?_
    exact wk_ireturn X dX4_rightAt_5 hf
section Sf_X7_keep
variable {p : Program} {l : Launch} {e : Env} {s : State} {m : MethodId} {args : Array Value} {below : List Frame} {meth : Method} {c : Code} {G : hp_G} {o : Int32 × hp_H}
end Sf_X7_keep
def f_X7_keep (x0 : Nat) (x1 : Int32) (x2 : Int32) (x3 : Int32) (x4 : Int32) (h : hp_H) : Option (Int32 × hp_H) := gd h x0 7 ((rd_R h x0 7 0).bind fun v1 => (rd_I h x0 7 4).bind fun v2 => (f_X2_set v1 v2 x1 h).bind fun r3 => (rd_R r3 x0 7 1).bind fun v4 => (rd_I r3 x0 7 4).bind fun v5 => (f_X2_set v4 v5 (x2 - 1) r3).bind fun r6 => (rd_R r6 x0 7 2).bind fun v7 => (rd_I r6 x0 7 4).bind fun v8 => (f_X2_set v7 v8 x3 r6).bind fun r9 => (rd_R r9 x0 7 3).bind fun v10 => (rd_I r9 x0 7 4).bind fun v11 => (f_X2_set v10 v11 x4 r9).bind fun r12 => (rd_I r12 x0 7 4).bind fun v13 => (wr_I r12 x0 7 4 (v13 + 1)).bind fun h14 => (rd_I h14 x0 7 4).bind fun v15 => some (v15, h14))
set_option maxRecDepth 20000 in
theorem c_X7_keep (l : Launch) (x0 : Nat) (x1 : Int32) (x2 : Int32) (x3 : Int32) (x4 : Int32) (h : hp_H) (r : Int32 × hp_H) (hf : f_X7_keep x0 x1 x2 x3 x4 h = some r) : cv l (2) yX7_keep cX7_keep 5 (some .int) 7 x0 [.int x1, .int x2, .int x3, .int x4] h (some (.int r.1)) r.2 := by
  unfold f_X7_keep at hf
  refine cv_of (lv := [(0, .ref x0), (1, .int x1), (2, .int x2), (3, .int x3), (4, .int x4)]) hf (by decide +kernel) (Nat.le_of_ble_eq_true rfl) rfl (fun hf p e s m args below meth c G X => ?_)
  refine wk_aload_n X dX7_keep_0 0 rfl ?_
  refine wk_getR X dX7_keep_1 fo_X7_14 hf (fun v1 hf => ?_)
  refine wk_aload_n X dX7_keep_4 0 rfl ?_
  refine wk_getI X dX7_keep_5 fo_X7_29 hf (fun v2 hf => ?_)
  refine wk_iload_n X dX7_keep_8 1 rfl ?_
  refine wk_callVv X [.int v2, .int x1] [] dX7_keep_9 rfl vo_X7_33 rfl (by decide) (Nat.le_of_ble_eq_true rfl) hf (c_X2_set l _ _ _ _) (fun r3 hf => ?_)
  refine wk_aload_n X dX7_keep_12 0 rfl ?_
  refine wk_getR X dX7_keep_13 fo_X7_20 hf (fun v4 hf => ?_)
  refine wk_aload_n X dX7_keep_16 0 rfl ?_
  refine wk_getI X dX7_keep_17 fo_X7_29 hf (fun v5 hf => ?_)
  refine wk_iload_n X dX7_keep_20 2 rfl ?_
  refine wk_iconst X dX7_keep_21 ic_1 ?_
  refine wk_isub X dX7_keep_22 ?_
  refine wk_callVv X [.int v5, .int (x2 - 1)] [] dX7_keep_23 rfl vo_X7_33 rfl (by decide) (Nat.le_of_ble_eq_true rfl) hf (c_X2_set l _ _ _ _) (fun r6 hf => ?_)
  refine wk_aload_n X dX7_keep_26 0 rfl ?_
  refine wk_getR X dX7_keep_27 fo_X7_23 hf (fun v7 hf => ?_)
  refine wk_aload_n X dX7_keep_30 0 rfl ?_
  refine wk_getI X dX7_keep_31 fo_X7_29 hf (fun v8 hf => ?_)
  refine wk_iload_n X dX7_keep_34 3 rfl ?_
  refine wk_callVv X [.int v8, .int x3] [] dX7_keep_35 rfl vo_X7_33 rfl (by decide) (Nat.le_of_ble_eq_true rfl) hf (c_X2_set l _ _ _ _) (fun r9 hf => ?_)
  refine wk_aload_n X dX7_keep_38 0 rfl ?_
  refine wk_getR X dX7_keep_39 fo_X7_26 hf (fun v10 hf => ?_)
  refine wk_aload_n X dX7_keep_42 0 rfl ?_
  refine wk_getI X dX7_keep_43 fo_X7_29 hf (fun v11 hf => ?_)
  refine wk_iload X dX7_keep_46 4 rfl ?_
  refine wk_callVv X [.int v11, .int x4] [] dX7_keep_48 rfl vo_X7_33 rfl (by decide) (Nat.le_of_ble_eq_true rfl) hf (c_X2_set l _ _ _ _) (fun r12 hf => ?_)
  refine wk_aload_n X dX7_keep_51 0 rfl ?_
  refine wk_dup X dX7_keep_52 rfl ?_
  refine wk_getI X dX7_keep_53 fo_X7_29 hf (fun v13 hf => ?_)
  refine wk_iconst X dX7_keep_56 ic_1 ?_
  refine wk_iadd X dX7_keep_57 ?_
  refine wk_putI X dX7_keep_58 fo_X7_29 hf (fun h14 hf => ?_)
  refine wk_aload_n X dX7_keep_61 0 rfl ?_
  refine wk_getI X dX7_keep_62 fo_X7_29 hf (fun v15 hf => ?_)
  exact wk_ireturn X dX7_keep_65 hf
section Sf_X7_allHold
variable {p : Program} {l : Launch} {e : Env} {s : State} {m : MethodId} {args : Array Value} {below : List Frame} {meth : Method} {c : Code} {G : hp_G} {o : Int32 × hp_H}
def f_X7_allHold_62  (h : hp_H) : Option (Int32 × hp_H) := if 1 = 0 ∨ 1 = 1 then some (1, h) else none
set_option maxRecDepth 20000 in
theorem w_X7_allHold_62 (X : wx G p s m args meth c cX7_allHold 4 RX7 (some .boolean))  (h : hp_H) (hf : f_X7_allHold_62 h = some o) : wq p l e (mt_R (6) 0 0) s m args below meth c (MQ below (mt_Q G (some (.int o.1)) o.2) args s 0 0 (hp_A G)) G 4 0 0 62 [] [] h := by
  unfold f_X7_allHold_62 at hf
  refine wk_iconst X dX7_allHold_62 ic_1 ?_
  exact wk_zreturn X dX7_allHold_63 hf
def f_X7_allHold_54  (h : hp_H) : Option (Int32 × hp_H) := if 0 = 0 ∨ 0 = 1 then some (0, h) else none
set_option maxRecDepth 20000 in
theorem w_X7_allHold_54 (X : wx G p s m args meth c cX7_allHold 4 RX7 (some .boolean))  (h : hp_H) (hf : f_X7_allHold_54 h = some o) : wq p l e (mt_R (6) 0 0) s m args below meth c (MQ below (mt_Q G (some (.int o.1)) o.2) args s 0 0 (hp_A G)) G 4 0 0 54 [] [] h := by
  unfold f_X7_allHold_54 at hf
  refine wk_iconst X dX7_allHold_54 ic_0 ?_
  exact wk_zreturn X dX7_allHold_55 hf
def f_X7_allHold_2 (k2 : Nat → Nat → Int32 → hp_H → Option (Int32 × hp_H)) (x0 : Nat) (x1 : Nat) (x2 : Int32) (h : hp_H) : Option (Int32 × hp_H) := (rd_I h x0 7 4).bind fun v1 => if v1 ≤ x2 then (f_X7_allHold_62 h) else ((rd_R h x0 7 0).bind fun v2 => (f_X2_at v2 x2 h).bind fun r3 => (rd_R r3.2 x0 7 1).bind fun v4 => (f_X2_at v4 x2 r3.2).bind fun r5 => (f_X3_heardAt x1 r3.1 r5.1 r5.2).bind fun r6 => (rd_R r6.2 x0 7 2).bind fun v7 => (f_X2_at v7 x2 r6.2).bind fun r8 => (rd_R r8.2 x0 7 3).bind fun v9 => (f_X2_at v9 x2 r8.2).bind fun r10 => if ((r6.1 >>> (r8.1 &&& 31)) &&& (1 : Int32)) = r10.1 then (k2 x0 x1 (x2 + 1) r10.2) else (f_X7_allHold_54 r10.2))
set_option maxRecDepth 20000 in
theorem w_X7_allHold_2 (X : wx G p s m args meth c cX7_allHold 4 RX7 (some .boolean)) (k2 : Nat → Nat → Int32 → hp_H → Option (Int32 × hp_H)) (hk2 : ∀ (x0 : Nat) (x1 : Nat) (x2 : Int32) (h : hp_H), k2 x0 x1 x2 h = some o → wq p l e (mt_R (6) 0 0) s m args below meth c (MQ below (mt_Q G (some (.int o.1)) o.2) args s 0 0 (hp_A G)) G 4 0 0 2 [(0, .ref x0), (1, .ref x1), (2, .int x2)] [] h) (x0 : Nat) (x1 : Nat) (x2 : Int32) (h : hp_H) (hf : f_X7_allHold_2 k2 x0 x1 x2 h = some o) : wq p l e (mt_R (6) 0 0) s m args below meth c (MQ below (mt_Q G (some (.int o.1)) o.2) args s 0 0 (hp_A G)) G 4 0 0 2 [(0, .ref x0), (1, .ref x1), (2, .int x2)] [] h := by
  unfold f_X7_allHold_2 at hf
  refine wk_iload_n X dX7_allHold_2 2 rfl ?_
  refine wk_aload_n X dX7_allHold_3 0 rfl ?_
  refine wk_getI X dX7_allHold_4 fo_X7_29 hf (fun v1 hf => ?_)
  refine wk_icmp_ge X 62 dX7_allHold_7 (by decide) hf (fun hf => ?_) (fun hf => ?_)
  · exact wq_sub [] rfl (w_X7_allHold_62 X _ hf)
  · refine wk_aload_n X dX7_allHold_10 1 rfl ?_
    refine wk_aload_n X dX7_allHold_11 0 rfl ?_
    refine wk_getR X dX7_allHold_12 fo_X7_14 hf (fun v2 hf => ?_)
    refine wk_iload_n X dX7_allHold_15 2 rfl ?_
    refine wk_callVi X [.int x2] [.ref x1] dX7_allHold_16 rfl vo_X7_37 rfl (by decide) (Nat.le_of_ble_eq_true rfl) hf (c_X2_at l _ _ _) (fun r3 hf => ?_)
    refine wk_aload_n X dX7_allHold_19 0 rfl ?_
    refine wk_getR X dX7_allHold_20 fo_X7_20 hf (fun v4 hf => ?_)
    refine wk_iload_n X dX7_allHold_23 2 rfl ?_
    refine wk_callVi X [.int x2] [.int r3.1, .ref x1] dX7_allHold_24 rfl vo_X7_37 rfl (by decide) (Nat.le_of_ble_eq_true rfl) hf (c_X2_at l _ _ _) (fun r5 hf => ?_)
    refine wk_callVi X [.int r3.1, .int r5.1] [] dX7_allHold_27 rfl vo_X7_41 rfl (by decide) (Nat.le_of_ble_eq_true rfl) hf (c_X3_heardAt l _ _ _ _) (fun r6 hf => ?_)
    refine wk_istore_n (lv' := [(3, .int r6.1), (0, .ref x0), (1, .ref x1), (2, .int x2)]) X dX7_allHold_30 (by decide) rfl ?_
    refine wk_iload_n X dX7_allHold_31 0 rfl ?_
    refine wk_aload_n X dX7_allHold_32 1 rfl ?_
    refine wk_getR X dX7_allHold_33 fo_X7_23 hf (fun v7 hf => ?_)
    refine wk_iload_n X dX7_allHold_36 3 rfl ?_
    refine wk_callVi X [.int x2] [.int r6.1] dX7_allHold_37 rfl vo_X7_37 rfl (by decide) (Nat.le_of_ble_eq_true rfl) hf (c_X2_at l _ _ _) (fun r8 hf => ?_)
    refine wk_ishr X dX7_allHold_40 ?_
    refine wk_iconst X dX7_allHold_41 ic_1 ?_
    refine wk_iand X dX7_allHold_42 ?_
    refine wk_aload_n X dX7_allHold_43 1 rfl ?_
    refine wk_getR X dX7_allHold_44 fo_X7_26 hf (fun v9 hf => ?_)
    refine wk_iload_n X dX7_allHold_47 3 rfl ?_
    refine wk_callVi X [.int x2] [.int ((r6.1 >>> (r8.1 &&& 31)) &&& (1 : Int32))] dX7_allHold_48 rfl vo_X7_37 rfl (by decide) (Nat.le_of_ble_eq_true rfl) hf (c_X2_at l _ _ _) (fun r10 hf => ?_)
    refine wk_icmp_eq X 56 dX7_allHold_51 (by decide) hf (fun hf => ?_) (fun hf => ?_)
    · refine wk_iinc (lv' := [(2, .int (x2 + 1)), (3, .int r6.1), (0, .ref x0), (1, .ref x1)]) X dX7_allHold_56 3 rfl ic_1 (by decide) rfl ?_
      refine wk_goto X 2 dX7_allHold_59 (by decide) ?_
      exact wq_sub [2, 3, 0] rfl (hk2 _ _ _ _ hf)
    · exact wq_sub [] rfl (w_X7_allHold_54 X _ hf)
def l_X7_allHold_2 (x0 : Nat) (x1 : Nat) (x2 : Int32) (h : hp_H) : Option (Int32 × hp_H) := lp (fun k (s : Nat × Nat × Int32 × hp_H) => f_X7_allHold_2  (fun a0 a1 a2 a3 => k (a0, a1, a2, a3)) s.1 s.2.1 s.2.2.1 s.2.2.2) 100000 (x0, x1, x2, h)
theorem wl_X7_allHold_2 (X : wx G p s m args meth c cX7_allHold 4 RX7 (some .boolean)) (x0 : Nat) (x1 : Nat) (x2 : Int32) (h : hp_H) (hf : l_X7_allHold_2 x0 x1 x2 h = some o) : wq p l e (mt_R (6) 0 0) s m args below meth c (MQ below (mt_Q G (some (.int o.1)) o.2) args s 0 0 (hp_A G)) G 4 0 0 2 [(0, .ref x0), (1, .ref x1), (2, .int x2)] [] h :=
  lp_ind (P := fun (s_ : Nat × Nat × Int32 × hp_H) => wq p l e (mt_R (6) 0 0) s m args below meth c (MQ below (mt_Q G (some (.int o.1)) o.2) args s 0 0 (hp_A G)) G 4 0 0 2 [(0, .ref s_.1), (1, .ref s_.2.1), (2, .int s_.2.2.1)] [] s_.2.2.2) (fun k s hk hf => w_X7_allHold_2 X  (fun a0 a1 a2 a3 => k (a0, a1, a2, a3)) (fun a0 a1 a2 a3 hf => hk (a0, a1, a2, a3) hf) s.1 s.2.1 s.2.2.1 s.2.2.2 hf) 100000 (x0, x1, x2, h) hf
end Sf_X7_allHold
def f_X7_allHold (x0 : Nat) (x1 : Nat) (h : hp_H) : Option (Int32 × hp_H) := gd h x0 7 (l_X7_allHold_2 x0 x1 0 h)
set_option maxRecDepth 20000 in
theorem c_X7_allHold (l : Launch) (x0 : Nat) (x1 : Nat) (h : hp_H) (r : Int32 × hp_H) (hf : f_X7_allHold x0 x1 h = some r) : cv l (6) yX7_allHold cX7_allHold 4 (some .boolean) 7 x0 [.ref x1] h (some (.int r.1)) r.2 := by
  unfold f_X7_allHold at hf
  refine cv_of (lv := [(0, .ref x0), (1, .ref x1)]) hf (by decide +kernel) (Nat.le_of_ble_eq_true rfl) rfl (fun hf p e s m args below meth c G X => ?_)
  refine wk_iconst X dX7_allHold_0 ic_0 ?_
  refine wk_istore_n (lv' := [(2, .int 0), (0, .ref x0), (1, .ref x1)]) X dX7_allHold_1 (by decide) rfl ?_
  exact wq_sub [1, 2, 0] rfl (wl_X7_allHold_2 X _ _ _ _ hf)
section Sf_X7_copyFrom
variable {p : Program} {l : Launch} {e : Env} {s : State} {m : MethodId} {args : Array Value} {below : List Frame} {meth : Method} {c : Code} {G : hp_G} {o : hp_H}
end Sf_X7_copyFrom
def f_X7_copyFrom (x0 : Nat) (x1 : Nat) (h : hp_H) : Option (hp_H) := gd h x0 7 ((rd_R h x0 7 0).bind fun v1 => (rd_R h x1 7 0).bind fun v2 => (f_X2_copyFrom v1 v2 h).bind fun r3 => (rd_R r3 x0 7 1).bind fun v4 => (rd_R r3 x1 7 1).bind fun v5 => (f_X2_copyFrom v4 v5 r3).bind fun r6 => (rd_R r6 x0 7 2).bind fun v7 => (rd_R r6 x1 7 2).bind fun v8 => (f_X2_copyFrom v7 v8 r6).bind fun r9 => (rd_R r9 x0 7 3).bind fun v10 => (rd_R r9 x1 7 3).bind fun v11 => (f_X2_copyFrom v10 v11 r9).bind fun r12 => (rd_I r12 x1 7 4).bind fun v13 => (wr_I r12 x0 7 4 v13).bind fun h14 => some h14)
set_option maxRecDepth 20000 in
theorem c_X7_copyFrom (l : Launch) (x0 : Nat) (x1 : Nat) (h : hp_H) (r : hp_H) (hf : f_X7_copyFrom x0 x1 h = some r) : cv l (2) yX7_copyFrom cX7_copyFrom 2 none 7 x0 [.ref x1] h none r := by
  unfold f_X7_copyFrom at hf
  refine cv_of (lv := [(0, .ref x0), (1, .ref x1)]) hf (by decide +kernel) (Nat.le_of_ble_eq_true rfl) rfl (fun hf p e s m args below meth c G X => ?_)
  refine wk_aload_n X dX7_copyFrom_0 0 rfl ?_
  refine wk_getR X dX7_copyFrom_1 fo_X7_14 hf (fun v1 hf => ?_)
  refine wk_aload_n X dX7_copyFrom_4 1 rfl ?_
  refine wk_getR X dX7_copyFrom_5 fo_X7_14 hf (fun v2 hf => ?_)
  refine wk_callVv X [.ref v2] [] dX7_copyFrom_8 rfl vo_X7_47 rfl (by decide) (Nat.le_of_ble_eq_true rfl) hf (c_X2_copyFrom l _ _ _) (fun r3 hf => ?_)
  refine wk_aload_n X dX7_copyFrom_11 0 rfl ?_
  refine wk_getR X dX7_copyFrom_12 fo_X7_20 hf (fun v4 hf => ?_)
  refine wk_aload_n X dX7_copyFrom_15 1 rfl ?_
  refine wk_getR X dX7_copyFrom_16 fo_X7_20 hf (fun v5 hf => ?_)
  refine wk_callVv X [.ref v5] [] dX7_copyFrom_19 rfl vo_X7_47 rfl (by decide) (Nat.le_of_ble_eq_true rfl) hf (c_X2_copyFrom l _ _ _) (fun r6 hf => ?_)
  refine wk_aload_n X dX7_copyFrom_22 0 rfl ?_
  refine wk_getR X dX7_copyFrom_23 fo_X7_23 hf (fun v7 hf => ?_)
  refine wk_aload_n X dX7_copyFrom_26 1 rfl ?_
  refine wk_getR X dX7_copyFrom_27 fo_X7_23 hf (fun v8 hf => ?_)
  refine wk_callVv X [.ref v8] [] dX7_copyFrom_30 rfl vo_X7_47 rfl (by decide) (Nat.le_of_ble_eq_true rfl) hf (c_X2_copyFrom l _ _ _) (fun r9 hf => ?_)
  refine wk_aload_n X dX7_copyFrom_33 0 rfl ?_
  refine wk_getR X dX7_copyFrom_34 fo_X7_26 hf (fun v10 hf => ?_)
  refine wk_aload_n X dX7_copyFrom_37 1 rfl ?_
  refine wk_getR X dX7_copyFrom_38 fo_X7_26 hf (fun v11 hf => ?_)
  refine wk_callVv X [.ref v11] [] dX7_copyFrom_41 rfl vo_X7_47 rfl (by decide) (Nat.le_of_ble_eq_true rfl) hf (c_X2_copyFrom l _ _ _) (fun r12 hf => ?_)
  refine wk_aload_n X dX7_copyFrom_44 0 rfl ?_
  refine wk_aload_n X dX7_copyFrom_45 1 rfl ?_
  refine wk_getI X dX7_copyFrom_46 fo_X7_29 hf (fun v13 hf => ?_)
  refine wk_putI X dX7_copyFrom_49 fo_X7_29 hf (fun h14 hf => ?_)
  exact wk_return X dX7_copyFrom_52 hf
section Sf_X8_copyFrom
variable {p : Program} {l : Launch} {e : Env} {s : State} {m : MethodId} {args : Array Value} {below : List Frame} {meth : Method} {c : Code} {G : hp_G} {o : hp_H}
end Sf_X8_copyFrom
def f_X8_copyFrom (x0 : Nat) (x1 : Nat) (h : hp_H) : Option (hp_H) := gd h x0 8 ((rd_R h x0 8 0).bind fun v1 => (rd_R h x1 8 0).bind fun v2 => (f_X3_copyFrom v1 v2 h).bind fun r3 => (rd_R r3 x0 8 1).bind fun v4 => (rd_R r3 x1 8 1).bind fun v5 => (f_X0_copyFrom v4 v5 r3).bind fun r6 => (rd_R r6 x0 8 2).bind fun v7 => (rd_R r6 x1 8 2).bind fun v8 => (f_X7_copyFrom v7 v8 r6).bind fun r9 => some r9)
set_option maxRecDepth 20000 in
theorem c_X8_copyFrom (l : Launch) (x0 : Nat) (x1 : Nat) (h : hp_H) (r : hp_H) (hf : f_X8_copyFrom x0 x1 h = some r) : cv l (3) yX8_copyFrom cX8_copyFrom 2 none 8 x0 [.ref x1] h none r := by
  unfold f_X8_copyFrom at hf
  refine cv_of (lv := [(0, .ref x0), (1, .ref x1)]) hf (by decide +kernel) (Nat.le_of_ble_eq_true rfl) rfl (fun hf p e s m args below meth c G X => ?_)
  refine wk_aload_n X dX8_copyFrom_0 0 rfl ?_
  refine wk_getR X dX8_copyFrom_1 fo_X8_28 hf (fun v1 hf => ?_)
  refine wk_aload_n X dX8_copyFrom_4 1 rfl ?_
  refine wk_getR X dX8_copyFrom_5 fo_X8_28 hf (fun v2 hf => ?_)
  refine wk_callVv X [.ref v2] [] dX8_copyFrom_8 rfl vo_X8_32 rfl (by decide) (Nat.le_of_ble_eq_true rfl) hf (c_X3_copyFrom l _ _ _) (fun r3 hf => ?_)
  refine wk_aload_n X dX8_copyFrom_11 0 rfl ?_
  refine wk_getR X dX8_copyFrom_12 fo_X8_10 hf (fun v4 hf => ?_)
  refine wk_aload_n X dX8_copyFrom_15 1 rfl ?_
  refine wk_getR X dX8_copyFrom_16 fo_X8_10 hf (fun v5 hf => ?_)
  refine wk_callVv X [.ref v5] [] dX8_copyFrom_19 rfl vo_X8_36 rfl (by decide) (Nat.le_of_ble_eq_true rfl) hf (c_X0_copyFrom l _ _ _) (fun r6 hf => ?_)
  refine wk_aload_n X dX8_copyFrom_22 0 rfl ?_
  refine wk_getR X dX8_copyFrom_23 fo_X8_19 hf (fun v7 hf => ?_)
  refine wk_aload_n X dX8_copyFrom_26 1 rfl ?_
  refine wk_getR X dX8_copyFrom_27 fo_X8_19 hf (fun v8 hf => ?_)
  refine wk_callVv X [.ref v8] [] dX8_copyFrom_30 rfl vo_X8_39 rfl (by decide) (Nat.le_of_ble_eq_true rfl) hf (c_X7_copyFrom l _ _ _) (fun r9 hf => ?_)
  exact wk_return X dX8_copyFrom_33 hf
section Sf_X9_gather
variable {p : Program} {l : Launch} {e : Env} {s : State} {m : MethodId} {args : Array Value} {below : List Frame} {meth : Method} {c : Code} {G : hp_G} {o : hp_H}
def f_X9_gather_96 (k7 : Nat → Nat → Nat → Int32 → hp_H → Option (hp_H)) (x0 : Nat) (x1 : Nat) (x2 : Nat) (x3 : Int32) (h : hp_H) : Option (hp_H) := k7 x0 x1 x2 (x3 + 1) h
set_option maxRecDepth 20000 in
theorem w_X9_gather_96 (X : wx G p s m args meth c cX9_gather 5 RX9 none) (k7 : Nat → Nat → Nat → Int32 → hp_H → Option (hp_H)) (hk7 : ∀ (x0 : Nat) (x1 : Nat) (x2 : Nat) (x3 : Int32) (h : hp_H), k7 x0 x1 x2 x3 h = some o → wq p l e (mt_R (7) 0 0) s m args below meth c (MQ below (mt_Q G none o) args s 0 0 (hp_A G)) G 5 0 0 7 [(0, .ref x0), (1, .ref x1), (2, .ref x2), (3, .int x3)] [] h) (x0 : Nat) (x1 : Nat) (x2 : Nat) (x3 : Int32) (h : hp_H) (hf : f_X9_gather_96 k7 x0 x1 x2 x3 h = some o) : wq p l e (mt_R (7) 0 0) s m args below meth c (MQ below (mt_Q G none o) args s 0 0 (hp_A G)) G 5 0 0 96 [(0, .ref x0), (1, .ref x1), (2, .ref x2), (3, .int x3)] [] h := by
  unfold f_X9_gather_96 at hf
  refine wk_iinc (lv' := [(3, .int (x3 + 1)), (0, .ref x0), (1, .ref x1), (2, .ref x2)]) X dX9_gather_96 3 rfl ic_1 (by decide) rfl ?_
  refine wk_goto X 7 dX9_gather_99 (by decide) ?_
  exact wq_sub [1, 2, 3, 0] rfl (hk7 _ _ _ _ _ hf)
def f_X9_gather_83 (k7 : Nat → Nat → Nat → Int32 → hp_H → Option (hp_H)) (k21 : Nat → Nat → Nat → Int32 → Int32 → hp_H → Option (hp_H)) (x0 : Nat) (x1 : Nat) (x2 : Nat) (x3 : Int32) (x4 : Int32) (h : hp_H) : Option (hp_H) := (f_X3_turnHeel x1 x3 x4 h).bind fun r1 => k21 x0 x1 x2 x3 (x4 + 1) r1
set_option maxRecDepth 20000 in
theorem w_X9_gather_83 (X : wx G p s m args meth c cX9_gather 5 RX9 none) (k7 : Nat → Nat → Nat → Int32 → hp_H → Option (hp_H)) (hk7 : ∀ (x0 : Nat) (x1 : Nat) (x2 : Nat) (x3 : Int32) (h : hp_H), k7 x0 x1 x2 x3 h = some o → wq p l e (mt_R (7) 0 0) s m args below meth c (MQ below (mt_Q G none o) args s 0 0 (hp_A G)) G 5 0 0 7 [(0, .ref x0), (1, .ref x1), (2, .ref x2), (3, .int x3)] [] h) (k21 : Nat → Nat → Nat → Int32 → Int32 → hp_H → Option (hp_H)) (hk21 : ∀ (x0 : Nat) (x1 : Nat) (x2 : Nat) (x3 : Int32) (x4 : Int32) (h : hp_H), k21 x0 x1 x2 x3 x4 h = some o → wq p l e (mt_R (7) 0 0) s m args below meth c (MQ below (mt_Q G none o) args s 0 0 (hp_A G)) G 5 0 0 21 [(0, .ref x0), (1, .ref x1), (2, .ref x2), (3, .int x3), (4, .int x4)] [] h) (x0 : Nat) (x1 : Nat) (x2 : Nat) (x3 : Int32) (x4 : Int32) (h : hp_H) (hf : f_X9_gather_83 k7 k21 x0 x1 x2 x3 x4 h = some o) : wq p l e (mt_R (7) 0 0) s m args below meth c (MQ below (mt_Q G none o) args s 0 0 (hp_A G)) G 5 0 0 83 [(0, .ref x0), (1, .ref x1), (2, .ref x2), (3, .int x3), (4, .int x4)] [] h := by
  unfold f_X9_gather_83 at hf
  refine wk_aload_n X dX9_gather_83 1 rfl ?_
  refine wk_iload_n X dX9_gather_84 3 rfl ?_
  refine wk_iload X dX9_gather_85 4 rfl ?_
  refine wk_callVv X [.int x3, .int x4] [] dX9_gather_87 rfl vo_X9_42 rfl (by decide) (Nat.le_of_ble_eq_true rfl) hf (c_X3_turnHeel l _ _ _ _) (fun r1 hf => ?_)
  refine wk_iinc (lv' := [(4, .int (x4 + 1)), (0, .ref x0), (1, .ref x1), (2, .ref x2), (3, .int x3)]) X dX9_gather_90 4 rfl ic_1 (by decide) rfl ?_
  refine wk_goto X 21 dX9_gather_93 (by decide) ?_
  exact wq_sub [1, 2, 3, 4, 0] rfl (hk21 _ _ _ _ _ _ hf)
def f_X9_gather_21 (k7 : Nat → Nat → Nat → Int32 → hp_H → Option (hp_H)) (k21 : Nat → Nat → Nat → Int32 → Int32 → hp_H → Option (hp_H)) (x0 : Nat) (x1 : Nat) (x2 : Nat) (x3 : Int32) (x4 : Int32) (h : hp_H) : Option (hp_H) := (rd_R h x1 3 0).bind fun v1 => (rd_I h v1 1 0).bind fun v2 => if v2 ≤ x4 then (f_X9_gather_96 k7 x0 x1 x2 x3 h) else ((f_X3_turnHeel x1 x3 x4 h).bind fun r3 => (f_X7_allHold x2 x1 r3).bind fun r4 => if r4.1 = 0 then (f_X9_gather_83 k7 k21 x0 x1 x2 x3 x4 r4.2) else ((rd_R r4.2 x0 9 0).bind fun v5 => (rd_I r4.2 x0 9 3).bind fun v6 => (f_X2_set v5 v6 x3 r4.2).bind fun r7 => (rd_R r7 x0 9 1).bind fun v8 => (rd_I r7 x0 9 3).bind fun v9 => (f_X2_set v8 v9 x4 r7).bind fun r10 => (rd_I r10 x0 9 3).bind fun v11 => (wr_I r10 x0 9 3 (v11 + 1)).bind fun h12 => f_X9_gather_83 k7 k21 x0 x1 x2 x3 x4 h12))
set_option maxRecDepth 20000 in
theorem w_X9_gather_21 (X : wx G p s m args meth c cX9_gather 5 RX9 none) (k7 : Nat → Nat → Nat → Int32 → hp_H → Option (hp_H)) (hk7 : ∀ (x0 : Nat) (x1 : Nat) (x2 : Nat) (x3 : Int32) (h : hp_H), k7 x0 x1 x2 x3 h = some o → wq p l e (mt_R (7) 0 0) s m args below meth c (MQ below (mt_Q G none o) args s 0 0 (hp_A G)) G 5 0 0 7 [(0, .ref x0), (1, .ref x1), (2, .ref x2), (3, .int x3)] [] h) (k21 : Nat → Nat → Nat → Int32 → Int32 → hp_H → Option (hp_H)) (hk21 : ∀ (x0 : Nat) (x1 : Nat) (x2 : Nat) (x3 : Int32) (x4 : Int32) (h : hp_H), k21 x0 x1 x2 x3 x4 h = some o → wq p l e (mt_R (7) 0 0) s m args below meth c (MQ below (mt_Q G none o) args s 0 0 (hp_A G)) G 5 0 0 21 [(0, .ref x0), (1, .ref x1), (2, .ref x2), (3, .int x3), (4, .int x4)] [] h) (x0 : Nat) (x1 : Nat) (x2 : Nat) (x3 : Int32) (x4 : Int32) (h : hp_H) (hf : f_X9_gather_21 k7 k21 x0 x1 x2 x3 x4 h = some o) : wq p l e (mt_R (7) 0 0) s m args below meth c (MQ below (mt_Q G none o) args s 0 0 (hp_A G)) G 5 0 0 21 [(0, .ref x0), (1, .ref x1), (2, .ref x2), (3, .int x3), (4, .int x4)] [] h := by
  unfold f_X9_gather_21 at hf
  refine wk_iload X dX9_gather_21 4 rfl ?_
  refine wk_aload_n X dX9_gather_23 1 rfl ?_
  refine wk_getR X dX9_gather_24 fo_X9_30 hf (fun v1 hf => ?_)
  refine wk_getI X dX9_gather_27 fo_X9_40 hf (fun v2 hf => ?_)
  refine wk_icmp_ge X 96 dX9_gather_30 (by decide) hf (fun hf => ?_) (fun hf => ?_)
  · exact wq_sub [0, 1, 2, 3] rfl (w_X9_gather_96 X k7 hk7 _ _ _ _ _ hf)
  · refine wk_aload_n X dX9_gather_33 1 rfl ?_
    refine wk_iload_n X dX9_gather_34 3 rfl ?_
    refine wk_iload X dX9_gather_35 4 rfl ?_
    refine wk_callVv X [.int x3, .int x4] [] dX9_gather_37 rfl vo_X9_42 rfl (by decide) (Nat.le_of_ble_eq_true rfl) hf (c_X3_turnHeel l _ _ _ _) (fun r3 hf => ?_)
    refine wk_aload_n X dX9_gather_40 2 rfl ?_
    refine wk_aload_n X dX9_gather_41 1 rfl ?_
    refine wk_callVi X [.ref x1] [] dX9_gather_42 rfl vo_X9_46 rfl (by decide) (Nat.le_of_ble_eq_true rfl) hf (c_X7_allHold l _ _ _) (fun r4 hf => ?_)
    refine wk_if_eq X 83 dX9_gather_45 (by decide) hf (fun hf => ?_) (fun hf => ?_)
    · exact wq_sub [0, 1, 2, 3, 4] rfl (w_X9_gather_83 X k7 hk7 k21 hk21 _ _ _ _ _ _ hf)
    · refine wk_aload_n X dX9_gather_48 0 rfl ?_
      refine wk_getR X dX9_gather_49 fo_X9_14 hf (fun v5 hf => ?_)
      refine wk_aload_n X dX9_gather_52 0 rfl ?_
      refine wk_getI X dX9_gather_53 fo_X9_26 hf (fun v6 hf => ?_)
      refine wk_iload_n X dX9_gather_56 3 rfl ?_
      refine wk_callVv X [.int v6, .int x3] [] dX9_gather_57 rfl vo_X9_52 rfl (by decide) (Nat.le_of_ble_eq_true rfl) hf (c_X2_set l _ _ _ _) (fun r7 hf => ?_)
      refine wk_aload_n X dX9_gather_60 0 rfl ?_
      refine wk_getR X dX9_gather_61 fo_X9_20 hf (fun v8 hf => ?_)
      refine wk_aload_n X dX9_gather_64 0 rfl ?_
      refine wk_getI X dX9_gather_65 fo_X9_26 hf (fun v9 hf => ?_)
      refine wk_iload X dX9_gather_68 4 rfl ?_
      refine wk_callVv X [.int v9, .int x4] [] dX9_gather_70 rfl vo_X9_52 rfl (by decide) (Nat.le_of_ble_eq_true rfl) hf (c_X2_set l _ _ _ _) (fun r10 hf => ?_)
      refine wk_aload_n X dX9_gather_73 0 rfl ?_
      refine wk_dup X dX9_gather_74 rfl ?_
      refine wk_getI X dX9_gather_75 fo_X9_26 hf (fun v11 hf => ?_)
      refine wk_iconst X dX9_gather_78 ic_1 ?_
      refine wk_iadd X dX9_gather_79 ?_
      refine wk_putI X dX9_gather_80 fo_X9_26 hf (fun h12 hf => ?_)
      exact wq_sub [0, 1, 2, 3, 4] rfl (w_X9_gather_83 X k7 hk7 k21 hk21 _ _ _ _ _ _ hf)
def l_X9_gather_21 (k7 : Nat → Nat → Nat → Int32 → hp_H → Option (hp_H)) (x0 : Nat) (x1 : Nat) (x2 : Nat) (x3 : Int32) (x4 : Int32) (h : hp_H) : Option (hp_H) := lp (fun k (s : Nat × Nat × Nat × Int32 × Int32 × hp_H) => f_X9_gather_21 k7 (fun a0 a1 a2 a3 a4 a5 => k (a0, a1, a2, a3, a4, a5)) s.1 s.2.1 s.2.2.1 s.2.2.2.1 s.2.2.2.2.1 s.2.2.2.2.2) 100000 (x0, x1, x2, x3, x4, h)
theorem wl_X9_gather_21 (X : wx G p s m args meth c cX9_gather 5 RX9 none) (k7 : Nat → Nat → Nat → Int32 → hp_H → Option (hp_H)) (hk7 : ∀ (x0 : Nat) (x1 : Nat) (x2 : Nat) (x3 : Int32) (h : hp_H), k7 x0 x1 x2 x3 h = some o → wq p l e (mt_R (7) 0 0) s m args below meth c (MQ below (mt_Q G none o) args s 0 0 (hp_A G)) G 5 0 0 7 [(0, .ref x0), (1, .ref x1), (2, .ref x2), (3, .int x3)] [] h) (x0 : Nat) (x1 : Nat) (x2 : Nat) (x3 : Int32) (x4 : Int32) (h : hp_H) (hf : l_X9_gather_21 k7 x0 x1 x2 x3 x4 h = some o) : wq p l e (mt_R (7) 0 0) s m args below meth c (MQ below (mt_Q G none o) args s 0 0 (hp_A G)) G 5 0 0 21 [(0, .ref x0), (1, .ref x1), (2, .ref x2), (3, .int x3), (4, .int x4)] [] h :=
  lp_ind (P := fun (s_ : Nat × Nat × Nat × Int32 × Int32 × hp_H) => wq p l e (mt_R (7) 0 0) s m args below meth c (MQ below (mt_Q G none o) args s 0 0 (hp_A G)) G 5 0 0 21 [(0, .ref s_.1), (1, .ref s_.2.1), (2, .ref s_.2.2.1), (3, .int s_.2.2.2.1), (4, .int s_.2.2.2.2.1)] [] s_.2.2.2.2.2) (fun k s hk hf => w_X9_gather_21 X k7 hk7 (fun a0 a1 a2 a3 a4 a5 => k (a0, a1, a2, a3, a4, a5)) (fun a0 a1 a2 a3 a4 a5 hf => hk (a0, a1, a2, a3, a4, a5) hf) s.1 s.2.1 s.2.2.1 s.2.2.2.1 s.2.2.2.2.1 s.2.2.2.2.2 hf) 100000 (x0, x1, x2, x3, x4, h) hf
def f_X9_gather_7 (k7 : Nat → Nat → Nat → Int32 → hp_H → Option (hp_H)) (x0 : Nat) (x1 : Nat) (x2 : Nat) (x3 : Int32) (h : hp_H) : Option (hp_H) := (rd_R h x1 3 0).bind fun v1 => (rd_I h v1 1 1).bind fun v2 => if v2 ≤ x3 then (some h) else (l_X9_gather_21 k7 x0 x1 x2 x3 0 h)
set_option maxRecDepth 20000 in
theorem w_X9_gather_7 (X : wx G p s m args meth c cX9_gather 5 RX9 none) (k7 : Nat → Nat → Nat → Int32 → hp_H → Option (hp_H)) (hk7 : ∀ (x0 : Nat) (x1 : Nat) (x2 : Nat) (x3 : Int32) (h : hp_H), k7 x0 x1 x2 x3 h = some o → wq p l e (mt_R (7) 0 0) s m args below meth c (MQ below (mt_Q G none o) args s 0 0 (hp_A G)) G 5 0 0 7 [(0, .ref x0), (1, .ref x1), (2, .ref x2), (3, .int x3)] [] h) (x0 : Nat) (x1 : Nat) (x2 : Nat) (x3 : Int32) (h : hp_H) (hf : f_X9_gather_7 k7 x0 x1 x2 x3 h = some o) : wq p l e (mt_R (7) 0 0) s m args below meth c (MQ below (mt_Q G none o) args s 0 0 (hp_A G)) G 5 0 0 7 [(0, .ref x0), (1, .ref x1), (2, .ref x2), (3, .int x3)] [] h := by
  unfold f_X9_gather_7 at hf
  refine wk_iload_n X dX9_gather_7 3 rfl ?_
  refine wk_aload_n X dX9_gather_8 1 rfl ?_
  refine wk_getR X dX9_gather_9 fo_X9_30 hf (fun v1 hf => ?_)
  refine wk_getI X dX9_gather_12 fo_X9_36 hf (fun v2 hf => ?_)
  refine wk_icmp_ge X 102 dX9_gather_15 (by decide) hf (fun hf => ?_) (fun hf => ?_)
  · exact wk_return X dX9_gather_102 hf
  · refine wk_iconst X dX9_gather_18 ic_0 ?_
    refine wk_istore (lv' := [(4, .int 0), (0, .ref x0), (1, .ref x1), (2, .ref x2), (3, .int x3)]) X dX9_gather_19 (by decide) rfl ?_
    exact wq_sub [1, 2, 3, 4, 0] rfl (wl_X9_gather_21 X k7 hk7 _ _ _ _ _ _ hf)
def l_X9_gather_7 (x0 : Nat) (x1 : Nat) (x2 : Nat) (x3 : Int32) (h : hp_H) : Option (hp_H) := lp (fun k (s : Nat × Nat × Nat × Int32 × hp_H) => f_X9_gather_7  (fun a0 a1 a2 a3 a4 => k (a0, a1, a2, a3, a4)) s.1 s.2.1 s.2.2.1 s.2.2.2.1 s.2.2.2.2) 100000 (x0, x1, x2, x3, h)
theorem wl_X9_gather_7 (X : wx G p s m args meth c cX9_gather 5 RX9 none) (x0 : Nat) (x1 : Nat) (x2 : Nat) (x3 : Int32) (h : hp_H) (hf : l_X9_gather_7 x0 x1 x2 x3 h = some o) : wq p l e (mt_R (7) 0 0) s m args below meth c (MQ below (mt_Q G none o) args s 0 0 (hp_A G)) G 5 0 0 7 [(0, .ref x0), (1, .ref x1), (2, .ref x2), (3, .int x3)] [] h :=
  lp_ind (P := fun (s_ : Nat × Nat × Nat × Int32 × hp_H) => wq p l e (mt_R (7) 0 0) s m args below meth c (MQ below (mt_Q G none o) args s 0 0 (hp_A G)) G 5 0 0 7 [(0, .ref s_.1), (1, .ref s_.2.1), (2, .ref s_.2.2.1), (3, .int s_.2.2.2.1)] [] s_.2.2.2.2) (fun k s hk hf => w_X9_gather_7 X  (fun a0 a1 a2 a3 a4 => k (a0, a1, a2, a3, a4)) (fun a0 a1 a2 a3 a4 hf => hk (a0, a1, a2, a3, a4) hf) s.1 s.2.1 s.2.2.1 s.2.2.2.1 s.2.2.2.2 hf) 100000 (x0, x1, x2, x3, h) hf
end Sf_X9_gather
def f_X9_gather (x0 : Nat) (x1 : Nat) (x2 : Nat) (h : hp_H) : Option (hp_H) := gd h x0 9 ((wr_I h x0 9 3 0).bind fun h1 => l_X9_gather_7 x0 x1 x2 0 h1)
set_option maxRecDepth 20000 in
theorem c_X9_gather (l : Launch) (x0 : Nat) (x1 : Nat) (x2 : Nat) (h : hp_H) (r : hp_H) (hf : f_X9_gather x0 x1 x2 h = some r) : cv l (7) yX9_gather cX9_gather 5 none 9 x0 [.ref x1, .ref x2] h none r := by
  unfold f_X9_gather at hf
  refine cv_of (lv := [(0, .ref x0), (1, .ref x1), (2, .ref x2)]) hf (by decide +kernel) (Nat.le_of_ble_eq_true rfl) rfl (fun hf p e s m args below meth c G X => ?_)
  refine wk_aload_n X dX9_gather_0 0 rfl ?_
  refine wk_iconst X dX9_gather_1 ic_0 ?_
  refine wk_putI X dX9_gather_2 fo_X9_26 hf (fun h1 hf => ?_)
  refine wk_iconst X dX9_gather_5 ic_0 ?_
  refine wk_istore_n (lv' := [(3, .int 0), (0, .ref x0), (1, .ref x1), (2, .ref x2)]) X dX9_gather_6 (by decide) rfl ?_
  exact wq_sub [1, 2, 3, 0] rfl (wl_X9_gather_7 X _ _ _ _ _ hf)
section Sf_X9_isAmong
variable {p : Program} {l : Launch} {e : Env} {s : State} {m : MethodId} {args : Array Value} {below : List Frame} {meth : Method} {c : Code} {G : hp_G} {o : Int32 × hp_H}
def f_X9_isAmong_27  (h : hp_H) : Option (Int32 × hp_H) := if 0 = 0 ∨ 0 = 1 then some (0, h) else none
set_option maxRecDepth 20000 in
theorem w_X9_isAmong_27 (X : wx G p s m args meth c cX9_isAmong 4 RX9 (some .boolean))  (h : hp_H) (hf : f_X9_isAmong_27 h = some o) : wq p l e (mt_R (2) 0 0) s m args below meth c (MQ below (mt_Q G (some (.int o.1)) o.2) args s 0 0 (hp_A G)) G 4 0 0 27 [] [] h := by
  unfold f_X9_isAmong_27 at hf
  refine wk_iconst X dX9_isAmong_27 ic_0 ?_
  exact wk_zreturn X dX9_isAmong_28 hf
def f_X9_isAmong_19  (h : hp_H) : Option (Int32 × hp_H) := if 1 = 0 ∨ 1 = 1 then some (1, h) else none
set_option maxRecDepth 20000 in
theorem w_X9_isAmong_19 (X : wx G p s m args meth c cX9_isAmong 4 RX9 (some .boolean))  (h : hp_H) (hf : f_X9_isAmong_19 h = some o) : wq p l e (mt_R (2) 0 0) s m args below meth c (MQ below (mt_Q G (some (.int o.1)) o.2) args s 0 0 (hp_A G)) G 4 0 0 19 [] [] h := by
  unfold f_X9_isAmong_19 at hf
  refine wk_iconst X dX9_isAmong_19 ic_1 ?_
  exact wk_zreturn X dX9_isAmong_20 hf
def f_X9_isAmong_2 (k2 : Nat → Int32 → Int32 → Int32 → hp_H → Option (Int32 × hp_H)) (x0 : Nat) (x1 : Int32) (x2 : Int32) (x3 : Int32) (h : hp_H) : Option (Int32 × hp_H) := if x2 ≤ x3 then (f_X9_isAmong_27 h) else ((rd_R h x0 9 2).bind fun v1 => (f_X2_at v1 x3 h).bind fun r2 => if r2.1 = x1 then (f_X9_isAmong_19 r2.2) else (k2 x0 x1 x2 (x3 + 1) r2.2))
set_option maxRecDepth 20000 in
theorem w_X9_isAmong_2 (X : wx G p s m args meth c cX9_isAmong 4 RX9 (some .boolean)) (k2 : Nat → Int32 → Int32 → Int32 → hp_H → Option (Int32 × hp_H)) (hk2 : ∀ (x0 : Nat) (x1 : Int32) (x2 : Int32) (x3 : Int32) (h : hp_H), k2 x0 x1 x2 x3 h = some o → wq p l e (mt_R (2) 0 0) s m args below meth c (MQ below (mt_Q G (some (.int o.1)) o.2) args s 0 0 (hp_A G)) G 4 0 0 2 [(0, .ref x0), (1, .int x1), (2, .int x2), (3, .int x3)] [] h) (x0 : Nat) (x1 : Int32) (x2 : Int32) (x3 : Int32) (h : hp_H) (hf : f_X9_isAmong_2 k2 x0 x1 x2 x3 h = some o) : wq p l e (mt_R (2) 0 0) s m args below meth c (MQ below (mt_Q G (some (.int o.1)) o.2) args s 0 0 (hp_A G)) G 4 0 0 2 [(0, .ref x0), (1, .int x1), (2, .int x2), (3, .int x3)] [] h := by
  unfold f_X9_isAmong_2 at hf
  refine wk_iload_n X dX9_isAmong_2 3 rfl ?_
  refine wk_iload_n X dX9_isAmong_3 2 rfl ?_
  refine wk_icmp_ge X 27 dX9_isAmong_4 (by decide) hf (fun hf => ?_) (fun hf => ?_)
  · exact wq_sub [] rfl (w_X9_isAmong_27 X _ hf)
  · refine wk_aload_n X dX9_isAmong_7 0 rfl ?_
    refine wk_getR X dX9_isAmong_8 fo_X9_23 hf (fun v1 hf => ?_)
    refine wk_iload_n X dX9_isAmong_11 3 rfl ?_
    refine wk_callVi X [.int x3] [] dX9_isAmong_12 rfl vo_X9_55 rfl (by decide) (Nat.le_of_ble_eq_true rfl) hf (c_X2_at l _ _ _) (fun r2 hf => ?_)
    refine wk_iload_n X dX9_isAmong_15 1 rfl ?_
    refine wk_icmp_ne X 21 dX9_isAmong_16 (by decide) hf (fun hf => ?_) (fun hf => ?_)
    · refine wk_iinc (lv' := [(3, .int (x3 + 1)), (0, .ref x0), (1, .int x1), (2, .int x2)]) X dX9_isAmong_21 3 rfl ic_1 (by decide) rfl ?_
      refine wk_goto X 2 dX9_isAmong_24 (by decide) ?_
      exact wq_sub [1, 2, 3, 0] rfl (hk2 _ _ _ _ _ hf)
    · exact wq_sub [] rfl (w_X9_isAmong_19 X _ hf)
def l_X9_isAmong_2 (x0 : Nat) (x1 : Int32) (x2 : Int32) (x3 : Int32) (h : hp_H) : Option (Int32 × hp_H) := lp (fun k (s : Nat × Int32 × Int32 × Int32 × hp_H) => f_X9_isAmong_2  (fun a0 a1 a2 a3 a4 => k (a0, a1, a2, a3, a4)) s.1 s.2.1 s.2.2.1 s.2.2.2.1 s.2.2.2.2) 100000 (x0, x1, x2, x3, h)
theorem wl_X9_isAmong_2 (X : wx G p s m args meth c cX9_isAmong 4 RX9 (some .boolean)) (x0 : Nat) (x1 : Int32) (x2 : Int32) (x3 : Int32) (h : hp_H) (hf : l_X9_isAmong_2 x0 x1 x2 x3 h = some o) : wq p l e (mt_R (2) 0 0) s m args below meth c (MQ below (mt_Q G (some (.int o.1)) o.2) args s 0 0 (hp_A G)) G 4 0 0 2 [(0, .ref x0), (1, .int x1), (2, .int x2), (3, .int x3)] [] h :=
  lp_ind (P := fun (s_ : Nat × Int32 × Int32 × Int32 × hp_H) => wq p l e (mt_R (2) 0 0) s m args below meth c (MQ below (mt_Q G (some (.int o.1)) o.2) args s 0 0 (hp_A G)) G 4 0 0 2 [(0, .ref s_.1), (1, .int s_.2.1), (2, .int s_.2.2.1), (3, .int s_.2.2.2.1)] [] s_.2.2.2.2) (fun k s hk hf => w_X9_isAmong_2 X  (fun a0 a1 a2 a3 a4 => k (a0, a1, a2, a3, a4)) (fun a0 a1 a2 a3 a4 hf => hk (a0, a1, a2, a3, a4) hf) s.1 s.2.1 s.2.2.1 s.2.2.2.1 s.2.2.2.2 hf) 100000 (x0, x1, x2, x3, h) hf
end Sf_X9_isAmong
def f_X9_isAmong (x0 : Nat) (x1 : Int32) (x2 : Int32) (h : hp_H) : Option (Int32 × hp_H) := gd h x0 9 (l_X9_isAmong_2 x0 x1 x2 0 h)
set_option maxRecDepth 20000 in
theorem c_X9_isAmong (l : Launch) (x0 : Nat) (x1 : Int32) (x2 : Int32) (h : hp_H) (r : Int32 × hp_H) (hf : f_X9_isAmong x0 x1 x2 h = some r) : cv l (2) yX9_isAmong cX9_isAmong 4 (some .boolean) 9 x0 [.int x1, .int x2] h (some (.int r.1)) r.2 := by
  unfold f_X9_isAmong at hf
  refine cv_of (lv := [(0, .ref x0), (1, .int x1), (2, .int x2)]) hf (by decide +kernel) (Nat.le_of_ble_eq_true rfl) rfl (fun hf p e s m args below meth c G X => ?_)
  refine wk_iconst X dX9_isAmong_0 ic_0 ?_
  refine wk_istore_n (lv' := [(3, .int 0), (0, .ref x0), (1, .int x1), (2, .int x2)]) X dX9_isAmong_1 (by decide) rfl ?_
  exact wq_sub [1, 2, 3, 0] rfl (wl_X9_isAmong_2 X _ _ _ _ _ hf)
section Sf_X9_unlikeSounds
variable {p : Program} {l : Launch} {e : Env} {s : State} {m : MethodId} {args : Array Value} {below : List Frame} {meth : Method} {c : Code} {G : hp_G} {o : Int32 × hp_H}
def f_X9_unlikeSounds_95 (x3 : Int32) (h : hp_H) : Option (Int32 × hp_H) := some (x3, h)
set_option maxRecDepth 20000 in
theorem w_X9_unlikeSounds_95 (X : wx G p s m args meth c cX9_unlikeSounds 6 RX9 (some .int)) (x3 : Int32) (h : hp_H) (hf : f_X9_unlikeSounds_95 x3 h = some o) : wq p l e (mt_R (6) 0 0) s m args below meth c (MQ below (mt_Q G (some (.int o.1)) o.2) args s 0 0 (hp_A G)) G 6 0 0 95 [(3, .int x3)] [] h := by
  unfold f_X9_unlikeSounds_95 at hf
  refine wk_iload_n X dX9_unlikeSounds_95 0 rfl ?_
  exact wk_ireturn X dX9_unlikeSounds_96 hf
def f_X9_unlikeSounds_89 (k5 : Nat → Nat → Int32 → Int32 → Int32 → hp_H → Option (Int32 × hp_H)) (x0 : Nat) (x1 : Nat) (x2 : Int32) (x3 : Int32) (x4 : Int32) (h : hp_H) : Option (Int32 × hp_H) := k5 x0 x1 x2 x3 (x4 + 1) h
set_option maxRecDepth 20000 in
theorem w_X9_unlikeSounds_89 (X : wx G p s m args meth c cX9_unlikeSounds 6 RX9 (some .int)) (k5 : Nat → Nat → Int32 → Int32 → Int32 → hp_H → Option (Int32 × hp_H)) (hk5 : ∀ (x0 : Nat) (x1 : Nat) (x2 : Int32) (x3 : Int32) (x4 : Int32) (h : hp_H), k5 x0 x1 x2 x3 x4 h = some o → wq p l e (mt_R (6) 0 0) s m args below meth c (MQ below (mt_Q G (some (.int o.1)) o.2) args s 0 0 (hp_A G)) G 6 0 0 5 [(0, .ref x0), (1, .ref x1), (2, .int x2), (3, .int x3), (4, .int x4)] [] h) (x0 : Nat) (x1 : Nat) (x2 : Int32) (x3 : Int32) (x4 : Int32) (h : hp_H) (hf : f_X9_unlikeSounds_89 k5 x0 x1 x2 x3 x4 h = some o) : wq p l e (mt_R (6) 0 0) s m args below meth c (MQ below (mt_Q G (some (.int o.1)) o.2) args s 0 0 (hp_A G)) G 6 0 0 89 [(0, .ref x0), (1, .ref x1), (2, .int x2), (3, .int x3), (4, .int x4)] [] h := by
  unfold f_X9_unlikeSounds_89 at hf
  refine wk_iinc (lv' := [(4, .int (x4 + 1)), (0, .ref x0), (1, .ref x1), (2, .int x2), (3, .int x3)]) X dX9_unlikeSounds_89 4 rfl ic_1 (by decide) rfl ?_
  refine wk_goto X 5 dX9_unlikeSounds_92 (by decide) ?_
  exact wq_sub [1, 2, 3, 4, 0] rfl (hk5 _ _ _ _ _ _ hf)
def f_X9_unlikeSounds_5 (k5 : Nat → Nat → Int32 → Int32 → Int32 → hp_H → Option (Int32 × hp_H)) (x0 : Nat) (x1 : Nat) (x2 : Int32) (x3 : Int32) (x4 : Int32) (h : hp_H) : Option (Int32 × hp_H) := (rd_I h x0 9 3).bind fun v1 => if v1 ≤ x4 then (f_X9_unlikeSounds_95 x3 h) else ((rd_R h x0 9 0).bind fun v2 => (f_X2_at v2 x4 h).bind fun r3 => (rd_R r3.2 x0 9 1).bind fun v4 => (f_X2_at v4 x4 r3.2).bind fun r5 => (f_X3_turnHeel x1 r3.1 r5.1 r5.2).bind fun r6 => (f_X3_heardAt x1 x2 0 r6).bind fun r7 => (rd_R r7.2 x0 9 0).bind fun v8 => (f_X2_at v8 x4 r7.2).bind fun r9 => (rd_R r9.2 x0 9 1).bind fun v10 => (f_X2_at v10 x4 r9.2).bind fun r11 => (f_X3_turnHeel x1 r9.1 r11.1 r11.2).bind fun r12 => (f_X9_isAmong x0 r7.1 x3 r12).bind fun r13 => if r13.1 = 0 then ((rd_R r13.2 x0 9 2).bind fun v14 => (f_X2_set v14 x3 r7.1 r13.2).bind fun r15 => f_X9_unlikeSounds_89 k5 x0 x1 x2 (x3 + 1) x4 r15) else (f_X9_unlikeSounds_89 k5 x0 x1 x2 x3 x4 r13.2))
set_option maxRecDepth 20000 in
theorem w_X9_unlikeSounds_5 (X : wx G p s m args meth c cX9_unlikeSounds 6 RX9 (some .int)) (k5 : Nat → Nat → Int32 → Int32 → Int32 → hp_H → Option (Int32 × hp_H)) (hk5 : ∀ (x0 : Nat) (x1 : Nat) (x2 : Int32) (x3 : Int32) (x4 : Int32) (h : hp_H), k5 x0 x1 x2 x3 x4 h = some o → wq p l e (mt_R (6) 0 0) s m args below meth c (MQ below (mt_Q G (some (.int o.1)) o.2) args s 0 0 (hp_A G)) G 6 0 0 5 [(0, .ref x0), (1, .ref x1), (2, .int x2), (3, .int x3), (4, .int x4)] [] h) (x0 : Nat) (x1 : Nat) (x2 : Int32) (x3 : Int32) (x4 : Int32) (h : hp_H) (hf : f_X9_unlikeSounds_5 k5 x0 x1 x2 x3 x4 h = some o) : wq p l e (mt_R (6) 0 0) s m args below meth c (MQ below (mt_Q G (some (.int o.1)) o.2) args s 0 0 (hp_A G)) G 6 0 0 5 [(0, .ref x0), (1, .ref x1), (2, .int x2), (3, .int x3), (4, .int x4)] [] h := by
  unfold f_X9_unlikeSounds_5 at hf
  refine wk_iload X dX9_unlikeSounds_5 4 rfl ?_
  refine wk_aload_n X dX9_unlikeSounds_7 0 rfl ?_
  refine wk_getI X dX9_unlikeSounds_8 fo_X9_26 hf (fun v1 hf => ?_)
  refine wk_icmp_ge X 95 dX9_unlikeSounds_11 (by decide) hf (fun hf => ?_) (fun hf => ?_)
  · exact wq_sub [3] rfl (w_X9_unlikeSounds_95 X _ _ hf)
  · refine wk_aload_n X dX9_unlikeSounds_14 1 rfl ?_
    refine wk_aload_n X dX9_unlikeSounds_15 0 rfl ?_
    refine wk_getR X dX9_unlikeSounds_16 fo_X9_14 hf (fun v2 hf => ?_)
    refine wk_iload X dX9_unlikeSounds_19 4 rfl ?_
    refine wk_callVi X [.int x4] [.ref x1] dX9_unlikeSounds_21 rfl vo_X9_55 rfl (by decide) (Nat.le_of_ble_eq_true rfl) hf (c_X2_at l _ _ _) (fun r3 hf => ?_)
    refine wk_aload_n X dX9_unlikeSounds_24 0 rfl ?_
    refine wk_getR X dX9_unlikeSounds_25 fo_X9_20 hf (fun v4 hf => ?_)
    refine wk_iload X dX9_unlikeSounds_28 4 rfl ?_
    refine wk_callVi X [.int x4] [.int r3.1, .ref x1] dX9_unlikeSounds_30 rfl vo_X9_55 rfl (by decide) (Nat.le_of_ble_eq_true rfl) hf (c_X2_at l _ _ _) (fun r5 hf => ?_)
    refine wk_callVv X [.int r3.1, .int r5.1] [] dX9_unlikeSounds_33 rfl vo_X9_42 rfl (by decide) (Nat.le_of_ble_eq_true rfl) hf (c_X3_turnHeel l _ _ _ _) (fun r6 hf => ?_)
    refine wk_aload_n X dX9_unlikeSounds_36 1 rfl ?_
    refine wk_iload_n X dX9_unlikeSounds_37 2 rfl ?_
    refine wk_iconst X dX9_unlikeSounds_38 ic_0 ?_
    refine wk_callVi X [.int x2, .int 0] [] dX9_unlikeSounds_39 rfl vo_X9_59 rfl (by decide) (Nat.le_of_ble_eq_true rfl) hf (c_X3_heardAt l _ _ _ _) (fun r7 hf => ?_)
    refine wk_istore (lv' := [(5, .int r7.1), (0, .ref x0), (1, .ref x1), (2, .int x2), (3, .int x3), (4, .int x4)]) X dX9_unlikeSounds_42 (by decide) rfl ?_
    refine wk_aload_n X dX9_unlikeSounds_44 2 rfl ?_
    refine wk_aload_n X dX9_unlikeSounds_45 1 rfl ?_
    refine wk_getR X dX9_unlikeSounds_46 fo_X9_14 hf (fun v8 hf => ?_)
    refine wk_iload X dX9_unlikeSounds_49 5 rfl ?_
    refine wk_callVi X [.int x4] [.ref x1] dX9_unlikeSounds_51 rfl vo_X9_55 rfl (by decide) (Nat.le_of_ble_eq_true rfl) hf (c_X2_at l _ _ _) (fun r9 hf => ?_)
    refine wk_aload_n X dX9_unlikeSounds_54 1 rfl ?_
    refine wk_getR X dX9_unlikeSounds_55 fo_X9_20 hf (fun v10 hf => ?_)
    refine wk_iload X dX9_unlikeSounds_58 5 rfl ?_
    refine wk_callVi X [.int x4] [.int r9.1, .ref x1] dX9_unlikeSounds_60 rfl vo_X9_55 rfl (by decide) (Nat.le_of_ble_eq_true rfl) hf (c_X2_at l _ _ _) (fun r11 hf => ?_)
    refine wk_callVv X [.int r9.1, .int r11.1] [] dX9_unlikeSounds_63 rfl vo_X9_42 rfl (by decide) (Nat.le_of_ble_eq_true rfl) hf (c_X3_turnHeel l _ _ _ _) (fun r12 hf => ?_)
    refine wk_aload_n X dX9_unlikeSounds_66 1 rfl ?_
    refine wk_iload X dX9_unlikeSounds_67 0 rfl ?_
    refine wk_iload_n X dX9_unlikeSounds_69 4 rfl ?_
    refine wk_callVi X [.int r7.1, .int x3] [] dX9_unlikeSounds_70 rfl vo_X9_63 rfl (by decide) (Nat.le_of_ble_eq_true rfl) hf (c_X9_isAmong l _ _ _ _) (fun r13 hf => ?_)
    refine wk_if_ne X 89 dX9_unlikeSounds_73 (by decide) hf (fun hf => ?_) (fun hf => ?_)
    · exact wq_sub [1, 2, 3, 4, 5] rfl (w_X9_unlikeSounds_89 X k5 hk5 _ _ _ _ _ _ hf)
    · refine wk_aload_n X dX9_unlikeSounds_76 1 rfl ?_
      refine wk_getR X dX9_unlikeSounds_77 fo_X9_23 hf (fun v14 hf => ?_)
      refine wk_iload_n X dX9_unlikeSounds_80 4 rfl ?_
      refine wk_iload X dX9_unlikeSounds_81 0 rfl ?_
      refine wk_callVv X [.int x3, .int r7.1] [] dX9_unlikeSounds_83 rfl vo_X9_52 rfl (by decide) (Nat.le_of_ble_eq_true rfl) hf (c_X2_set l _ _ _ _) (fun r15 hf => ?_)
      refine wk_iinc (lv' := [(3, .int (x3 + 1)), (5, .int r7.1), (0, .ref x0), (1, .ref x1), (2, .int x2), (4, .int x4)]) X dX9_unlikeSounds_86 4 rfl ic_1 (by decide) rfl ?_
      exact wq_sub [2, 3, 4, 0, 5] rfl (w_X9_unlikeSounds_89 X k5 hk5 _ _ _ _ _ _ hf)
def l_X9_unlikeSounds_5 (x0 : Nat) (x1 : Nat) (x2 : Int32) (x3 : Int32) (x4 : Int32) (h : hp_H) : Option (Int32 × hp_H) := lp (fun k (s : Nat × Nat × Int32 × Int32 × Int32 × hp_H) => f_X9_unlikeSounds_5  (fun a0 a1 a2 a3 a4 a5 => k (a0, a1, a2, a3, a4, a5)) s.1 s.2.1 s.2.2.1 s.2.2.2.1 s.2.2.2.2.1 s.2.2.2.2.2) 100000 (x0, x1, x2, x3, x4, h)
theorem wl_X9_unlikeSounds_5 (X : wx G p s m args meth c cX9_unlikeSounds 6 RX9 (some .int)) (x0 : Nat) (x1 : Nat) (x2 : Int32) (x3 : Int32) (x4 : Int32) (h : hp_H) (hf : l_X9_unlikeSounds_5 x0 x1 x2 x3 x4 h = some o) : wq p l e (mt_R (6) 0 0) s m args below meth c (MQ below (mt_Q G (some (.int o.1)) o.2) args s 0 0 (hp_A G)) G 6 0 0 5 [(0, .ref x0), (1, .ref x1), (2, .int x2), (3, .int x3), (4, .int x4)] [] h :=
  lp_ind (P := fun (s_ : Nat × Nat × Int32 × Int32 × Int32 × hp_H) => wq p l e (mt_R (6) 0 0) s m args below meth c (MQ below (mt_Q G (some (.int o.1)) o.2) args s 0 0 (hp_A G)) G 6 0 0 5 [(0, .ref s_.1), (1, .ref s_.2.1), (2, .int s_.2.2.1), (3, .int s_.2.2.2.1), (4, .int s_.2.2.2.2.1)] [] s_.2.2.2.2.2) (fun k s hk hf => w_X9_unlikeSounds_5 X  (fun a0 a1 a2 a3 a4 a5 => k (a0, a1, a2, a3, a4, a5)) (fun a0 a1 a2 a3 a4 a5 hf => hk (a0, a1, a2, a3, a4, a5) hf) s.1 s.2.1 s.2.2.1 s.2.2.2.1 s.2.2.2.2.1 s.2.2.2.2.2 hf) 100000 (x0, x1, x2, x3, x4, h) hf
end Sf_X9_unlikeSounds
def f_X9_unlikeSounds (x0 : Nat) (x1 : Nat) (x2 : Int32) (h : hp_H) : Option (Int32 × hp_H) := gd h x0 9 (l_X9_unlikeSounds_5 x0 x1 x2 0 0 h)
set_option maxRecDepth 20000 in
theorem c_X9_unlikeSounds (l : Launch) (x0 : Nat) (x1 : Nat) (x2 : Int32) (h : hp_H) (r : Int32 × hp_H) (hf : f_X9_unlikeSounds x0 x1 x2 h = some r) : cv l (6) yX9_unlikeSounds cX9_unlikeSounds 6 (some .int) 9 x0 [.ref x1, .int x2] h (some (.int r.1)) r.2 := by
  unfold f_X9_unlikeSounds at hf
  refine cv_of (lv := [(0, .ref x0), (1, .ref x1), (2, .int x2)]) hf (by decide +kernel) (Nat.le_of_ble_eq_true rfl) rfl (fun hf p e s m args below meth c G X => ?_)
  refine wk_iconst X dX9_unlikeSounds_0 ic_0 ?_
  refine wk_istore_n (lv' := [(3, .int 0), (0, .ref x0), (1, .ref x1), (2, .int x2)]) X dX9_unlikeSounds_1 (by decide) rfl ?_
  refine wk_iconst X dX9_unlikeSounds_2 ic_0 ?_
  refine wk_istore (lv' := [(4, .int 0), (3, .int 0), (0, .ref x0), (1, .ref x1), (2, .int x2)]) X dX9_unlikeSounds_3 (by decide) rfl ?_
  exact wq_sub [2, 3, 4, 1, 0] rfl (wl_X9_unlikeSounds_5 X _ _ _ _ _ _ hf)
