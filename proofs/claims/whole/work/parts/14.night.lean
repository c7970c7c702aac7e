section Sf_X10_tapeNumber
variable {p : Program} {l : Launch} {e : Env} {s : State} {m : MethodId} {args : Array Value} {below : List Frame} {meth : Method} {c : Code} {G : hp_G} {o : hp_H}
def f_X10_tapeNumber_3 (k3 : Nat → Int32 → Int32 → hp_H → Option (hp_H)) (x0 : Nat) (x1 : Int32) (x2 : Int32) (h : hp_H) : Option (hp_H) := if x2 < 0 then (some h) else ((rd_R h x0 10 0).bind fun v1 => (rd_I h x0 10 1).bind fun v2 => (f_X2_set v1 v2 ((x1 >>> (x2 &&& 31)) &&& (255 : Int32)) h).bind fun r3 => (rd_I r3 x0 10 1).bind fun v4 => (wr_I r3 x0 10 1 (v4 + 1)).bind fun h5 => k3 x0 x1 (x2 + (-8)) h5)
set_option maxRecDepth 20000 in
theorem w_X10_tapeNumber_3 (X : wx G p s m args meth c cX10_tapeNumber 3 RX10 none) (k3 : Nat → Int32 → Int32 → hp_H → Option (hp_H)) (hk3 : ∀ (x0 : Nat) (x1 : Int32) (x2 : Int32) (h : hp_H), k3 x0 x1 x2 h = some o → wq p l e (mt_R (2) 0 0) s m args below meth c (MQ below (mt_Q G none o) args s 0 0 (hp_A G)) G 3 0 0 3 [(0, .ref x0), (1, .int x1), (2, .int x2)] [] h) (x0 : Nat) (x1 : Int32) (x2 : Int32) (h : hp_H) (hf : f_X10_tapeNumber_3 k3 x0 x1 x2 h = some o) : wq p l e (mt_R (2) 0 0) s m args below meth c (MQ below (mt_Q G none o) args s 0 0 (hp_A G)) G 3 0 0 3 [(0, .ref x0), (1, .int x1), (2, .int x2)] [] h := by
  unfold f_X10_tapeNumber_3 at hf
  refine wk_iload_n X dX10_tapeNumber_3 2 rfl ?_
  refine wk_if_lt X 41 dX10_tapeNumber_4 (by decide) hf (fun hf => ?_) (fun hf => ?_)
  · exact wk_return X dX10_tapeNumber_41 hf
  · refine wk_aload_n X dX10_tapeNumber_7 0 rfl ?_
    refine wk_getR X dX10_tapeNumber_8 fo_X10_14 hf (fun v1 hf => ?_)
    refine wk_aload_n X dX10_tapeNumber_11 0 rfl ?_
    refine wk_getI X dX10_tapeNumber_12 fo_X10_18 hf (fun v2 hf => ?_)
    refine wk_iload_n X dX10_tapeNumber_15 1 rfl ?_
    refine wk_iload_n X dX10_tapeNumber_16 2 rfl ?_
    refine wk_ishr X dX10_tapeNumber_17 ?_
    refine wk_sipush X dX10_tapeNumber_18 is_255 ?_
    refine wk_iand X dX10_tapeNumber_21 ?_
    refine wk_callVv X [.int v2, .int ((x1 >>> (x2 &&& 31)) &&& (255 : Int32))] [] dX10_tapeNumber_22 rfl vo_X10_224 rfl (by decide) (Nat.le_of_ble_eq_true rfl) hf (c_X2_set l _ _ _ _) (fun r3 hf => ?_)
    refine wk_aload_n X dX10_tapeNumber_25 0 rfl ?_
    refine wk_dup X dX10_tapeNumber_26 rfl ?_
    refine wk_getI X dX10_tapeNumber_27 fo_X10_18 hf (fun v4 hf => ?_)
    refine wk_iconst X dX10_tapeNumber_30 ic_1 ?_
    refine wk_iadd X dX10_tapeNumber_31 ?_
    refine wk_putI X dX10_tapeNumber_32 fo_X10_18 hf (fun h5 hf => ?_)
    refine wk_iinc (lv' := [(2, .int (x2 + (-8))), (0, .ref x0), (1, .int x1)]) X dX10_tapeNumber_35 2 rfl ic_m8 (by decide) rfl ?_
    refine wk_goto X 3 dX10_tapeNumber_38 (by decide) ?_
    exact wq_sub [1, 2, 0] rfl (hk3 _ _ _ _ hf)
def l_X10_tapeNumber_3 (x0 : Nat) (x1 : Int32) (x2 : Int32) (h : hp_H) : Option (hp_H) := lp (fun k (s : Nat × Int32 × Int32 × hp_H) => f_X10_tapeNumber_3  (fun a0 a1 a2 a3 => k (a0, a1, a2, a3)) s.1 s.2.1 s.2.2.1 s.2.2.2) 100000 (x0, x1, x2, h)
theorem wl_X10_tapeNumber_3 (X : wx G p s m args meth c cX10_tapeNumber 3 RX10 none) (x0 : Nat) (x1 : Int32) (x2 : Int32) (h : hp_H) (hf : l_X10_tapeNumber_3 x0 x1 x2 h = some o) : wq p l e (mt_R (2) 0 0) s m args below meth c (MQ below (mt_Q G none o) args s 0 0 (hp_A G)) G 3 0 0 3 [(0, .ref x0), (1, .int x1), (2, .int x2)] [] h :=
  lp_ind (P := fun (s_ : Nat × Int32 × Int32 × hp_H) => wq p l e (mt_R (2) 0 0) s m args below meth c (MQ below (mt_Q G none o) args s 0 0 (hp_A G)) G 3 0 0 3 [(0, .ref s_.1), (1, .int s_.2.1), (2, .int s_.2.2.1)] [] s_.2.2.2) (fun k s hk hf => w_X10_tapeNumber_3 X  (fun a0 a1 a2 a3 => k (a0, a1, a2, a3)) (fun a0 a1 a2 a3 hf => hk (a0, a1, a2, a3) hf) s.1 s.2.1 s.2.2.1 s.2.2.2 hf) 100000 (x0, x1, x2, h) hf
end Sf_X10_tapeNumber
def f_X10_tapeNumber (x0 : Nat) (x1 : Int32) (h : hp_H) : Option (hp_H) := gd h x0 10 (l_X10_tapeNumber_3 x0 x1 24 h)
set_option maxRecDepth 20000 in
theorem c_X10_tapeNumber (l : Launch) (x0 : Nat) (x1 : Int32) (h : hp_H) (r : hp_H) (hf : f_X10_tapeNumber x0 x1 h = some r) : cv l (2) yX10_tapeNumber cX10_tapeNumber 3 none 10 x0 [.int x1] h none r := by
  unfold f_X10_tapeNumber at hf
  refine cv_of (lv := [(0, .ref x0), (1, .int x1)]) hf (by decide +kernel) (Nat.le_of_ble_eq_true rfl) rfl (fun hf p e s m args below meth c G X => ?_)
  refine wk_bipush X dX10_tapeNumber_0 ib_24 ?_
  refine wk_istore_n (lv' := [(2, .int 24), (0, .ref x0), (1, .int x1)]) X dX10_tapeNumber_2 (by decide) rfl ?_
  exact wq_sub [1, 2, 0] rfl (wl_X10_tapeNumber_3 X _ _ _ _ hf)
section Sf_X10_feed
variable {p : Program} {l : Launch} {e : Env} {s : State} {m : MethodId} {args : Array Value} {below : List Frame} {meth : Method} {c : Code} {G : hp_G} {o : Int32 × hp_H}
end Sf_X10_feed
def f_X10_feed (x0 : Nat) (x1 : Int32) (x2 : Int32) (x3 : Int32) (x4 : Int32) (x5 : Int32) (h : hp_H) : Option (Int32 × hp_H) := gd h x0 10 ((rd_I h x0 10 1).bind fun v1 => if (v1 + 20) ≤ 700 then ((f_X10_tapeNumber x0 x1 h).bind fun r2 => (f_X10_tapeNumber x0 x2 r2).bind fun r3 => (f_X10_tapeNumber x0 x3 r3).bind fun r4 => (f_X10_tapeNumber x0 x4 r4).bind fun r5 => (f_X10_tapeNumber x0 x5 r5).bind fun r6 => (rd_I r6 x0 10 1).bind fun v7 => some (v7, r6)) else (some ((-1), h)))
set_option maxRecDepth 20000 in
theorem c_X10_feed (l : Launch) (x0 : Nat) (x1 : Int32) (x2 : Int32) (x3 : Int32) (x4 : Int32) (x5 : Int32) (h : hp_H) (r : Int32 × hp_H) (hf : f_X10_feed x0 x1 x2 x3 x4 x5 h = some r) : cv l (3) yX10_feed cX10_feed 6 (some .int) 10 x0 [.int x1, .int x2, .int x3, .int x4, .int x5] h (some (.int r.1)) r.2 := by
  unfold f_X10_feed at hf
  refine cv_of (lv := [(0, .ref x0), (1, .int x1), (2, .int x2), (3, .int x3), (4, .int x4), (5, .int x5)]) hf (by decide +kernel) (Nat.le_of_ble_eq_true rfl) rfl (fun hf p e s m args below meth c G X => ?_)
  refine wk_aload_n X dX10_feed_0 0 rfl ?_
  refine wk_getI X dX10_feed_1 fo_X10_18 hf (fun v1 hf => ?_)
  refine wk_bipush X dX10_feed_4 ib_20 ?_
  refine wk_iadd X dX10_feed_6 ?_
  refine wk_sipush X dX10_feed_7 is_700 ?_
  refine wk_icmp_le X 15 dX10_feed_10 (by decide) hf (fun hf => ?_) (fun hf => ?_)
  · refine wk_aload_n X dX10_feed_15 0 rfl ?_
    refine wk_iload_n X dX10_feed_16 1 rfl ?_
    refine wk_callVv X [.int x1] [] dX10_feed_17 rfl vo_X10_91 rfl (by decide) (Nat.le_of_ble_eq_true rfl) hf (c_X10_tapeNumber l _ _ _) (fun r2 hf => ?_)
    refine wk_aload_n X dX10_feed_20 0 rfl ?_
    refine wk_iload_n X dX10_feed_21 2 rfl ?_
    refine wk_callVv X [.int x2] [] dX10_feed_22 rfl vo_X10_91 rfl (by decide) (Nat.le_of_ble_eq_true rfl) hf (c_X10_tapeNumber l _ _ _) (fun r3 hf => ?_)
    refine wk_aload_n X dX10_feed_25 0 rfl ?_
    refine wk_iload_n X dX10_feed_26 3 rfl ?_
    refine wk_callVv X [.int x3] [] dX10_feed_27 rfl vo_X10_91 rfl (by decide) (Nat.le_of_ble_eq_true rfl) hf (c_X10_tapeNumber l _ _ _) (fun r4 hf => ?_)
    refine wk_aload_n X dX10_feed_30 0 rfl ?_
    refine wk_iload X dX10_feed_31 4 rfl ?_
    refine wk_callVv X [.int x4] [] dX10_feed_33 rfl vo_X10_91 rfl (by decide) (Nat.le_of_ble_eq_true rfl) hf (c_X10_tapeNumber l _ _ _) (fun r5 hf => ?_)
    refine wk_aload_n X dX10_feed_36 0 rfl ?_
    refine wk_iload X dX10_feed_37 5 rfl ?_
    refine wk_callVv X [.int x5] [] dX10_feed_39 rfl vo_X10_91 rfl (by decide) (Nat.le_of_ble_eq_true rfl) hf (c_X10_tapeNumber l _ _ _) (fun r6 hf => ?_)
    refine wk_aload_n X dX10_feed_42 0 rfl ?_
    refine wk_getI X dX10_feed_43 fo_X10_18 hf (fun v7 hf => ?_)
    exact wk_ireturn X dX10_feed_46 hf
  · refine wk_iconst X dX10_feed_13 ic_m1 ?_
    exact wk_ireturn X dX10_feed_14 hf
section Sf_X10_fault
variable {p : Program} {l : Launch} {e : Env} {s : State} {m : MethodId} {args : Array Value} {below : List Frame} {meth : Method} {c : Code} {G : hp_G} {o : Int32 × hp_H}
end Sf_X10_fault
def f_X10_fault (x0 : Nat) (h : hp_H) : Option (Int32 × hp_H) := gd h x0 10 ((rd_I h x0 10 2).bind fun v1 => some (v1, h))
set_option maxRecDepth 20000 in
theorem c_X10_fault (l : Launch) (x0 : Nat) (h : hp_H) (r : Int32 × hp_H) (hf : f_X10_fault x0 h = some r) : cv l (1) yX10_fault cX10_fault 1 (some .int) 10 x0 [] h (some (.int r.1)) r.2 := by
  unfold f_X10_fault at hf
  refine cv_of (lv := [(0, .ref x0)]) hf (by decide +kernel) (Nat.le_of_ble_eq_true rfl) rfl (fun hf p e s m args below meth c G X => ?_)
  refine wk_aload_n X dX10_fault_0 0 rfl ?_
  refine wk_getI X dX10_fault_1 fo_X10_22 hf (fun v1 hf => ?_)
  exact wk_ireturn X dX10_fault_4 hf
section Sf_X10_refuse
variable {p : Program} {l : Launch} {e : Env} {s : State} {m : MethodId} {args : Array Value} {below : List Frame} {meth : Method} {c : Code} {G : hp_G} {o : hp_H}
end Sf_X10_refuse
def f_X10_refuse (x0 : Nat) (x1 : Int32) (h : hp_H) : Option (hp_H) := gd h x0 10 ((rd_R h x0 10 3).bind fun v1 => (rd_R h x0 10 3).bind fun v2 => (f_X2_at v2 x1 h).bind fun r3 => (f_X2_set v1 x1 (r3.1 + 1) r3.2).bind fun r4 => some r4)
set_option maxRecDepth 20000 in
theorem c_X10_refuse (l : Launch) (x0 : Nat) (x1 : Int32) (h : hp_H) (r : hp_H) (hf : f_X10_refuse x0 x1 h = some r) : cv l (2) yX10_refuse cX10_refuse 2 none 10 x0 [.int x1] h none r := by
  unfold f_X10_refuse at hf
  refine cv_of (lv := [(0, .ref x0), (1, .int x1)]) hf (by decide +kernel) (Nat.le_of_ble_eq_true rfl) rfl (fun hf p e s m args below meth c G X => ?_)
  refine wk_aload_n X dX10_refuse_0 0 rfl ?_
  refine wk_getR X dX10_refuse_1 fo_X10_25 hf (fun v1 hf => ?_)
  refine wk_iload_n X dX10_refuse_4 1 rfl ?_
  refine wk_aload_n X dX10_refuse_5 0 rfl ?_
  refine wk_getR X dX10_refuse_6 fo_X10_25 hf (fun v2 hf => ?_)
  refine wk_iload_n X dX10_refuse_9 1 rfl ?_
  refine wk_callVi X [.int x1] [.int x1, .ref v1] dX10_refuse_10 rfl vo_X10_163 rfl (by decide) (Nat.le_of_ble_eq_true rfl) hf (c_X2_at l _ _ _) (fun r3 hf => ?_)
  refine wk_iconst X dX10_refuse_13 ic_1 ?_
  refine wk_iadd X dX10_refuse_14 ?_
  refine wk_callVv X [.int x1, .int (r3.1 + 1)] [] dX10_refuse_15 rfl vo_X10_224 rfl (by decide) (Nat.le_of_ble_eq_true rfl) hf (c_X2_set l _ _ _ _) (fun r4 hf => ?_)
  exact wk_return X dX10_refuse_18 hf
section Sf_X10_nights
variable {p : Program} {l : Launch} {e : Env} {s : State} {m : MethodId} {args : Array Value} {below : List Frame} {meth : Method} {c : Code} {G : hp_G} {o : Int32 × hp_H}
def f_X10_nights_26 (x0 : Nat) (h : hp_H) : Option (Int32 × hp_H) := (f_X10_refuse x0 1 h).bind fun r1 => some ((-1), r1)
set_option maxRecDepth 20000 in
theorem w_X10_nights_26 (X : wx G p s m args meth c cX10_nights 3 RX10 (some .int)) (x0 : Nat) (h : hp_H) (hf : f_X10_nights_26 x0 h = some o) : wq p l e (mt_R (8) 0 0) s m args below meth c (MQ below (mt_Q G (some (.int o.1)) o.2) args s 0 0 (hp_A G)) G 3 0 0 26 [(0, .ref x0)] [] h := by
  unfold f_X10_nights_26 at hf
  refine wk_aload_n X dX10_nights_26 0 rfl ?_
  refine wk_iconst X dX10_nights_27 ic_1 ?_
  refine wk_callVv X [.int 1] [] dX10_nights_28 rfl vo_X10_106 rfl (by decide) (Nat.le_of_ble_eq_true rfl) hf (c_X10_refuse l _ _ _) (fun r1 hf => ?_)
  refine wk_iconst X dX10_nights_31 ic_m1 ?_
  exact wk_ireturn X dX10_nights_32 hf
def f_X10_nights_70 (x0 : Nat) (h : hp_H) : Option (Int32 × hp_H) := (rd_R h x0 10 8).bind fun v1 => (rd_I h v1 3 1).bind fun v2 => some (v2, h)
set_option maxRecDepth 20000 in
theorem w_X10_nights_70 (X : wx G p s m args meth c cX10_nights 3 RX10 (some .int)) (x0 : Nat) (h : hp_H) (hf : f_X10_nights_70 x0 h = some o) : wq p l e (mt_R (8) 0 0) s m args below meth c (MQ below (mt_Q G (some (.int o.1)) o.2) args s 0 0 (hp_A G)) G 3 0 0 70 [(0, .ref x0)] [] h := by
  unfold f_X10_nights_70 at hf
  refine wk_aload_n X dX10_nights_70 0 rfl ?_
  refine wk_getR X dX10_nights_71 fo_X10_55 hf (fun v1 hf => ?_)
  refine wk_getI X dX10_nights_74 fo_X10_147 hf (fun v2 hf => ?_)
  exact wk_ireturn X dX10_nights_77 hf
def f_X10_nights_52 (k52 : Nat → Int32 → Int32 → hp_H → Option (Int32 × hp_H)) (x0 : Nat) (x1 : Int32) (x2 : Int32) (h : hp_H) : Option (Int32 × hp_H) := if x1 ≤ x2 then (f_X10_nights_70 x0 h) else ((rd_R h x0 10 8).bind fun v1 => (f_X3_goBy v1 h).bind fun r2 => k52 x0 x1 (x2 + 1) r2)
set_option maxRecDepth 20000 in
theorem w_X10_nights_52 (X : wx G p s m args meth c cX10_nights 3 RX10 (some .int)) (k52 : Nat → Int32 → Int32 → hp_H → Option (Int32 × hp_H)) (hk52 : ∀ (x0 : Nat) (x1 : Int32) (x2 : Int32) (h : hp_H), k52 x0 x1 x2 h = some o → wq p l e (mt_R (8) 0 0) s m args below meth c (MQ below (mt_Q G (some (.int o.1)) o.2) args s 0 0 (hp_A G)) G 3 0 0 52 [(0, .ref x0), (1, .int x1), (2, .int x2)] [] h) (x0 : Nat) (x1 : Int32) (x2 : Int32) (h : hp_H) (hf : f_X10_nights_52 k52 x0 x1 x2 h = some o) : wq p l e (mt_R (8) 0 0) s m args below meth c (MQ below (mt_Q G (some (.int o.1)) o.2) args s 0 0 (hp_A G)) G 3 0 0 52 [(0, .ref x0), (1, .int x1), (2, .int x2)] [] h := by
  unfold f_X10_nights_52 at hf
  refine wk_iload_n X dX10_nights_52 2 rfl ?_
  refine wk_iload_n X dX10_nights_53 1 rfl ?_
  refine wk_icmp_ge X 70 dX10_nights_54 (by decide) hf (fun hf => ?_) (fun hf => ?_)
  · exact wq_sub [0] rfl (w_X10_nights_70 X _ _ hf)
  · refine wk_aload_n X dX10_nights_57 0 rfl ?_
    refine wk_getR X dX10_nights_58 fo_X10_55 hf (fun v1 hf => ?_)
    refine wk_callVv X [] [] dX10_nights_61 rfl vo_X10_207 rfl (by decide) (Nat.le_of_ble_eq_true rfl) hf (c_X3_goBy l _ _) (fun r2 hf => ?_)
    refine wk_iinc (lv' := [(2, .int (x2 + 1)), (0, .ref x0), (1, .int x1)]) X dX10_nights_64 2 rfl ic_1 (by decide) rfl ?_
    refine wk_goto X 52 dX10_nights_67 (by decide) ?_
    exact wq_sub [1, 2, 0] rfl (hk52 _ _ _ _ hf)
def l_X10_nights_52 (x0 : Nat) (x1 : Int32) (x2 : Int32) (h : hp_H) : Option (Int32 × hp_H) := lp (fun k (s : Nat × Int32 × Int32 × hp_H) => f_X10_nights_52  (fun a0 a1 a2 a3 => k (a0, a1, a2, a3)) s.1 s.2.1 s.2.2.1 s.2.2.2) 100000 (x0, x1, x2, h)
theorem wl_X10_nights_52 (X : wx G p s m args meth c cX10_nights 3 RX10 (some .int)) (x0 : Nat) (x1 : Int32) (x2 : Int32) (h : hp_H) (hf : l_X10_nights_52 x0 x1 x2 h = some o) : wq p l e (mt_R (8) 0 0) s m args below meth c (MQ below (mt_Q G (some (.int o.1)) o.2) args s 0 0 (hp_A G)) G 3 0 0 52 [(0, .ref x0), (1, .int x1), (2, .int x2)] [] h :=
  lp_ind (P := fun (s_ : Nat × Int32 × Int32 × hp_H) => wq p l e (mt_R (8) 0 0) s m args below meth c (MQ below (mt_Q G (some (.int o.1)) o.2) args s 0 0 (hp_A G)) G 3 0 0 52 [(0, .ref s_.1), (1, .int s_.2.1), (2, .int s_.2.2.1)] [] s_.2.2.2) (fun k s hk hf => w_X10_nights_52 X  (fun a0 a1 a2 a3 => k (a0, a1, a2, a3)) (fun a0 a1 a2 a3 hf => hk (a0, a1, a2, a3) hf) s.1 s.2.1 s.2.2.1 s.2.2.2 hf) 100000 (x0, x1, x2, h) hf
end Sf_X10_nights
def f_X10_nights (x0 : Nat) (x1 : Int32) (h : hp_H) : Option (Int32 × hp_H) := gd h x0 10 (if x1 < 1 then (f_X10_nights_26 x0 h) else (if 20 < x1 then (f_X10_nights_26 x0 h) else ((rd_R h x0 10 8).bind fun v1 => (rd_I h v1 3 1).bind fun v2 => if (v2 + x1) ≤ 999 then ((rd_R h x0 10 5).bind fun v3 => (rd_R h v3 8 1).bind fun v4 => (rd_R h x0 10 8).bind fun v5 => (f_X0_keep v4 0 x1 0 v5 h).bind fun r6 => l_X10_nights_52 x0 x1 0 r6) else (f_X10_nights_26 x0 h))))
set_option maxRecDepth 20000 in
theorem c_X10_nights (l : Launch) (x0 : Nat) (x1 : Int32) (h : hp_H) (r : Int32 × hp_H) (hf : f_X10_nights x0 x1 h = some r) : cv l (8) yX10_nights cX10_nights 3 (some .int) 10 x0 [.int x1] h (some (.int r.1)) r.2 := by
  unfold f_X10_nights at hf
  refine cv_of (lv := [(0, .ref x0), (1, .int x1)]) hf (by decide +kernel) (Nat.le_of_ble_eq_true rfl) rfl (fun hf p e s m args below meth c G X => ?_)
  refine wk_iload_n X dX10_nights_0 1 rfl ?_
  refine wk_iconst X dX10_nights_1 ic_1 ?_
  refine wk_icmp_lt X 26 dX10_nights_2 (by decide) hf (fun hf => ?_) (fun hf => ?_)
  · exact wq_sub [0] rfl (w_X10_nights_26 X _ _ hf)
  · refine wk_iload_n X dX10_nights_5 1 rfl ?_
    refine wk_bipush X dX10_nights_6 ib_20 ?_
    refine wk_icmp_gt X 26 dX10_nights_8 (by decide) hf (fun hf => ?_) (fun hf => ?_)
    · exact wq_sub [0] rfl (w_X10_nights_26 X _ _ hf)
    · refine wk_aload_n X dX10_nights_11 0 rfl ?_
      refine wk_getR X dX10_nights_12 fo_X10_55 hf (fun v1 hf => ?_)
      refine wk_getI X dX10_nights_15 fo_X10_147 hf (fun v2 hf => ?_)
      refine wk_iload_n X dX10_nights_18 1 rfl ?_
      refine wk_iadd X dX10_nights_19 ?_
      refine wk_sipush X dX10_nights_20 is_999 ?_
      refine wk_icmp_le X 33 dX10_nights_23 (by decide) hf (fun hf => ?_) (fun hf => ?_)
      · refine wk_aload_n X dX10_nights_33 0 rfl ?_
        refine wk_getR X dX10_nights_34 fo_X10_40 hf (fun v3 hf => ?_)
        refine wk_getR X dX10_nights_37 fo_X10_119 hf (fun v4 hf => ?_)
        refine wk_iconst X dX10_nights_40 ic_0 ?_
        refine wk_iload_n X dX10_nights_41 1 rfl ?_
        refine wk_iconst X dX10_nights_42 ic_0 ?_
        refine wk_aload_n X dX10_nights_43 0 rfl ?_
        refine wk_getR X dX10_nights_44 fo_X10_55 hf (fun v5 hf => ?_)
        refine wk_callVv X [.int 0, .int x1, .int 0, .ref v5] [] dX10_nights_47 rfl vo_X10_203 rfl (by decide) (Nat.le_of_ble_eq_true rfl) hf (c_X0_keep l _ _ _ _ _ _) (fun r6 hf => ?_)
        refine wk_iconst X dX10_nights_50 ic_0 ?_
        refine wk_istore_n (lv' := [(2, .int 0), (0, .ref x0), (1, .int x1)]) X dX10_nights_51 (by decide) rfl ?_
        exact wq_sub [1, 2, 0] rfl (wl_X10_nights_52 X _ _ _ _ hf)
      · exact wq_sub [0] rfl (w_X10_nights_26 X _ _ hf)
section Sf_X10_undo
variable {p : Program} {l : Launch} {e : Env} {s : State} {m : MethodId} {args : Array Value} {below : List Frame} {meth : Method} {c : Code} {G : hp_G} {o : Int32 × hp_H}
def f_X10_undo_31 (t0 : Int32) (h : hp_H) : Option (Int32 × hp_H) := some (t0, h)
set_option maxRecDepth 20000 in
theorem w_X10_undo_31 (X : wx G p s m args meth c cX10_undo 1 RX10 (some .int)) (t0 : Int32) (h : hp_H) (hf : f_X10_undo_31 t0 h = some o) : wq p l e (mt_R (5) 0 0) s m args below meth c (MQ below (mt_Q G (some (.int o.1)) o.2) args s 0 0 (hp_A G)) G 1 0 0 31 [] [.int t0] h := by
  unfold f_X10_undo_31 at hf
  exact wk_ireturn X dX10_undo_31 hf
end Sf_X10_undo
def f_X10_undo (x0 : Nat) (h : hp_H) : Option (Int32 × hp_H) := gd h x0 10 ((rd_R h x0 10 5).bind fun v1 => (rd_R h v1 8 1).bind fun v2 => (rd_I h v2 0 4).bind fun v3 => if v3 = 0 then (f_X10_undo_31 (-1) h) else ((rd_R h x0 10 5).bind fun v4 => (rd_R h v4 8 1).bind fun v5 => (rd_R h x0 10 8).bind fun v6 => (f_X0_takeBack v5 v6 h).bind fun r7 => f_X10_undo_31 r7.1 r7.2))
set_option maxRecDepth 20000 in
theorem c_X10_undo (l : Launch) (x0 : Nat) (h : hp_H) (r : Int32 × hp_H) (hf : f_X10_undo x0 h = some r) : cv l (5) yX10_undo cX10_undo 1 (some .int) 10 x0 [] h (some (.int r.1)) r.2 := by
  unfold f_X10_undo at hf
  refine cv_of (lv := [(0, .ref x0)]) hf (by decide +kernel) (Nat.le_of_ble_eq_true rfl) rfl (fun hf p e s m args below meth c G X => ?_)
  refine wk_aload_n X dX10_undo_0 0 rfl ?_
  refine wk_getR X dX10_undo_1 fo_X10_40 hf (fun v1 hf => ?_)
  refine wk_getR X dX10_undo_4 fo_X10_119 hf (fun v2 hf => ?_)
  refine wk_getI X dX10_undo_7 fo_X10_123 hf (fun v3 hf => ?_)
  refine wk_if_ne X 17 dX10_undo_10 (by decide) hf (fun hf => ?_) (fun hf => ?_)
  · refine wk_aload_n X dX10_undo_17 0 rfl ?_
    refine wk_getR X dX10_undo_18 fo_X10_40 hf (fun v4 hf => ?_)
    refine wk_getR X dX10_undo_21 fo_X10_119 hf (fun v5 hf => ?_)
    refine wk_aload_n X dX10_undo_24 0 rfl ?_
    refine wk_getR X dX10_undo_25 fo_X10_55 hf (fun v6 hf => ?_)
    refine wk_callVi X [.ref v6] [] dX10_undo_28 rfl vo_X10_230 rfl (by decide) (Nat.le_of_ble_eq_true rfl) hf (c_X0_takeBack l _ _ _) (fun r7 hf => ?_)
    exact wq_sub [] rfl (w_X10_undo_31 X _ _ hf)
  · refine wk_iconst X dX10_undo_13 ic_m1 ?_
    refine wk_goto X 31 dX10_undo_14 (by decide) ?_
    exact wq_sub [] rfl (w_X10_undo_31 X _ _ hf)
section Sf_X10_nearest
variable {p : Program} {l : Launch} {e : Env} {s : State} {m : MethodId} {args : Array Value} {below : List Frame} {meth : Method} {c : Code} {G : hp_G} {o : Int32 × hp_H}
def f_X10_nearest_86 (x2 : Int32) (h : hp_H) : Option (Int32 × hp_H) := some (x2, h)
set_option maxRecDepth 20000 in
theorem w_X10_nearest_86 (X : wx G p s m args meth c cX10_nearest 6 RX10 (some .int)) (x2 : Int32) (h : hp_H) (hf : f_X10_nearest_86 x2 h = some o) : wq p l e (mt_R (3) 0 0) s m args below meth c (MQ below (mt_Q G (some (.int o.1)) o.2) args s 0 0 (hp_A G)) G 6 0 0 86 [(2, .int x2)] [] h := by
  unfold f_X10_nearest_86 at hf
  refine wk_iload_n X dX10_nearest_86 0 rfl ?_
  exact wk_ireturn X dX10_nearest_87 hf
def f_X10_nearest_80 (k7 : Nat → Int32 → Int32 → Int32 → hp_H → Option (Int32 × hp_H)) (x0 : Nat) (x1 : Int32) (x2 : Int32) (x3 : Int32) (h : hp_H) : Option (Int32 × hp_H) := k7 x0 x1 x2 (x3 + 1) h
set_option maxRecDepth 20000 in
theorem w_X10_nearest_80 (X : wx G p s m args meth c cX10_nearest 6 RX10 (some .int)) (k7 : Nat → Int32 → Int32 → Int32 → hp_H → Option (Int32 × hp_H)) (hk7 : ∀ (x0 : Nat) (x1 : Int32) (x2 : Int32) (x3 : Int32) (h : hp_H), k7 x0 x1 x2 x3 h = some o → wq p l e (mt_R (3) 0 0) s m args below meth c (MQ below (mt_Q G (some (.int o.1)) o.2) args s 0 0 (hp_A G)) G 6 0 0 7 [(0, .ref x0), (1, .int x1), (2, .int x2), (3, .int x3)] [] h) (x0 : Nat) (x1 : Int32) (x2 : Int32) (x3 : Int32) (h : hp_H) (hf : f_X10_nearest_80 k7 x0 x1 x2 x3 h = some o) : wq p l e (mt_R (3) 0 0) s m args below meth c (MQ below (mt_Q G (some (.int o.1)) o.2) args s 0 0 (hp_A G)) G 6 0 0 80 [(0, .ref x0), (1, .int x1), (2, .int x2), (3, .int x3)] [] h := by
  unfold f_X10_nearest_80 at hf
  refine wk_iinc (lv' := [(3, .int (x3 + 1)), (0, .ref x0), (1, .int x1), (2, .int x2)]) X dX10_nearest_80 3 rfl ic_1 (by decide) rfl ?_
  refine wk_goto X 7 dX10_nearest_83 (by decide) ?_
  exact wq_sub [1, 2, 3, 0] rfl (hk7 _ _ _ _ _ hf)
def f_X10_nearest_74 (k7 : Nat → Int32 → Int32 → Int32 → hp_H → Option (Int32 × hp_H)) (k23 : Nat → Int32 → Int32 → Int32 → Int32 → hp_H → Option (Int32 × hp_H)) (x0 : Nat) (x1 : Int32) (x2 : Int32) (x3 : Int32) (x4 : Int32) (h : hp_H) : Option (Int32 × hp_H) := k23 x0 x1 x2 x3 (x4 + 1) h
set_option maxRecDepth 20000 in
theorem w_X10_nearest_74 (X : wx G p s m args meth c cX10_nearest 6 RX10 (some .int)) (k7 : Nat → Int32 → Int32 → Int32 → hp_H → Option (Int32 × hp_H)) (hk7 : ∀ (x0 : Nat) (x1 : Int32) (x2 : Int32) (x3 : Int32) (h : hp_H), k7 x0 x1 x2 x3 h = some o → wq p l e (mt_R (3) 0 0) s m args below meth c (MQ below (mt_Q G (some (.int o.1)) o.2) args s 0 0 (hp_A G)) G 6 0 0 7 [(0, .ref x0), (1, .int x1), (2, .int x2), (3, .int x3)] [] h) (k23 : Nat → Int32 → Int32 → Int32 → Int32 → hp_H → Option (Int32 × hp_H)) (hk23 : ∀ (x0 : Nat) (x1 : Int32) (x2 : Int32) (x3 : Int32) (x4 : Int32) (h : hp_H), k23 x0 x1 x2 x3 x4 h = some o → wq p l e (mt_R (3) 0 0) s m args below meth c (MQ below (mt_Q G (some (.int o.1)) o.2) args s 0 0 (hp_A G)) G 6 0 0 23 [(0, .ref x0), (1, .int x1), (2, .int x2), (3, .int x3), (4, .int x4)] [] h) (x0 : Nat) (x1 : Int32) (x2 : Int32) (x3 : Int32) (x4 : Int32) (h : hp_H) (hf : f_X10_nearest_74 k7 k23 x0 x1 x2 x3 x4 h = some o) : wq p l e (mt_R (3) 0 0) s m args below meth c (MQ below (mt_Q G (some (.int o.1)) o.2) args s 0 0 (hp_A G)) G 6 0 0 74 [(0, .ref x0), (1, .int x1), (2, .int x2), (3, .int x3), (4, .int x4)] [] h := by
  unfold f_X10_nearest_74 at hf
  refine wk_iinc (lv' := [(4, .int (x4 + 1)), (0, .ref x0), (1, .int x1), (2, .int x2), (3, .int x3)]) X dX10_nearest_74 4 rfl ic_1 (by decide) rfl ?_
  refine wk_goto X 23 dX10_nearest_77 (by decide) ?_
  exact wq_sub [1, 2, 3, 4, 0] rfl (hk23 _ _ _ _ _ _ hf)
def f_X10_nearest_23 (k7 : Nat → Int32 → Int32 → Int32 → hp_H → Option (Int32 × hp_H)) (k23 : Nat → Int32 → Int32 → Int32 → Int32 → hp_H → Option (Int32 × hp_H)) (x0 : Nat) (x1 : Int32) (x2 : Int32) (x3 : Int32) (x4 : Int32) (h : hp_H) : Option (Int32 × hp_H) := (rd_R h x0 10 4).bind fun v1 => (rd_I h v1 1 1).bind fun v2 => if v2 ≤ x4 then (f_X10_nearest_80 k7 x0 x1 x2 x3 h) else ((rd_R h x0 10 8).bind fun v3 => (rd_R h x0 10 8).bind fun v4 => (rd_R h v4 3 2).bind fun v5 => (f_X2_at v5 x4 h).bind fun r6 => (f_X3_farFrom v3 x3 r6.1 r6.2).bind fun r7 => if x1 ≤ r7.1 then (f_X10_nearest_74 k7 k23 x0 x1 x2 x3 x4 r7.2) else (f_X10_nearest_74 k7 k23 x0 r7.1 ((10 * x3) + x4) x3 x4 r7.2))
set_option maxRecDepth 20000 in
theorem w_X10_nearest_23 (X : wx G p s m args meth c cX10_nearest 6 RX10 (some .int)) (k7 : Nat → Int32 → Int32 → Int32 → hp_H → Option (Int32 × hp_H)) (hk7 : ∀ (x0 : Nat) (x1 : Int32) (x2 : Int32) (x3 : Int32) (h : hp_H), k7 x0 x1 x2 x3 h = some o → wq p l e (mt_R (3) 0 0) s m args below meth c (MQ below (mt_Q G (some (.int o.1)) o.2) args s 0 0 (hp_A G)) G 6 0 0 7 [(0, .ref x0), (1, .int x1), (2, .int x2), (3, .int x3)] [] h) (k23 : Nat → Int32 → Int32 → Int32 → Int32 → hp_H → Option (Int32 × hp_H)) (hk23 : ∀ (x0 : Nat) (x1 : Int32) (x2 : Int32) (x3 : Int32) (x4 : Int32) (h : hp_H), k23 x0 x1 x2 x3 x4 h = some o → wq p l e (mt_R (3) 0 0) s m args below meth c (MQ below (mt_Q G (some (.int o.1)) o.2) args s 0 0 (hp_A G)) G 6 0 0 23 [(0, .ref x0), (1, .int x1), (2, .int x2), (3, .int x3), (4, .int x4)] [] h) (x0 : Nat) (x1 : Int32) (x2 : Int32) (x3 : Int32) (x4 : Int32) (h : hp_H) (hf : f_X10_nearest_23 k7 k23 x0 x1 x2 x3 x4 h = some o) : wq p l e (mt_R (3) 0 0) s m args below meth c (MQ below (mt_Q G (some (.int o.1)) o.2) args s 0 0 (hp_A G)) G 6 0 0 23 [(0, .ref x0), (1, .int x1), (2, .int x2), (3, .int x3), (4, .int x4)] [] h := by
  unfold f_X10_nearest_23 at hf
  refine wk_iload X dX10_nearest_23 4 rfl ?_
  refine wk_aload_n X dX10_nearest_25 0 rfl ?_
  refine wk_getR X dX10_nearest_26 fo_X10_31 hf (fun v1 hf => ?_)
  refine wk_getI X dX10_nearest_29 fo_X10_138 hf (fun v2 hf => ?_)
  refine wk_icmp_ge X 80 dX10_nearest_32 (by decide) hf (fun hf => ?_) (fun hf => ?_)
  · exact wq_sub [0, 1, 2, 3] rfl (w_X10_nearest_80 X k7 hk7 _ _ _ _ _ hf)
  · refine wk_aload_n X dX10_nearest_35 0 rfl ?_
    refine wk_getR X dX10_nearest_36 fo_X10_55 hf (fun v3 hf => ?_)
    refine wk_iload_n X dX10_nearest_39 3 rfl ?_
    refine wk_aload_n X dX10_nearest_40 0 rfl ?_
    refine wk_getR X dX10_nearest_41 fo_X10_55 hf (fun v4 hf => ?_)
    refine wk_getR X dX10_nearest_44 fo_X10_174 hf (fun v5 hf => ?_)
    refine wk_iload X dX10_nearest_47 4 rfl ?_
    refine wk_callVi X [.int x4] [.int x3, .ref v3] dX10_nearest_49 rfl vo_X10_163 rfl (by decide) (Nat.le_of_ble_eq_true rfl) hf (c_X2_at l _ _ _) (fun r6 hf => ?_)
    refine wk_callVi X [.int x3, .int r6.1] [] dX10_nearest_52 rfl vo_X10_259 rfl (by decide) (Nat.le_of_ble_eq_true rfl) hf (c_X3_farFrom l _ _ _ _) (fun r7 hf => ?_)
    refine wk_istore (lv' := [(5, .int r7.1), (0, .ref x0), (1, .int x1), (2, .int x2), (3, .int x3), (4, .int x4)]) X dX10_nearest_55 (by decide) rfl ?_
    refine wk_iload X dX10_nearest_57 0 rfl ?_
    refine wk_iload_n X dX10_nearest_59 2 rfl ?_
    refine wk_icmp_ge X 74 dX10_nearest_60 (by decide) hf (fun hf => ?_) (fun hf => ?_)
    · exact wq_sub [1, 2, 3, 4, 5] rfl (w_X10_nearest_74 X k7 hk7 k23 hk23 _ _ _ _ _ _ hf)
    · refine wk_iload X dX10_nearest_63 0 rfl ?_
      refine wk_istore_n (lv' := [(1, .int r7.1), (5, .int r7.1), (0, .ref x0), (2, .int x2), (3, .int x3), (4, .int x4)]) X dX10_nearest_65 (by decide) rfl ?_
      refine wk_bipush X dX10_nearest_66 ib_10 ?_
      refine wk_iload_n X dX10_nearest_68 4 rfl ?_
      refine wk_imul X dX10_nearest_69 ?_
      refine wk_iload X dX10_nearest_70 5 rfl ?_
      refine wk_iadd X dX10_nearest_72 ?_
      refine wk_istore_n (lv' := [(2, .int ((10 * x3) + x4)), (1, .int r7.1), (5, .int r7.1), (0, .ref x0), (3, .int x3), (4, .int x4)]) X dX10_nearest_73 (by decide) rfl ?_
      exact wq_sub [3, 1, 0, 4, 5] rfl (w_X10_nearest_74 X k7 hk7 k23 hk23 _ _ _ _ _ _ hf)
def l_X10_nearest_23 (k7 : Nat → Int32 → Int32 → Int32 → hp_H → Option (Int32 × hp_H)) (x0 : Nat) (x1 : Int32) (x2 : Int32) (x3 : Int32) (x4 : Int32) (h : hp_H) : Option (Int32 × hp_H) := lp (fun k (s : Nat × Int32 × Int32 × Int32 × Int32 × hp_H) => f_X10_nearest_23 k7 (fun a0 a1 a2 a3 a4 a5 => k (a0, a1, a2, a3, a4, a5)) s.1 s.2.1 s.2.2.1 s.2.2.2.1 s.2.2.2.2.1 s.2.2.2.2.2) 100000 (x0, x1, x2, x3, x4, h)
theorem wl_X10_nearest_23 (X : wx G p s m args meth c cX10_nearest 6 RX10 (some .int)) (k7 : Nat → Int32 → Int32 → Int32 → hp_H → Option (Int32 × hp_H)) (hk7 : ∀ (x0 : Nat) (x1 : Int32) (x2 : Int32) (x3 : Int32) (h : hp_H), k7 x0 x1 x2 x3 h = some o → wq p l e (mt_R (3) 0 0) s m args below meth c (MQ below (mt_Q G (some (.int o.1)) o.2) args s 0 0 (hp_A G)) G 6 0 0 7 [(0, .ref x0), (1, .int x1), (2, .int x2), (3, .int x3)] [] h) (x0 : Nat) (x1 : Int32) (x2 : Int32) (x3 : Int32) (x4 : Int32) (h : hp_H) (hf : l_X10_nearest_23 k7 x0 x1 x2 x3 x4 h = some o) : wq p l e (mt_R (3) 0 0) s m args below meth c (MQ below (mt_Q G (some (.int o.1)) o.2) args s 0 0 (hp_A G)) G 6 0 0 23 [(0, .ref x0), (1, .int x1), (2, .int x2), (3, .int x3), (4, .int x4)] [] h :=
  lp_ind (P := fun (s_ : Nat × Int32 × Int32 × Int32 × Int32 × hp_H) => wq p l e (mt_R (3) 0 0) s m args below meth c (MQ below (mt_Q G (some (.int o.1)) o.2) args s 0 0 (hp_A G)) G 6 0 0 23 [(0, .ref s_.1), (1, .int s_.2.1), (2, .int s_.2.2.1), (3, .int s_.2.2.2.1), (4, .int s_.2.2.2.2.1)] [] s_.2.2.2.2.2) (fun k s hk hf => w_X10_nearest_23 X k7 hk7 (fun a0 a1 a2 a3 a4 a5 => k (a0, a1, a2, a3, a4, a5)) (fun a0 a1 a2 a3 a4 a5 hf => hk (a0, a1, a2, a3, a4, a5) hf) s.1 s.2.1 s.2.2.1 s.2.2.2.1 s.2.2.2.2.1 s.2.2.2.2.2 hf) 100000 (x0, x1, x2, x3, x4, h) hf
def f_X10_nearest_7 (k7 : Nat → Int32 → Int32 → Int32 → hp_H → Option (Int32 × hp_H)) (x0 : Nat) (x1 : Int32) (x2 : Int32) (x3 : Int32) (h : hp_H) : Option (Int32 × hp_H) := (rd_R h x0 10 4).bind fun v1 => (rd_I h v1 1 1).bind fun v2 => if v2 ≤ x3 then (f_X10_nearest_86 x2 h) else (l_X10_nearest_23 k7 x0 x1 x2 x3 (x3 + 1) h)
set_option maxRecDepth 20000 in
theorem w_X10_nearest_7 (X : wx G p s m args meth c cX10_nearest 6 RX10 (some .int)) (k7 : Nat → Int32 → Int32 → Int32 → hp_H → Option (Int32 × hp_H)) (hk7 : ∀ (x0 : Nat) (x1 : Int32) (x2 : Int32) (x3 : Int32) (h : hp_H), k7 x0 x1 x2 x3 h = some o → wq p l e (mt_R (3) 0 0) s m args below meth c (MQ below (mt_Q G (some (.int o.1)) o.2) args s 0 0 (hp_A G)) G 6 0 0 7 [(0, .ref x0), (1, .int x1), (2, .int x2), (3, .int x3)] [] h) (x0 : Nat) (x1 : Int32) (x2 : Int32) (x3 : Int32) (h : hp_H) (hf : f_X10_nearest_7 k7 x0 x1 x2 x3 h = some o) : wq p l e (mt_R (3) 0 0) s m args below meth c (MQ below (mt_Q G (some (.int o.1)) o.2) args s 0 0 (hp_A G)) G 6 0 0 7 [(0, .ref x0), (1, .int x1), (2, .int x2), (3, .int x3)] [] h := by
  unfold f_X10_nearest_7 at hf
  refine wk_iload_n X dX10_nearest_7 3 rfl ?_
  refine wk_aload_n X dX10_nearest_8 0 rfl ?_
  refine wk_getR X dX10_nearest_9 fo_X10_31 hf (fun v1 hf => ?_)
  refine wk_getI X dX10_nearest_12 fo_X10_138 hf (fun v2 hf => ?_)
  refine wk_icmp_ge X 86 dX10_nearest_15 (by decide) hf (fun hf => ?_) (fun hf => ?_)
  · exact wq_sub [2] rfl (w_X10_nearest_86 X _ _ hf)
  · refine wk_iload_n X dX10_nearest_18 3 rfl ?_
    refine wk_iconst X dX10_nearest_19 ic_1 ?_
    refine wk_iadd X dX10_nearest_20 ?_
    refine wk_istore (lv' := [(4, .int (x3 + 1)), (0, .ref x0), (1, .int x1), (2, .int x2), (3, .int x3)]) X dX10_nearest_21 (by decide) rfl ?_
    exact wq_sub [1, 2, 3, 4, 0] rfl (wl_X10_nearest_23 X k7 hk7 _ _ _ _ _ _ hf)
def l_X10_nearest_7 (x0 : Nat) (x1 : Int32) (x2 : Int32) (x3 : Int32) (h : hp_H) : Option (Int32 × hp_H) := lp (fun k (s : Nat × Int32 × Int32 × Int32 × hp_H) => f_X10_nearest_7  (fun a0 a1 a2 a3 a4 => k (a0, a1, a2, a3, a4)) s.1 s.2.1 s.2.2.1 s.2.2.2.1 s.2.2.2.2) 100000 (x0, x1, x2, x3, h)
theorem wl_X10_nearest_7 (X : wx G p s m args meth c cX10_nearest 6 RX10 (some .int)) (x0 : Nat) (x1 : Int32) (x2 : Int32) (x3 : Int32) (h : hp_H) (hf : l_X10_nearest_7 x0 x1 x2 x3 h = some o) : wq p l e (mt_R (3) 0 0) s m args below meth c (MQ below (mt_Q G (some (.int o.1)) o.2) args s 0 0 (hp_A G)) G 6 0 0 7 [(0, .ref x0), (1, .int x1), (2, .int x2), (3, .int x3)] [] h :=
  lp_ind (P := fun (s_ : Nat × Int32 × Int32 × Int32 × hp_H) => wq p l e (mt_R (3) 0 0) s m args below meth c (MQ below (mt_Q G (some (.int o.1)) o.2) args s 0 0 (hp_A G)) G 6 0 0 7 [(0, .ref s_.1), (1, .int s_.2.1), (2, .int s_.2.2.1), (3, .int s_.2.2.2.1)] [] s_.2.2.2.2) (fun k s hk hf => w_X10_nearest_7 X  (fun a0 a1 a2 a3 a4 => k (a0, a1, a2, a3, a4)) (fun a0 a1 a2 a3 a4 hf => hk (a0, a1, a2, a3, a4) hf) s.1 s.2.1 s.2.2.1 s.2.2.2.1 s.2.2.2.2 hf) 100000 (x0, x1, x2, x3, h) hf
end Sf_X10_nearest
def f_X10_nearest (x0 : Nat) (h : hp_H) : Option (Int32 × hp_H) := gd h x0 10 (l_X10_nearest_7 x0 13 (-1) 0 h)
set_option maxRecDepth 20000 in
theorem c_X10_nearest (l : Launch) (x0 : Nat) (h : hp_H) (r : Int32 × hp_H) (hf : f_X10_nearest x0 h = some r) : cv l (3) yX10_nearest cX10_nearest 6 (some .int) 10 x0 [] h (some (.int r.1)) r.2 := by
  unfold f_X10_nearest at hf
  refine cv_of (lv := [(0, .ref x0)]) hf (by decide +kernel) (Nat.le_of_ble_eq_true rfl) rfl (fun hf p e s m args below meth c G X => ?_)
  refine wk_bipush X dX10_nearest_0 ib_13 ?_
  refine wk_istore_n (lv' := [(1, .int 13), (0, .ref x0)]) X dX10_nearest_2 (by decide) rfl ?_
  refine wk_iconst X dX10_nearest_3 ic_m1 ?_
  refine wk_istore_n (lv' := [(2, .int (-1)), (1, .int 13), (0, .ref x0)]) X dX10_nearest_4 (by decide) rfl ?_
  refine wk_iconst X dX10_nearest_5 ic_0 ?_
  refine wk_istore_n (lv' := [(3, .int 0), (2, .int (-1)), (1, .int 13), (0, .ref x0)]) X dX10_nearest_6 (by decide) rfl ?_
  exact wq_sub [3, 2, 1, 0] rfl (wl_X10_nearest_7 X _ _ _ _ _ hf)
section Sf_X10_forget
variable {p : Program} {l : Launch} {e : Env} {s : State} {m : MethodId} {args : Array Value} {below : List Frame} {meth : Method} {c : Code} {G : hp_G} {o : hp_H}
end Sf_X10_forget
def f_X10_forget (x0 : Nat) (h : hp_H) : Option (hp_H) := gd h x0 10 ((rd_R h x0 10 5).bind fun v1 => (rd_R h v1 8 2).bind fun v2 => (wr_I h v2 7 4 0).bind fun h3 => some h3)
set_option maxRecDepth 20000 in
theorem c_X10_forget (l : Launch) (x0 : Nat) (h : hp_H) (r : hp_H) (hf : f_X10_forget x0 h = some r) : cv l (1) yX10_forget cX10_forget 1 none 10 x0 [] h none r := by
  unfold f_X10_forget at hf
  refine cv_of (lv := [(0, .ref x0)]) hf (by decide +kernel) (Nat.le_of_ble_eq_true rfl) rfl (fun hf p e s m args below meth c G X => ?_)
  refine wk_aload_n X dX10_forget_0 0 rfl ?_
  refine wk_getR X dX10_forget_1 fo_X10_40 hf (fun v1 hf => ?_)
  refine wk_getR X dX10_forget_4 fo_X10_128 hf (fun v2 hf => ?_)
  refine wk_iconst X dX10_forget_7 ic_0 ?_
  refine wk_putI X dX10_forget_8 fo_X10_132 hf (fun h3 hf => ?_)
  exact wk_return X dX10_forget_11 hf
section Sf_X10_step
variable {p : Program} {l : Launch} {e : Env} {s : State} {m : MethodId} {args : Array Value} {below : List Frame} {meth : Method} {c : Code} {G : hp_G} {o : Int32 × hp_H}
def f_X10_step_61 (x1 : Int32) (h : hp_H) : Option (Int32 × hp_H) := some (x1, h)
set_option maxRecDepth 20000 in
theorem w_X10_step_61 (X : wx G p s m args meth c cX10_step 4 RX10 (some .int)) (x1 : Int32) (h : hp_H) (hf : f_X10_step_61 x1 h = some o) : wq p l e (mt_R (3) 0 0) s m args below meth c (MQ below (mt_Q G (some (.int o.1)) o.2) args s 0 0 (hp_A G)) G 4 0 0 61 [(1, .int x1)] [] h := by
  unfold f_X10_step_61 at hf
  refine wk_iload_n X dX10_step_61 0 rfl ?_
  exact wk_ireturn X dX10_step_62 hf
def f_X10_step_55 (k19 : Nat → Int32 → Int32 → Int32 → hp_H → Option (Int32 × hp_H)) (x0 : Nat) (x1 : Int32) (x2 : Int32) (x3 : Int32) (h : hp_H) : Option (Int32 × hp_H) := k19 x0 x1 x2 (x3 + 1) h
set_option maxRecDepth 20000 in
theorem w_X10_step_55 (X : wx G p s m args meth c cX10_step 4 RX10 (some .int)) (k19 : Nat → Int32 → Int32 → Int32 → hp_H → Option (Int32 × hp_H)) (hk19 : ∀ (x0 : Nat) (x1 : Int32) (x2 : Int32) (x3 : Int32) (h : hp_H), k19 x0 x1 x2 x3 h = some o → wq p l e (mt_R (3) 0 0) s m args below meth c (MQ below (mt_Q G (some (.int o.1)) o.2) args s 0 0 (hp_A G)) G 4 0 0 19 [(0, .ref x0), (1, .int x1), (2, .int x2), (3, .int x3)] [] h) (x0 : Nat) (x1 : Int32) (x2 : Int32) (x3 : Int32) (h : hp_H) (hf : f_X10_step_55 k19 x0 x1 x2 x3 h = some o) : wq p l e (mt_R (3) 0 0) s m args below meth c (MQ below (mt_Q G (some (.int o.1)) o.2) args s 0 0 (hp_A G)) G 4 0 0 55 [(0, .ref x0), (1, .int x1), (2, .int x2), (3, .int x3)] [] h := by
  unfold f_X10_step_55 at hf
  refine wk_iinc (lv' := [(3, .int (x3 + 1)), (0, .ref x0), (1, .int x1), (2, .int x2)]) X dX10_step_55 3 rfl ic_1 (by decide) rfl ?_
  refine wk_goto X 19 dX10_step_58 (by decide) ?_
  exact wq_sub [1, 2, 3, 0] rfl (hk19 _ _ _ _ _ hf)
def f_X10_step_19 (k19 : Nat → Int32 → Int32 → Int32 → hp_H → Option (Int32 × hp_H)) (x0 : Nat) (x1 : Int32) (x2 : Int32) (x3 : Int32) (h : hp_H) : Option (Int32 × hp_H) := (rd_R h x0 10 4).bind fun v1 => (f_X1_allMen v1 h).bind fun r2 => if r2.1 ≤ x3 then (f_X10_step_61 x1 r2.2) else ((f_J6_bitCount_0f7a4 x3 r2.2).bind fun r3 => (f_J6_bitCount_0f7a4 x1 r3.2).bind fun r4 => if r4.1 ≤ r3.1 then (f_X10_step_55 k19 x0 x1 x2 x3 r4.2) else ((rd_R r4.2 x0 10 8).bind fun v5 => (f_X3_treadsTogether v5 x3 r4.2).bind fun r6 => if r6.1 = x2 then (f_X10_step_55 k19 x0 x3 x2 x3 r6.2) else (f_X10_step_55 k19 x0 x1 x2 x3 r6.2)))
set_option maxRecDepth 20000 in
theorem w_X10_step_19 (X : wx G p s m args meth c cX10_step 4 RX10 (some .int)) (k19 : Nat → Int32 → Int32 → Int32 → hp_H → Option (Int32 × hp_H)) (hk19 : ∀ (x0 : Nat) (x1 : Int32) (x2 : Int32) (x3 : Int32) (h : hp_H), k19 x0 x1 x2 x3 h = some o → wq p l e (mt_R (3) 0 0) s m args below meth c (MQ below (mt_Q G (some (.int o.1)) o.2) args s 0 0 (hp_A G)) G 4 0 0 19 [(0, .ref x0), (1, .int x1), (2, .int x2), (3, .int x3)] [] h) (x0 : Nat) (x1 : Int32) (x2 : Int32) (x3 : Int32) (h : hp_H) (hf : f_X10_step_19 k19 x0 x1 x2 x3 h = some o) : wq p l e (mt_R (3) 0 0) s m args below meth c (MQ below (mt_Q G (some (.int o.1)) o.2) args s 0 0 (hp_A G)) G 4 0 0 19 [(0, .ref x0), (1, .int x1), (2, .int x2), (3, .int x3)] [] h := by
  unfold f_X10_step_19 at hf
  refine wk_iload_n X dX10_step_19 3 rfl ?_
  refine wk_aload_n X dX10_step_20 0 rfl ?_
  refine wk_getR X dX10_step_21 fo_X10_31 hf (fun v1 hf => ?_)
  refine wk_callVi X [] [.int x3] dX10_step_24 rfl vo_X10_253 rfl (by decide) (Nat.le_of_ble_eq_true rfl) hf (c_X1_allMen l _ _) (fun r2 hf => ?_)
  refine wk_icmp_ge X 61 dX10_step_27 (by decide) hf (fun hf => ?_) (fun hf => ?_)
  · exact wq_sub [1] rfl (w_X10_step_61 X _ _ hf)
  · refine wk_iload_n X dX10_step_30 3 rfl ?_
    refine wk_callSi X [.int x3] [] dX10_step_31 rfl vo_X10_262 rfl (by decide) (Nat.le_of_ble_eq_true rfl) hf (c_J6_bitCount_0f7a4 l _ _) (fun r3 hf => ?_)
    refine wk_iload_n X dX10_step_34 1 rfl ?_
    refine wk_callSi X [.int x1] [.int r3.1] dX10_step_35 rfl vo_X10_262 rfl (by decide) (Nat.le_of_ble_eq_true rfl) hf (c_J6_bitCount_0f7a4 l _ _) (fun r4 hf => ?_)
    refine wk_icmp_ge X 55 dX10_step_38 (by decide) hf (fun hf => ?_) (fun hf => ?_)
    · exact wq_sub [0, 1, 2, 3] rfl (w_X10_step_55 X k19 hk19 _ _ _ _ _ hf)
    · refine wk_aload_n X dX10_step_41 0 rfl ?_
      refine wk_getR X dX10_step_42 fo_X10_55 hf (fun v5 hf => ?_)
      refine wk_iload_n X dX10_step_45 3 rfl ?_
      refine wk_callVi X [.int x3] [] dX10_step_46 rfl vo_X10_335 rfl (by decide) (Nat.le_of_ble_eq_true rfl) hf (c_X3_treadsTogether l _ _ _) (fun r6 hf => ?_)
      refine wk_iload_n X dX10_step_49 2 rfl ?_
      refine wk_icmp_ne X 55 dX10_step_50 (by decide) hf (fun hf => ?_) (fun hf => ?_)
      · exact wq_sub [0, 1, 2, 3] rfl (w_X10_step_55 X k19 hk19 _ _ _ _ _ hf)
      · refine wk_iload_n X dX10_step_53 3 rfl ?_
        refine wk_istore_n (lv' := [(1, .int x3), (0, .ref x0), (2, .int x2), (3, .int x3)]) X dX10_step_54 (by decide) rfl ?_
        exact wq_sub [1, 0, 2, 3] rfl (w_X10_step_55 X k19 hk19 _ _ _ _ _ hf)
def l_X10_step_19 (x0 : Nat) (x1 : Int32) (x2 : Int32) (x3 : Int32) (h : hp_H) : Option (Int32 × hp_H) := lp (fun k (s : Nat × Int32 × Int32 × Int32 × hp_H) => f_X10_step_19  (fun a0 a1 a2 a3 a4 => k (a0, a1, a2, a3, a4)) s.1 s.2.1 s.2.2.1 s.2.2.2.1 s.2.2.2.2) 100000 (x0, x1, x2, x3, h)
theorem wl_X10_step_19 (X : wx G p s m args meth c cX10_step 4 RX10 (some .int)) (x0 : Nat) (x1 : Int32) (x2 : Int32) (x3 : Int32) (h : hp_H) (hf : l_X10_step_19 x0 x1 x2 x3 h = some o) : wq p l e (mt_R (3) 0 0) s m args below meth c (MQ below (mt_Q G (some (.int o.1)) o.2) args s 0 0 (hp_A G)) G 4 0 0 19 [(0, .ref x0), (1, .int x1), (2, .int x2), (3, .int x3)] [] h :=
  lp_ind (P := fun (s_ : Nat × Int32 × Int32 × Int32 × hp_H) => wq p l e (mt_R (3) 0 0) s m args below meth c (MQ below (mt_Q G (some (.int o.1)) o.2) args s 0 0 (hp_A G)) G 4 0 0 19 [(0, .ref s_.1), (1, .int s_.2.1), (2, .int s_.2.2.1), (3, .int s_.2.2.2.1)] [] s_.2.2.2.2) (fun k s hk hf => w_X10_step_19 X  (fun a0 a1 a2 a3 a4 => k (a0, a1, a2, a3, a4)) (fun a0 a1 a2 a3 a4 hf => hk (a0, a1, a2, a3, a4) hf) s.1 s.2.1 s.2.2.1 s.2.2.2.1 s.2.2.2.2 hf) 100000 (x0, x1, x2, x3, h) hf
end Sf_X10_step
def f_X10_step (x0 : Nat) (h : hp_H) : Option (Int32 × hp_H) := gd h x0 10 ((rd_R h x0 10 4).bind fun v1 => (f_X1_allMen v1 h).bind fun r2 => (rd_R r2.2 x0 10 8).bind fun v3 => (f_X3_treadsTogether v3 r2.1 r2.2).bind fun r4 => l_X10_step_19 x0 r2.1 r4.1 0 r4.2)
set_option maxRecDepth 20000 in
theorem c_X10_step (l : Launch) (x0 : Nat) (h : hp_H) (r : Int32 × hp_H) (hf : f_X10_step x0 h = some r) : cv l (3) yX10_step cX10_step 4 (some .int) 10 x0 [] h (some (.int r.1)) r.2 := by
  unfold f_X10_step at hf
  refine cv_of (lv := [(0, .ref x0)]) hf (by decide +kernel) (Nat.le_of_ble_eq_true rfl) rfl (fun hf p e s m args below meth c G X => ?_)
  refine wk_aload_n X dX10_step_0 0 rfl ?_
  refine wk_getR X dX10_step_1 fo_X10_31 hf (fun v1 hf => ?_)
  refine wk_callVi X [] [] dX10_step_4 rfl vo_X10_253 rfl (by decide) (Nat.le_of_ble_eq_true rfl) hf (c_X1_allMen l _ _) (fun r2 hf => ?_)
  refine wk_istore_n (lv' := [(1, .int r2.1), (0, .ref x0)]) X dX10_step_7 (by decide) rfl ?_
  refine wk_aload_n X dX10_step_8 1 rfl ?_
  refine wk_getR X dX10_step_9 fo_X10_55 hf (fun v3 hf => ?_)
  refine wk_iload_n X dX10_step_12 0 rfl ?_
  refine wk_callVi X [.int r2.1] [] dX10_step_13 rfl vo_X10_335 rfl (by decide) (Nat.le_of_ble_eq_true rfl) hf (c_X3_treadsTogether l _ _ _) (fun r4 hf => ?_)
  refine wk_istore_n (lv' := [(2, .int r4.1), (1, .int r2.1), (0, .ref x0)]) X dX10_step_16 (by decide) rfl ?_
  refine wk_iconst X dX10_step_17 ic_0 ?_
  refine wk_istore_n (lv' := [(3, .int 0), (2, .int r4.1), (1, .int r2.1), (0, .ref x0)]) X dX10_step_18 (by decide) rfl ?_
  exact wq_sub [3, 2, 1, 0] rfl (wl_X10_step_19 X _ _ _ _ _ hf)
section Sf_X10_swap
variable {p : Program} {l : Launch} {e : Env} {s : State} {m : MethodId} {args : Array Value} {below : List Frame} {meth : Method} {c : Code} {G : hp_G} {o : Int32 × hp_H}
def f_X10_swap_111 (x2 : Int32) (h : hp_H) : Option (Int32 × hp_H) := some (x2, h)
set_option maxRecDepth 20000 in
theorem w_X10_swap_111 (X : wx G p s m args meth c cX10_swap 6 RX10 (some .int)) (x2 : Int32) (h : hp_H) (hf : f_X10_swap_111 x2 h = some o) : wq p l e (mt_R (7) 0 0) s m args below meth c (MQ below (mt_Q G (some (.int o.1)) o.2) args s 0 0 (hp_A G)) G 6 0 0 111 [(2, .int x2)] [] h := by
  unfold f_X10_swap_111 at hf
  refine wk_iload_n X dX10_swap_111 0 rfl ?_
  exact wk_ireturn X dX10_swap_112 hf
def f_X10_swap_105 (k24 : Nat → Int32 → Int32 → Int32 → hp_H → Option (Int32 × hp_H)) (x0 : Nat) (x1 : Int32) (x2 : Int32) (x3 : Int32) (h : hp_H) : Option (Int32 × hp_H) := k24 x0 x1 x2 (x3 + 1) h
set_option maxRecDepth 20000 in
theorem w_X10_swap_105 (X : wx G p s m args meth c cX10_swap 6 RX10 (some .int)) (k24 : Nat → Int32 → Int32 → Int32 → hp_H → Option (Int32 × hp_H)) (hk24 : ∀ (x0 : Nat) (x1 : Int32) (x2 : Int32) (x3 : Int32) (h : hp_H), k24 x0 x1 x2 x3 h = some o → wq p l e (mt_R (7) 0 0) s m args below meth c (MQ below (mt_Q G (some (.int o.1)) o.2) args s 0 0 (hp_A G)) G 6 0 0 24 [(0, .ref x0), (1, .int x1), (2, .int x2), (3, .int x3)] [] h) (x0 : Nat) (x1 : Int32) (x2 : Int32) (x3 : Int32) (h : hp_H) (hf : f_X10_swap_105 k24 x0 x1 x2 x3 h = some o) : wq p l e (mt_R (7) 0 0) s m args below meth c (MQ below (mt_Q G (some (.int o.1)) o.2) args s 0 0 (hp_A G)) G 6 0 0 105 [(0, .ref x0), (1, .int x1), (2, .int x2), (3, .int x3)] [] h := by
  unfold f_X10_swap_105 at hf
  refine wk_iinc (lv' := [(3, .int (x3 + 1)), (0, .ref x0), (1, .int x1), (2, .int x2)]) X dX10_swap_105 3 rfl ic_1 (by decide) rfl ?_
  refine wk_goto X 24 dX10_swap_108 (by decide) ?_
  exact wq_sub [1, 2, 3, 0] rfl (hk24 _ _ _ _ _ hf)
def f_X10_swap_99 (k24 : Nat → Int32 → Int32 → Int32 → hp_H → Option (Int32 × hp_H)) (k40 : Nat → Int32 → Int32 → Int32 → Int32 → hp_H → Option (Int32 × hp_H)) (x0 : Nat) (x1 : Int32) (x2 : Int32) (x3 : Int32) (x4 : Int32) (h : hp_H) : Option (Int32 × hp_H) := k40 x0 x1 x2 x3 (x4 + 1) h
set_option maxRecDepth 20000 in
theorem w_X10_swap_99 (X : wx G p s m args meth c cX10_swap 6 RX10 (some .int)) (k24 : Nat → Int32 → Int32 → Int32 → hp_H → Option (Int32 × hp_H)) (hk24 : ∀ (x0 : Nat) (x1 : Int32) (x2 : Int32) (x3 : Int32) (h : hp_H), k24 x0 x1 x2 x3 h = some o → wq p l e (mt_R (7) 0 0) s m args below meth c (MQ below (mt_Q G (some (.int o.1)) o.2) args s 0 0 (hp_A G)) G 6 0 0 24 [(0, .ref x0), (1, .int x1), (2, .int x2), (3, .int x3)] [] h) (k40 : Nat → Int32 → Int32 → Int32 → Int32 → hp_H → Option (Int32 × hp_H)) (hk40 : ∀ (x0 : Nat) (x1 : Int32) (x2 : Int32) (x3 : Int32) (x4 : Int32) (h : hp_H), k40 x0 x1 x2 x3 x4 h = some o → wq p l e (mt_R (7) 0 0) s m args below meth c (MQ below (mt_Q G (some (.int o.1)) o.2) args s 0 0 (hp_A G)) G 6 0 0 40 [(0, .ref x0), (1, .int x1), (2, .int x2), (3, .int x3), (4, .int x4)] [] h) (x0 : Nat) (x1 : Int32) (x2 : Int32) (x3 : Int32) (x4 : Int32) (h : hp_H) (hf : f_X10_swap_99 k24 k40 x0 x1 x2 x3 x4 h = some o) : wq p l e (mt_R (7) 0 0) s m args below meth c (MQ below (mt_Q G (some (.int o.1)) o.2) args s 0 0 (hp_A G)) G 6 0 0 99 [(0, .ref x0), (1, .int x1), (2, .int x2), (3, .int x3), (4, .int x4)] [] h := by
  unfold f_X10_swap_99 at hf
  refine wk_iinc (lv' := [(4, .int (x4 + 1)), (0, .ref x0), (1, .int x1), (2, .int x2), (3, .int x3)]) X dX10_swap_99 4 rfl ic_1 (by decide) rfl ?_
  refine wk_goto X 40 dX10_swap_102 (by decide) ?_
  exact wq_sub [1, 2, 3, 4, 0] rfl (hk40 _ _ _ _ _ _ hf)
def f_X10_swap_40 (k24 : Nat → Int32 → Int32 → Int32 → hp_H → Option (Int32 × hp_H)) (k40 : Nat → Int32 → Int32 → Int32 → Int32 → hp_H → Option (Int32 × hp_H)) (x0 : Nat) (x1 : Int32) (x2 : Int32) (x3 : Int32) (x4 : Int32) (h : hp_H) : Option (Int32 × hp_H) := (rd_R h x0 10 4).bind fun v1 => (rd_I h v1 1 2).bind fun v2 => if v2 ≤ x4 then (f_X10_swap_105 k24 x0 x1 x2 x3 h) else ((rd_R h x0 10 9).bind fun v3 => (f_X3_exchange v3 x3 x4 h).bind fun r4 => (rd_R r4 x0 10 9).bind fun v5 => (f_X3_rightRows v5 0 r4).bind fun r6 => (rd_R r6.2 x0 10 9).bind fun v7 => (f_X3_exchange v7 x3 x4 r6.2).bind fun r8 => if r6.1 ≤ x1 then (f_X10_swap_99 k24 k40 x0 x1 x2 x3 x4 r8) else (f_X10_swap_99 k24 k40 x0 r6.1 ((10 * x3) + x4) x3 x4 r8))
set_option maxRecDepth 20000 in
theorem w_X10_swap_40 (X : wx G p s m args meth c cX10_swap 6 RX10 (some .int)) (k24 : Nat → Int32 → Int32 → Int32 → hp_H → Option (Int32 × hp_H)) (hk24 : ∀ (x0 : Nat) (x1 : Int32) (x2 : Int32) (x3 : Int32) (h : hp_H), k24 x0 x1 x2 x3 h = some o → wq p l e (mt_R (7) 0 0) s m args below meth c (MQ below (mt_Q G (some (.int o.1)) o.2) args s 0 0 (hp_A G)) G 6 0 0 24 [(0, .ref x0), (1, .int x1), (2, .int x2), (3, .int x3)] [] h) (k40 : Nat → Int32 → Int32 → Int32 → Int32 → hp_H → Option (Int32 × hp_H)) (hk40 : ∀ (x0 : Nat) (x1 : Int32) (x2 : Int32) (x3 : Int32) (x4 : Int32) (h : hp_H), k40 x0 x1 x2 x3 x4 h = some o → wq p l e (mt_R (7) 0 0) s m args below meth c (MQ below (mt_Q G (some (.int o.1)) o.2) args s 0 0 (hp_A G)) G 6 0 0 40 [(0, .ref x0), (1, .int x1), (2, .int x2), (3, .int x3), (4, .int x4)] [] h) (x0 : Nat) (x1 : Int32) (x2 : Int32) (x3 : Int32) (x4 : Int32) (h : hp_H) (hf : f_X10_swap_40 k24 k40 x0 x1 x2 x3 x4 h = some o) : wq p l e (mt_R (7) 0 0) s m args below meth c (MQ below (mt_Q G (some (.int o.1)) o.2) args s 0 0 (hp_A G)) G 6 0 0 40 [(0, .ref x0), (1, .int x1), (2, .int x2), (3, .int x3), (4, .int x4)] [] h := by
  unfold f_X10_swap_40 at hf
  refine wk_iload X dX10_swap_40 4 rfl ?_
  refine wk_aload_n X dX10_swap_42 0 rfl ?_
  refine wk_getR X dX10_swap_43 fo_X10_31 hf (fun v1 hf => ?_)
  refine wk_getI X dX10_swap_46 fo_X10_141 hf (fun v2 hf => ?_)
  refine wk_icmp_ge X 105 dX10_swap_49 (by decide) hf (fun hf => ?_) (fun hf => ?_)
  · exact wq_sub [0, 1, 2, 3] rfl (w_X10_swap_105 X k24 hk24 _ _ _ _ _ hf)
  · refine wk_aload_n X dX10_swap_52 0 rfl ?_
    refine wk_getR X dX10_swap_53 fo_X10_59 hf (fun v3 hf => ?_)
    refine wk_iload_n X dX10_swap_56 3 rfl ?_
    refine wk_iload X dX10_swap_57 4 rfl ?_
    refine wk_callVv X [.int x3, .int x4] [] dX10_swap_59 rfl vo_X10_227 rfl (by decide) (Nat.le_of_ble_eq_true rfl) hf (c_X3_exchange l _ _ _ _) (fun r4 hf => ?_)
    refine wk_aload_n X dX10_swap_62 0 rfl ?_
    refine wk_getR X dX10_swap_63 fo_X10_59 hf (fun v5 hf => ?_)
    refine wk_iconst X dX10_swap_66 ic_0 ?_
    refine wk_callVi X [.int 0] [] dX10_swap_67 rfl vo_X10_341 rfl (by decide) (Nat.le_of_ble_eq_true rfl) hf (c_X3_rightRows l _ _ _) (fun r6 hf => ?_)
    refine wk_istore (lv' := [(5, .int r6.1), (0, .ref x0), (1, .int x1), (2, .int x2), (3, .int x3), (4, .int x4)]) X dX10_swap_70 (by decide) rfl ?_
    refine wk_aload_n X dX10_swap_72 1 rfl ?_
    refine wk_getR X dX10_swap_73 fo_X10_59 hf (fun v7 hf => ?_)
    refine wk_iload_n X dX10_swap_76 4 rfl ?_
    refine wk_iload X dX10_swap_77 5 rfl ?_
    refine wk_callVv X [.int x3, .int x4] [] dX10_swap_79 rfl vo_X10_227 rfl (by decide) (Nat.le_of_ble_eq_true rfl) hf (c_X3_exchange l _ _ _ _) (fun r8 hf => ?_)
    refine wk_iload X dX10_swap_82 0 rfl ?_
    refine wk_iload_n X dX10_swap_84 2 rfl ?_
    refine wk_icmp_le X 99 dX10_swap_85 (by decide) hf (fun hf => ?_) (fun hf => ?_)
    · exact wq_sub [1, 2, 3, 4, 5] rfl (w_X10_swap_99 X k24 hk24 k40 hk40 _ _ _ _ _ _ hf)
    · refine wk_iload X dX10_swap_88 0 rfl ?_
      refine wk_istore_n (lv' := [(1, .int r6.1), (5, .int r6.1), (0, .ref x0), (2, .int x2), (3, .int x3), (4, .int x4)]) X dX10_swap_90 (by decide) rfl ?_
      refine wk_bipush X dX10_swap_91 ib_10 ?_
      refine wk_iload_n X dX10_swap_93 4 rfl ?_
      refine wk_imul X dX10_swap_94 ?_
      refine wk_iload X dX10_swap_95 5 rfl ?_
      refine wk_iadd X dX10_swap_97 ?_
      refine wk_istore_n (lv' := [(2, .int ((10 * x3) + x4)), (1, .int r6.1), (5, .int r6.1), (0, .ref x0), (3, .int x3), (4, .int x4)]) X dX10_swap_98 (by decide) rfl ?_
      exact wq_sub [3, 1, 0, 4, 5] rfl (w_X10_swap_99 X k24 hk24 k40 hk40 _ _ _ _ _ _ hf)
def l_X10_swap_40 (k24 : Nat → Int32 → Int32 → Int32 → hp_H → Option (Int32 × hp_H)) (x0 : Nat) (x1 : Int32) (x2 : Int32) (x3 : Int32) (x4 : Int32) (h : hp_H) : Option (Int32 × hp_H) := lp (fun k (s : Nat × Int32 × Int32 × Int32 × Int32 × hp_H) => f_X10_swap_40 k24 (fun a0 a1 a2 a3 a4 a5 => k (a0, a1, a2, a3, a4, a5)) s.1 s.2.1 s.2.2.1 s.2.2.2.1 s.2.2.2.2.1 s.2.2.2.2.2) 100000 (x0, x1, x2, x3, x4, h)
theorem wl_X10_swap_40 (X : wx G p s m args meth c cX10_swap 6 RX10 (some .int)) (k24 : Nat → Int32 → Int32 → Int32 → hp_H → Option (Int32 × hp_H)) (hk24 : ∀ (x0 : Nat) (x1 : Int32) (x2 : Int32) (x3 : Int32) (h : hp_H), k24 x0 x1 x2 x3 h = some o → wq p l e (mt_R (7) 0 0) s m args below meth c (MQ below (mt_Q G (some (.int o.1)) o.2) args s 0 0 (hp_A G)) G 6 0 0 24 [(0, .ref x0), (1, .int x1), (2, .int x2), (3, .int x3)] [] h) (x0 : Nat) (x1 : Int32) (x2 : Int32) (x3 : Int32) (x4 : Int32) (h : hp_H) (hf : l_X10_swap_40 k24 x0 x1 x2 x3 x4 h = some o) : wq p l e (mt_R (7) 0 0) s m args below meth c (MQ below (mt_Q G (some (.int o.1)) o.2) args s 0 0 (hp_A G)) G 6 0 0 40 [(0, .ref x0), (1, .int x1), (2, .int x2), (3, .int x3), (4, .int x4)] [] h :=
  lp_ind (P := fun (s_ : Nat × Int32 × Int32 × Int32 × Int32 × hp_H) => wq p l e (mt_R (7) 0 0) s m args below meth c (MQ below (mt_Q G (some (.int o.1)) o.2) args s 0 0 (hp_A G)) G 6 0 0 40 [(0, .ref s_.1), (1, .int s_.2.1), (2, .int s_.2.2.1), (3, .int s_.2.2.2.1), (4, .int s_.2.2.2.2.1)] [] s_.2.2.2.2.2) (fun k s hk hf => w_X10_swap_40 X k24 hk24 (fun a0 a1 a2 a3 a4 a5 => k (a0, a1, a2, a3, a4, a5)) (fun a0 a1 a2 a3 a4 a5 hf => hk (a0, a1, a2, a3, a4, a5) hf) s.1 s.2.1 s.2.2.1 s.2.2.2.1 s.2.2.2.2.1 s.2.2.2.2.2 hf) 100000 (x0, x1, x2, x3, x4, h) hf
def f_X10_swap_24 (k24 : Nat → Int32 → Int32 → Int32 → hp_H → Option (Int32 × hp_H)) (x0 : Nat) (x1 : Int32) (x2 : Int32) (x3 : Int32) (h : hp_H) : Option (Int32 × hp_H) := (rd_R h x0 10 4).bind fun v1 => (rd_I h v1 1 2).bind fun v2 => if v2 ≤ x3 then (f_X10_swap_111 x2 h) else (l_X10_swap_40 k24 x0 x1 x2 x3 (x3 + 1) h)
set_option maxRecDepth 20000 in
theorem w_X10_swap_24 (X : wx G p s m args meth c cX10_swap 6 RX10 (some .int)) (k24 : Nat → Int32 → Int32 → Int32 → hp_H → Option (Int32 × hp_H)) (hk24 : ∀ (x0 : Nat) (x1 : Int32) (x2 : Int32) (x3 : Int32) (h : hp_H), k24 x0 x1 x2 x3 h = some o → wq p l e (mt_R (7) 0 0) s m args below meth c (MQ below (mt_Q G (some (.int o.1)) o.2) args s 0 0 (hp_A G)) G 6 0 0 24 [(0, .ref x0), (1, .int x1), (2, .int x2), (3, .int x3)] [] h) (x0 : Nat) (x1 : Int32) (x2 : Int32) (x3 : Int32) (h : hp_H) (hf : f_X10_swap_24 k24 x0 x1 x2 x3 h = some o) : wq p l e (mt_R (7) 0 0) s m args below meth c (MQ below (mt_Q G (some (.int o.1)) o.2) args s 0 0 (hp_A G)) G 6 0 0 24 [(0, .ref x0), (1, .int x1), (2, .int x2), (3, .int x3)] [] h := by
  unfold f_X10_swap_24 at hf
  refine wk_iload_n X dX10_swap_24 3 rfl ?_
  refine wk_aload_n X dX10_swap_25 0 rfl ?_
  refine wk_getR X dX10_swap_26 fo_X10_31 hf (fun v1 hf => ?_)
  refine wk_getI X dX10_swap_29 fo_X10_141 hf (fun v2 hf => ?_)
  refine wk_icmp_ge X 111 dX10_swap_32 (by decide) hf (fun hf => ?_) (fun hf => ?_)
  · exact wq_sub [2] rfl (w_X10_swap_111 X _ _ hf)
  · refine wk_iload_n X dX10_swap_35 3 rfl ?_
    refine wk_iconst X dX10_swap_36 ic_1 ?_
    refine wk_iadd X dX10_swap_37 ?_
    refine wk_istore (lv' := [(4, .int (x3 + 1)), (0, .ref x0), (1, .int x1), (2, .int x2), (3, .int x3)]) X dX10_swap_38 (by decide) rfl ?_
    exact wq_sub [1, 2, 3, 4, 0] rfl (wl_X10_swap_40 X k24 hk24 _ _ _ _ _ _ hf)
def l_X10_swap_24 (x0 : Nat) (x1 : Int32) (x2 : Int32) (x3 : Int32) (h : hp_H) : Option (Int32 × hp_H) := lp (fun k (s : Nat × Int32 × Int32 × Int32 × hp_H) => f_X10_swap_24  (fun a0 a1 a2 a3 a4 => k (a0, a1, a2, a3, a4)) s.1 s.2.1 s.2.2.1 s.2.2.2.1 s.2.2.2.2) 100000 (x0, x1, x2, x3, h)
theorem wl_X10_swap_24 (X : wx G p s m args meth c cX10_swap 6 RX10 (some .int)) (x0 : Nat) (x1 : Int32) (x2 : Int32) (x3 : Int32) (h : hp_H) (hf : l_X10_swap_24 x0 x1 x2 x3 h = some o) : wq p l e (mt_R (7) 0 0) s m args below meth c (MQ below (mt_Q G (some (.int o.1)) o.2) args s 0 0 (hp_A G)) G 6 0 0 24 [(0, .ref x0), (1, .int x1), (2, .int x2), (3, .int x3)] [] h :=
  lp_ind (P := fun (s_ : Nat × Int32 × Int32 × Int32 × hp_H) => wq p l e (mt_R (7) 0 0) s m args below meth c (MQ below (mt_Q G (some (.int o.1)) o.2) args s 0 0 (hp_A G)) G 6 0 0 24 [(0, .ref s_.1), (1, .int s_.2.1), (2, .int s_.2.2.1), (3, .int s_.2.2.2.1)] [] s_.2.2.2.2) (fun k s hk hf => w_X10_swap_24 X  (fun a0 a1 a2 a3 a4 => k (a0, a1, a2, a3, a4)) (fun a0 a1 a2 a3 a4 hf => hk (a0, a1, a2, a3, a4) hf) s.1 s.2.1 s.2.2.1 s.2.2.2.1 s.2.2.2.2 hf) 100000 (x0, x1, x2, x3, h) hf
end Sf_X10_swap
def f_X10_swap (x0 : Nat) (h : hp_H) : Option (Int32 × hp_H) := gd h x0 10 ((rd_R h x0 10 8).bind fun v1 => (f_X3_rightRows v1 0 h).bind fun r2 => (rd_R r2.2 x0 10 9).bind fun v3 => (rd_R r2.2 x0 10 8).bind fun v4 => (f_X3_copyFrom v3 v4 r2.2).bind fun r5 => l_X10_swap_24 x0 r2.1 (-1) 0 r5)
set_option maxRecDepth 20000 in
theorem c_X10_swap (l : Launch) (x0 : Nat) (h : hp_H) (r : Int32 × hp_H) (hf : f_X10_swap x0 h = some r) : cv l (7) yX10_swap cX10_swap 6 (some .int) 10 x0 [] h (some (.int r.1)) r.2 := by
  unfold f_X10_swap at hf
  refine cv_of (lv := [(0, .ref x0)]) hf (by decide +kernel) (Nat.le_of_ble_eq_true rfl) rfl (fun hf p e s m args below meth c G X => ?_)
  refine wk_aload_n X dX10_swap_0 0 rfl ?_
  refine wk_getR X dX10_swap_1 fo_X10_55 hf (fun v1 hf => ?_)
  refine wk_iconst X dX10_swap_4 ic_0 ?_
  refine wk_callVi X [.int 0] [] dX10_swap_5 rfl vo_X10_341 rfl (by decide) (Nat.le_of_ble_eq_true rfl) hf (c_X3_rightRows l _ _ _) (fun r2 hf => ?_)
  refine wk_istore_n (lv' := [(1, .int r2.1), (0, .ref x0)]) X dX10_swap_8 (by decide) rfl ?_
  refine wk_iconst X dX10_swap_9 ic_m1 ?_
  refine wk_istore_n (lv' := [(2, .int (-1)), (1, .int r2.1), (0, .ref x0)]) X dX10_swap_10 (by decide) rfl ?_
  refine wk_aload_n X dX10_swap_11 2 rfl ?_
  refine wk_getR X dX10_swap_12 fo_X10_59 hf (fun v3 hf => ?_)
  refine wk_aload_n X dX10_swap_15 2 rfl ?_
  refine wk_getR X dX10_swap_16 fo_X10_55 hf (fun v4 hf => ?_)
  refine wk_callVv X [.ref v4] [] dX10_swap_19 rfl vo_X10_116 rfl (by decide) (Nat.le_of_ble_eq_true rfl) hf (c_X3_copyFrom l _ _ _) (fun r5 hf => ?_)
  refine wk_iconst X dX10_swap_22 ic_0 ?_
  refine wk_istore_n (lv' := [(3, .int 0), (2, .int (-1)), (1, .int r2.1), (0, .ref x0)]) X dX10_swap_23 (by decide) rfl ?_
  exact wq_sub [3, 2, 1, 0] rfl (wl_X10_swap_24 X _ _ _ _ _ hf)
section Sf_X10_loudest
variable {p : Program} {l : Launch} {e : Env} {s : State} {m : MethodId} {args : Array Value} {below : List Frame} {meth : Method} {c : Code} {G : hp_G} {o : Int32 × hp_H}
def f_X10_loudest_44 (x2 : Int32) (h : hp_H) : Option (Int32 × hp_H) := some (x2, h)
set_option maxRecDepth 20000 in
theorem w_X10_loudest_44 (X : wx G p s m args meth c cX10_loudest 5 RX10 (some .int)) (x2 : Int32) (h : hp_H) (hf : f_X10_loudest_44 x2 h = some o) : wq p l e (mt_R (3) 0 0) s m args below meth c (MQ below (mt_Q G (some (.int o.1)) o.2) args s 0 0 (hp_A G)) G 5 0 0 44 [(2, .int x2)] [] h := by
  unfold f_X10_loudest_44 at hf
  refine wk_iload_n X dX10_loudest_44 0 rfl ?_
  exact wk_ireturn X dX10_loudest_45 hf
def f_X10_loudest_38 (k6 : Nat → Int32 → Int32 → Int32 → hp_H → Option (Int32 × hp_H)) (x0 : Nat) (x1 : Int32) (x2 : Int32) (x3 : Int32) (h : hp_H) : Option (Int32 × hp_H) := k6 x0 x1 x2 (x3 + 1) h
set_option maxRecDepth 20000 in
theorem w_X10_loudest_38 (X : wx G p s m args meth c cX10_loudest 5 RX10 (some .int)) (k6 : Nat → Int32 → Int32 → Int32 → hp_H → Option (Int32 × hp_H)) (hk6 : ∀ (x0 : Nat) (x1 : Int32) (x2 : Int32) (x3 : Int32) (h : hp_H), k6 x0 x1 x2 x3 h = some o → wq p l e (mt_R (3) 0 0) s m args below meth c (MQ below (mt_Q G (some (.int o.1)) o.2) args s 0 0 (hp_A G)) G 5 0 0 6 [(0, .ref x0), (1, .int x1), (2, .int x2), (3, .int x3)] [] h) (x0 : Nat) (x1 : Int32) (x2 : Int32) (x3 : Int32) (h : hp_H) (hf : f_X10_loudest_38 k6 x0 x1 x2 x3 h = some o) : wq p l e (mt_R (3) 0 0) s m args below meth c (MQ below (mt_Q G (some (.int o.1)) o.2) args s 0 0 (hp_A G)) G 5 0 0 38 [(0, .ref x0), (1, .int x1), (2, .int x2), (3, .int x3)] [] h := by
  unfold f_X10_loudest_38 at hf
  refine wk_iinc (lv' := [(3, .int (x3 + 1)), (0, .ref x0), (1, .int x1), (2, .int x2)]) X dX10_loudest_38 3 rfl ic_1 (by decide) rfl ?_
  refine wk_goto X 6 dX10_loudest_41 (by decide) ?_
  exact wq_sub [1, 2, 3, 0] rfl (hk6 _ _ _ _ _ hf)
def f_X10_loudest_6 (k6 : Nat → Int32 → Int32 → Int32 → hp_H → Option (Int32 × hp_H)) (x0 : Nat) (x1 : Int32) (x2 : Int32) (x3 : Int32) (h : hp_H) : Option (Int32 × hp_H) := (rd_R h x0 10 4).bind fun v1 => (rd_I h v1 1 2).bind fun v2 => if v2 ≤ x3 then (f_X10_loudest_44 x2 h) else ((rd_R h x0 10 8).bind fun v3 => (f_X3_loudTogether v3 x3 h).bind fun r4 => if r4.1 ≤ x1 then (f_X10_loudest_38 k6 x0 x1 x2 x3 r4.2) else (f_X10_loudest_38 k6 x0 r4.1 x3 x3 r4.2))
set_option maxRecDepth 20000 in
theorem w_X10_loudest_6 (X : wx G p s m args meth c cX10_loudest 5 RX10 (some .int)) (k6 : Nat → Int32 → Int32 → Int32 → hp_H → Option (Int32 × hp_H)) (hk6 : ∀ (x0 : Nat) (x1 : Int32) (x2 : Int32) (x3 : Int32) (h : hp_H), k6 x0 x1 x2 x3 h = some o → wq p l e (mt_R (3) 0 0) s m args below meth c (MQ below (mt_Q G (some (.int o.1)) o.2) args s 0 0 (hp_A G)) G 5 0 0 6 [(0, .ref x0), (1, .int x1), (2, .int x2), (3, .int x3)] [] h) (x0 : Nat) (x1 : Int32) (x2 : Int32) (x3 : Int32) (h : hp_H) (hf : f_X10_loudest_6 k6 x0 x1 x2 x3 h = some o) : wq p l e (mt_R (3) 0 0) s m args below meth c (MQ below (mt_Q G (some (.int o.1)) o.2) args s 0 0 (hp_A G)) G 5 0 0 6 [(0, .ref x0), (1, .int x1), (2, .int x2), (3, .int x3)] [] h := by
  unfold f_X10_loudest_6 at hf
  refine wk_iload_n X dX10_loudest_6 3 rfl ?_
  refine wk_aload_n X dX10_loudest_7 0 rfl ?_
  refine wk_getR X dX10_loudest_8 fo_X10_31 hf (fun v1 hf => ?_)
  refine wk_getI X dX10_loudest_11 fo_X10_141 hf (fun v2 hf => ?_)
  refine wk_icmp_ge X 44 dX10_loudest_14 (by decide) hf (fun hf => ?_) (fun hf => ?_)
  · exact wq_sub [2] rfl (w_X10_loudest_44 X _ _ hf)
  · refine wk_aload_n X dX10_loudest_17 0 rfl ?_
    refine wk_getR X dX10_loudest_18 fo_X10_55 hf (fun v3 hf => ?_)
    refine wk_iload_n X dX10_loudest_21 3 rfl ?_
    refine wk_callVi X [.int x3] [] dX10_loudest_22 rfl vo_X10_350 rfl (by decide) (Nat.le_of_ble_eq_true rfl) hf (c_X3_loudTogether l _ _ _) (fun r4 hf => ?_)
    refine wk_istore (lv' := [(4, .int r4.1), (0, .ref x0), (1, .int x1), (2, .int x2), (3, .int x3)]) X dX10_loudest_25 (by decide) rfl ?_
    refine wk_iload X dX10_loudest_27 0 rfl ?_
    refine wk_iload_n X dX10_loudest_29 2 rfl ?_
    refine wk_icmp_le X 38 dX10_loudest_30 (by decide) hf (fun hf => ?_) (fun hf => ?_)
    · exact wq_sub [1, 2, 3, 4] rfl (w_X10_loudest_38 X k6 hk6 _ _ _ _ _ hf)
    · refine wk_iload X dX10_loudest_33 0 rfl ?_
      refine wk_istore_n (lv' := [(1, .int r4.1), (4, .int r4.1), (0, .ref x0), (2, .int x2), (3, .int x3)]) X dX10_loudest_35 (by decide) rfl ?_
      refine wk_iload_n X dX10_loudest_36 4 rfl ?_
      refine wk_istore_n (lv' := [(2, .int x3), (1, .int r4.1), (4, .int r4.1), (0, .ref x0), (3, .int x3)]) X dX10_loudest_37 (by decide) rfl ?_
      exact wq_sub [3, 1, 0, 4] rfl (w_X10_loudest_38 X k6 hk6 _ _ _ _ _ hf)
def l_X10_loudest_6 (x0 : Nat) (x1 : Int32) (x2 : Int32) (x3 : Int32) (h : hp_H) : Option (Int32 × hp_H) := lp (fun k (s : Nat × Int32 × Int32 × Int32 × hp_H) => f_X10_loudest_6  (fun a0 a1 a2 a3 a4 => k (a0, a1, a2, a3, a4)) s.1 s.2.1 s.2.2.1 s.2.2.2.1 s.2.2.2.2) 100000 (x0, x1, x2, x3, h)
theorem wl_X10_loudest_6 (X : wx G p s m args meth c cX10_loudest 5 RX10 (some .int)) (x0 : Nat) (x1 : Int32) (x2 : Int32) (x3 : Int32) (h : hp_H) (hf : l_X10_loudest_6 x0 x1 x2 x3 h = some o) : wq p l e (mt_R (3) 0 0) s m args below meth c (MQ below (mt_Q G (some (.int o.1)) o.2) args s 0 0 (hp_A G)) G 5 0 0 6 [(0, .ref x0), (1, .int x1), (2, .int x2), (3, .int x3)] [] h :=
  lp_ind (P := fun (s_ : Nat × Int32 × Int32 × Int32 × hp_H) => wq p l e (mt_R (3) 0 0) s m args below meth c (MQ below (mt_Q G (some (.int o.1)) o.2) args s 0 0 (hp_A G)) G 5 0 0 6 [(0, .ref s_.1), (1, .int s_.2.1), (2, .int s_.2.2.1), (3, .int s_.2.2.2.1)] [] s_.2.2.2.2) (fun k s hk hf => w_X10_loudest_6 X  (fun a0 a1 a2 a3 a4 => k (a0, a1, a2, a3, a4)) (fun a0 a1 a2 a3 a4 hf => hk (a0, a1, a2, a3, a4) hf) s.1 s.2.1 s.2.2.1 s.2.2.2.1 s.2.2.2.2 hf) 100000 (x0, x1, x2, x3, h) hf
end Sf_X10_loudest
def f_X10_loudest (x0 : Nat) (h : hp_H) : Option (Int32 × hp_H) := gd h x0 10 (l_X10_loudest_6 x0 (-1) (-1) 0 h)
set_option maxRecDepth 20000 in
theorem c_X10_loudest (l : Launch) (x0 : Nat) (h : hp_H) (r : Int32 × hp_H) (hf : f_X10_loudest x0 h = some r) : cv l (3) yX10_loudest cX10_loudest 5 (some .int) 10 x0 [] h (some (.int r.1)) r.2 := by
  unfold f_X10_loudest at hf
  refine cv_of (lv := [(0, .ref x0)]) hf (by decide +kernel) (Nat.le_of_ble_eq_true rfl) rfl (fun hf p e s m args below meth c G X => ?_)
  refine wk_iconst X dX10_loudest_0 ic_m1 ?_
  refine wk_istore_n (lv' := [(1, .int (-1)), (0, .ref x0)]) X dX10_loudest_1 (by decide) rfl ?_
  refine wk_iconst X dX10_loudest_2 ic_m1 ?_
  refine wk_istore_n (lv' := [(2, .int (-1)), (1, .int (-1)), (0, .ref x0)]) X dX10_loudest_3 (by decide) rfl ?_
  refine wk_iconst X dX10_loudest_4 ic_0 ?_
  refine wk_istore_n (lv' := [(3, .int 0), (2, .int (-1)), (1, .int (-1)), (0, .ref x0)]) X dX10_loudest_5 (by decide) rfl ?_
  exact wq_sub [3, 2, 1, 0] rfl (wl_X10_loudest_6 X _ _ _ _ _ hf)
section Sf_X10_rarest
variable {p : Program} {l : Launch} {e : Env} {s : State} {m : MethodId} {args : Array Value} {below : List Frame} {meth : Method} {c : Code} {G : hp_G} {o : Int32 × hp_H}
def f_X10_rarest_51 (x1 : Int32) (h : hp_H) : Option (Int32 × hp_H) := some (x1, h)
set_option maxRecDepth 20000 in
theorem w_X10_rarest_51 (X : wx G p s m args meth c cX10_rarest 5 RX10 (some .int)) (x1 : Int32) (h : hp_H) (hf : f_X10_rarest_51 x1 h = some o) : wq p l e (mt_R (3) 0 0) s m args below meth c (MQ below (mt_Q G (some (.int o.1)) o.2) args s 0 0 (hp_A G)) G 5 0 0 51 [(1, .int x1)] [] h := by
  unfold f_X10_rarest_51 at hf
  refine wk_iload_n X dX10_rarest_51 0 rfl ?_
  exact wk_ireturn X dX10_rarest_52 hf
def f_X10_rarest_45 (k13 : Nat → Int32 → Int32 → Int32 → hp_H → Option (Int32 × hp_H)) (x0 : Nat) (x1 : Int32) (x2 : Int32) (x3 : Int32) (h : hp_H) : Option (Int32 × hp_H) := k13 x0 x1 x2 (x3 + 1) h
set_option maxRecDepth 20000 in
theorem w_X10_rarest_45 (X : wx G p s m args meth c cX10_rarest 5 RX10 (some .int)) (k13 : Nat → Int32 → Int32 → Int32 → hp_H → Option (Int32 × hp_H)) (hk13 : ∀ (x0 : Nat) (x1 : Int32) (x2 : Int32) (x3 : Int32) (h : hp_H), k13 x0 x1 x2 x3 h = some o → wq p l e (mt_R (3) 0 0) s m args below meth c (MQ below (mt_Q G (some (.int o.1)) o.2) args s 0 0 (hp_A G)) G 5 0 0 13 [(0, .ref x0), (1, .int x1), (2, .int x2), (3, .int x3)] [] h) (x0 : Nat) (x1 : Int32) (x2 : Int32) (x3 : Int32) (h : hp_H) (hf : f_X10_rarest_45 k13 x0 x1 x2 x3 h = some o) : wq p l e (mt_R (3) 0 0) s m args below meth c (MQ below (mt_Q G (some (.int o.1)) o.2) args s 0 0 (hp_A G)) G 5 0 0 45 [(0, .ref x0), (1, .int x1), (2, .int x2), (3, .int x3)] [] h := by
  unfold f_X10_rarest_45 at hf
  refine wk_iinc (lv' := [(3, .int (x3 + 1)), (0, .ref x0), (1, .int x1), (2, .int x2)]) X dX10_rarest_45 3 rfl ic_1 (by decide) rfl ?_
  refine wk_goto X 13 dX10_rarest_48 (by decide) ?_
  exact wq_sub [1, 2, 3, 0] rfl (hk13 _ _ _ _ _ hf)
def f_X10_rarest_13 (k13 : Nat → Int32 → Int32 → Int32 → hp_H → Option (Int32 × hp_H)) (x0 : Nat) (x1 : Int32) (x2 : Int32) (x3 : Int32) (h : hp_H) : Option (Int32 × hp_H) := (rd_R h x0 10 4).bind fun v1 => (rd_I h v1 1 0).bind fun v2 => if v2 ≤ x3 then (f_X10_rarest_51 x1 h) else ((rd_R h x0 10 8).bind fun v3 => (f_X3_menWithBeat v3 x3 h).bind fun r4 => if x2 ≤ r4.1 then (f_X10_rarest_45 k13 x0 x1 x2 x3 r4.2) else (f_X10_rarest_45 k13 x0 x3 r4.1 x3 r4.2))
set_option maxRecDepth 20000 in
theorem w_X10_rarest_13 (X : wx G p s m args meth c cX10_rarest 5 RX10 (some .int)) (k13 : Nat → Int32 → Int32 → Int32 → hp_H → Option (Int32 × hp_H)) (hk13 : ∀ (x0 : Nat) (x1 : Int32) (x2 : Int32) (x3 : Int32) (h : hp_H), k13 x0 x1 x2 x3 h = some o → wq p l e (mt_R (3) 0 0) s m args below meth c (MQ below (mt_Q G (some (.int o.1)) o.2) args s 0 0 (hp_A G)) G 5 0 0 13 [(0, .ref x0), (1, .int x1), (2, .int x2), (3, .int x3)] [] h) (x0 : Nat) (x1 : Int32) (x2 : Int32) (x3 : Int32) (h : hp_H) (hf : f_X10_rarest_13 k13 x0 x1 x2 x3 h = some o) : wq p l e (mt_R (3) 0 0) s m args below meth c (MQ below (mt_Q G (some (.int o.1)) o.2) args s 0 0 (hp_A G)) G 5 0 0 13 [(0, .ref x0), (1, .int x1), (2, .int x2), (3, .int x3)] [] h := by
  unfold f_X10_rarest_13 at hf
  refine wk_iload_n X dX10_rarest_13 3 rfl ?_
  refine wk_aload_n X dX10_rarest_14 0 rfl ?_
  refine wk_getR X dX10_rarest_15 fo_X10_31 hf (fun v1 hf => ?_)
  refine wk_getI X dX10_rarest_18 fo_X10_135 hf (fun v2 hf => ?_)
  refine wk_icmp_ge X 51 dX10_rarest_21 (by decide) hf (fun hf => ?_) (fun hf => ?_)
  · exact wq_sub [1] rfl (w_X10_rarest_51 X _ _ hf)
  · refine wk_aload_n X dX10_rarest_24 0 rfl ?_
    refine wk_getR X dX10_rarest_25 fo_X10_55 hf (fun v3 hf => ?_)
    refine wk_iload_n X dX10_rarest_28 3 rfl ?_
    refine wk_callVi X [.int x3] [] dX10_rarest_29 rfl vo_X10_358 rfl (by decide) (Nat.le_of_ble_eq_true rfl) hf (c_X3_menWithBeat l _ _ _) (fun r4 hf => ?_)
    refine wk_istore (lv' := [(4, .int r4.1), (0, .ref x0), (1, .int x1), (2, .int x2), (3, .int x3)]) X dX10_rarest_32 (by decide) rfl ?_
    refine wk_iload X dX10_rarest_34 0 rfl ?_
    refine wk_iload_n X dX10_rarest_36 3 rfl ?_
    refine wk_icmp_ge X 45 dX10_rarest_37 (by decide) hf (fun hf => ?_) (fun hf => ?_)
    · exact wq_sub [1, 2, 3, 4] rfl (w_X10_rarest_45 X k13 hk13 _ _ _ _ _ hf)
    · refine wk_iload X dX10_rarest_40 0 rfl ?_
      refine wk_istore_n (lv' := [(2, .int r4.1), (4, .int r4.1), (0, .ref x0), (1, .int x1), (3, .int x3)]) X dX10_rarest_42 (by decide) rfl ?_
      refine wk_iload_n X dX10_rarest_43 4 rfl ?_
      refine wk_istore_n (lv' := [(1, .int x3), (2, .int r4.1), (4, .int r4.1), (0, .ref x0), (3, .int x3)]) X dX10_rarest_44 (by decide) rfl ?_
      exact wq_sub [3, 0, 1, 4] rfl (w_X10_rarest_45 X k13 hk13 _ _ _ _ _ hf)
def l_X10_rarest_13 (x0 : Nat) (x1 : Int32) (x2 : Int32) (x3 : Int32) (h : hp_H) : Option (Int32 × hp_H) := lp (fun k (s : Nat × Int32 × Int32 × Int32 × hp_H) => f_X10_rarest_13  (fun a0 a1 a2 a3 a4 => k (a0, a1, a2, a3, a4)) s.1 s.2.1 s.2.2.1 s.2.2.2.1 s.2.2.2.2) 100000 (x0, x1, x2, x3, h)
theorem wl_X10_rarest_13 (X : wx G p s m args meth c cX10_rarest 5 RX10 (some .int)) (x0 : Nat) (x1 : Int32) (x2 : Int32) (x3 : Int32) (h : hp_H) (hf : l_X10_rarest_13 x0 x1 x2 x3 h = some o) : wq p l e (mt_R (3) 0 0) s m args below meth c (MQ below (mt_Q G (some (.int o.1)) o.2) args s 0 0 (hp_A G)) G 5 0 0 13 [(0, .ref x0), (1, .int x1), (2, .int x2), (3, .int x3)] [] h :=
  lp_ind (P := fun (s_ : Nat × Int32 × Int32 × Int32 × hp_H) => wq p l e (mt_R (3) 0 0) s m args below meth c (MQ below (mt_Q G (some (.int o.1)) o.2) args s 0 0 (hp_A G)) G 5 0 0 13 [(0, .ref s_.1), (1, .int s_.2.1), (2, .int s_.2.2.1), (3, .int s_.2.2.2.1)] [] s_.2.2.2.2) (fun k s hk hf => w_X10_rarest_13 X  (fun a0 a1 a2 a3 a4 => k (a0, a1, a2, a3, a4)) (fun a0 a1 a2 a3 a4 hf => hk (a0, a1, a2, a3, a4) hf) s.1 s.2.1 s.2.2.1 s.2.2.2.1 s.2.2.2.2 hf) 100000 (x0, x1, x2, x3, h) hf
end Sf_X10_rarest
def f_X10_rarest (x0 : Nat) (h : hp_H) : Option (Int32 × hp_H) := gd h x0 10 ((rd_R h x0 10 8).bind fun v1 => (f_X3_menWithBeat v1 0 h).bind fun r2 => l_X10_rarest_13 x0 0 r2.1 1 r2.2)
set_option maxRecDepth 20000 in
theorem c_X10_rarest (l : Launch) (x0 : Nat) (h : hp_H) (r : Int32 × hp_H) (hf : f_X10_rarest x0 h = some r) : cv l (3) yX10_rarest cX10_rarest 5 (some .int) 10 x0 [] h (some (.int r.1)) r.2 := by
  unfold f_X10_rarest at hf
  refine cv_of (lv := [(0, .ref x0)]) hf (by decide +kernel) (Nat.le_of_ble_eq_true rfl) rfl (fun hf p e s m args below meth c G X => ?_)
  refine wk_iconst X dX10_rarest_0 ic_0 ?_
  refine wk_istore_n (lv' := [(1, .int 0), (0, .ref x0)]) X dX10_rarest_1 (by decide) rfl ?_
  refine wk_aload_n X dX10_rarest_2 1 rfl ?_
  refine wk_getR X dX10_rarest_3 fo_X10_55 hf (fun v1 hf => ?_)
  refine wk_iconst X dX10_rarest_6 ic_0 ?_
  refine wk_callVi X [.int 0] [] dX10_rarest_7 rfl vo_X10_358 rfl (by decide) (Nat.le_of_ble_eq_true rfl) hf (c_X3_menWithBeat l _ _ _) (fun r2 hf => ?_)
  refine wk_istore_n (lv' := [(2, .int r2.1), (1, .int 0), (0, .ref x0)]) X dX10_rarest_10 (by decide) rfl ?_
  refine wk_iconst X dX10_rarest_11 ic_1 ?_
  refine wk_istore_n (lv' := [(3, .int 1), (2, .int r2.1), (1, .int 0), (0, .ref x0)]) X dX10_rarest_12 (by decide) rfl ?_
  exact wq_sub [3, 2, 1, 0] rfl (wl_X10_rarest_13 X _ _ _ _ _ hf)
section Sf_X10_image
variable {p : Program} {l : Launch} {e : Env} {s : State} {m : MethodId} {args : Array Value} {below : List Frame} {meth : Method} {c : Code} {G : hp_G} {o : hp_H}
end Sf_X10_image
def f_X10_image (x0 : Nat) (h : hp_H) : Option (hp_H) := gd h x0 10 ((rd_R h x0 10 6).bind fun v1 => (rd_R h x0 10 5).bind fun v2 => (f_X8_copyFrom v1 v2 h).bind fun r3 => (wr_Z r3 x0 10 7 1).bind fun h4 => some h4)
set_option maxRecDepth 20000 in
theorem c_X10_image (l : Launch) (x0 : Nat) (h : hp_H) (r : hp_H) (hf : f_X10_image x0 h = some r) : cv l (4) yX10_image cX10_image 1 none 10 x0 [] h none r := by
  unfold f_X10_image at hf
  refine cv_of (lv := [(0, .ref x0)]) hf (by decide +kernel) (Nat.le_of_ble_eq_true rfl) rfl (fun hf p e s m args below meth c G X => ?_)
  refine wk_aload_n X dX10_image_0 0 rfl ?_
  refine wk_getR X dX10_image_1 fo_X10_44 hf (fun v1 hf => ?_)
  refine wk_aload_n X dX10_image_4 0 rfl ?_
  refine wk_getR X dX10_image_5 fo_X10_40 hf (fun v2 hf => ?_)
  refine wk_callVv X [.ref v2] [] dX10_image_8 rfl vo_X10_361 rfl (by decide) (Nat.le_of_ble_eq_true rfl) hf (c_X8_copyFrom l _ _ _) (fun r3 hf => ?_)
  refine wk_aload_n X dX10_image_11 0 rfl ?_
  refine wk_iconst X dX10_image_12 ic_1 ?_
  refine wk_putZ X dX10_image_13 fo_X10_47 hf (fun h4 hf => ?_)
  exact wk_return X dX10_image_16 hf
section Sf_X10_restore
variable {p : Program} {l : Launch} {e : Env} {s : State} {m : MethodId} {args : Array Value} {below : List Frame} {meth : Method} {c : Code} {G : hp_G} {o : Int32 × hp_H}
def f_X10_restore_18 (x0 : Nat) (h : hp_H) : Option (Int32 × hp_H) := (rd_I h x0 10 7).bind fun v1 => if v1 = 0 ∨ v1 = 1 then some (v1, h) else none
set_option maxRecDepth 20000 in
theorem w_X10_restore_18 (X : wx G p s m args meth c cX10_restore 1 RX10 (some .boolean)) (x0 : Nat) (h : hp_H) (hf : f_X10_restore_18 x0 h = some o) : wq p l e (mt_R (4) 0 0) s m args below meth c (MQ below (mt_Q G (some (.int o.1)) o.2) args s 0 0 (hp_A G)) G 1 0 0 18 [(0, .ref x0)] [] h := by
  unfold f_X10_restore_18 at hf
  refine wk_aload_n X dX10_restore_18 0 rfl ?_
  refine wk_getI X dX10_restore_19 fo_X10_47 hf (fun v1 hf => ?_)
  exact wk_zreturn X dX10_restore_22 hf
end Sf_X10_restore
def f_X10_restore (x0 : Nat) (h : hp_H) : Option (Int32 × hp_H) := gd h x0 10 ((rd_I h x0 10 7).bind fun v1 => if v1 = 0 then (f_X10_restore_18 x0 h) else ((rd_R h x0 10 5).bind fun v2 => (rd_R h x0 10 6).bind fun v3 => (f_X8_copyFrom v2 v3 h).bind fun r4 => f_X10_restore_18 x0 r4))
set_option maxRecDepth 20000 in
theorem c_X10_restore (l : Launch) (x0 : Nat) (h : hp_H) (r : Int32 × hp_H) (hf : f_X10_restore x0 h = some r) : cv l (4) yX10_restore cX10_restore 1 (some .boolean) 10 x0 [] h (some (.int r.1)) r.2 := by
  unfold f_X10_restore at hf
  refine cv_of (lv := [(0, .ref x0)]) hf (by decide +kernel) (Nat.le_of_ble_eq_true rfl) rfl (fun hf p e s m args below meth c G X => ?_)
  refine wk_aload_n X dX10_restore_0 0 rfl ?_
  refine wk_getI X dX10_restore_1 fo_X10_47 hf (fun v1 hf => ?_)
  refine wk_if_eq X 18 dX10_restore_4 (by decide) hf (fun hf => ?_) (fun hf => ?_)
  · exact wq_sub [0] rfl (w_X10_restore_18 X _ _ hf)
  · refine wk_aload_n X dX10_restore_7 0 rfl ?_
    refine wk_getR X dX10_restore_8 fo_X10_40 hf (fun v2 hf => ?_)
    refine wk_aload_n X dX10_restore_11 0 rfl ?_
    refine wk_getR X dX10_restore_12 fo_X10_44 hf (fun v3 hf => ?_)
    refine wk_callVv X [.ref v3] [] dX10_restore_15 rfl vo_X10_361 rfl (by decide) (Nat.le_of_ble_eq_true rfl) hf (c_X8_copyFrom l _ _ _) (fun r4 hf => ?_)
    exact wq_sub [0] rfl (w_X10_restore_18 X _ _ hf)
section Sf_X10_namedWith
variable {p : Program} {l : Launch} {e : Env} {s : State} {m : MethodId} {args : Array Value} {below : List Frame} {meth : Method} {c : Code} {G : hp_G} {o : Int32 × hp_H}
end Sf_X10_namedWith
def f_X10_namedWith (x0 : Nat) (x1 : Int32) (x2 : Int32) (h : hp_H) : Option (Int32 × hp_H) := gd h x0 10 ((rd_R h x0 10 9).bind fun v1 => (rd_R h x0 10 8).bind fun v2 => (f_X3_copyFrom v1 v2 h).bind fun r3 => (rd_R r3 x0 10 9).bind fun v4 => (f_X3_place v4 x1 x2 r3).bind fun r5 => (rd_R r5 x0 10 9).bind fun v6 => (rd_R r5 x0 10 9).bind fun v7 => (f_X3_mudIn v7 0 r5).bind fun r8 => (f_X3_namedAt v6 x2 0 r8.1 r8.2).bind fun r9 => some (r9.1, r9.2))
set_option maxRecDepth 20000 in
theorem c_X10_namedWith (l : Launch) (x0 : Nat) (x1 : Int32) (x2 : Int32) (h : hp_H) (r : Int32 × hp_H) (hf : f_X10_namedWith x0 x1 x2 h = some r) : cv l (6) yX10_namedWith cX10_namedWith 3 (some .int) 10 x0 [.int x1, .int x2] h (some (.int r.1)) r.2 := by
  unfold f_X10_namedWith at hf
  refine cv_of (lv := [(0, .ref x0), (1, .int x1), (2, .int x2)]) hf (by decide +kernel) (Nat.le_of_ble_eq_true rfl) rfl (fun hf p e s m args below meth c G X => ?_)
  refine wk_aload_n X dX10_namedWith_0 0 rfl ?_
  refine wk_getR X dX10_namedWith_1 fo_X10_59 hf (fun v1 hf => ?_)
  refine wk_aload_n X dX10_namedWith_4 0 rfl ?_
  refine wk_getR X dX10_namedWith_5 fo_X10_55 hf (fun v2 hf => ?_)
  refine wk_callVv X [.ref v2] [] dX10_namedWith_8 rfl vo_X10_116 rfl (by decide) (Nat.le_of_ble_eq_true rfl) hf (c_X3_copyFrom l _ _ _) (fun r3 hf => ?_)
  refine wk_aload_n X dX10_namedWith_11 0 rfl ?_
  refine wk_getR X dX10_namedWith_12 fo_X10_59 hf (fun v4 hf => ?_)
  refine wk_iload_n X dX10_namedWith_15 1 rfl ?_
  refine wk_iload_n X dX10_namedWith_16 2 rfl ?_
  refine wk_callVv X [.int x1, .int x2] [] dX10_namedWith_17 rfl vo_X10_214 rfl (by decide) (Nat.le_of_ble_eq_true rfl) hf (c_X3_place l _ _ _ _) (fun r5 hf => ?_)
  refine wk_aload_n X dX10_namedWith_20 0 rfl ?_
  refine wk_getR X dX10_namedWith_21 fo_X10_59 hf (fun v6 hf => ?_)
  refine wk_iload_n X dX10_namedWith_24 2 rfl ?_
  refine wk_iconst X dX10_namedWith_25 ic_0 ?_
  refine wk_aload_n X dX10_namedWith_26 0 rfl ?_
  refine wk_getR X dX10_namedWith_27 fo_X10_59 hf (fun v7 hf => ?_)
  refine wk_iconst X dX10_namedWith_30 ic_0 ?_
  refine wk_callVi X [.int 0] [.int 0, .int x2, .ref v6] dX10_namedWith_31 rfl vo_X10_150 rfl (by decide) (Nat.le_of_ble_eq_true rfl) hf (c_X3_mudIn l _ _ _) (fun r8 hf => ?_)
  refine wk_callVi X [.int x2, .int 0, .int r8.1] [] dX10_namedWith_34 rfl vo_X10_197 rfl (by decide) (Nat.le_of_ble_eq_true rfl) hf (c_X3_namedAt l _ _ _ _ _) (fun r9 hf => ?_)
  exact wk_ireturn X dX10_namedWith_37 hf
section Sf_X10_gainOf
variable {p : Program} {l : Launch} {e : Env} {s : State} {m : MethodId} {args : Array Value} {below : List Frame} {meth : Method} {c : Code} {G : hp_G} {o : Int32 × hp_H}
def f_X10_gainOf_121 (x3 : Int32) (x4 : Int32) (x5 : Int32) (h : hp_H) : Option (Int32 × hp_H) := some (((hp_min 99 x4) - x3) - x5, h)
set_option maxRecDepth 20000 in
theorem w_X10_gainOf_121 (X : wx G p s m args meth c cX10_gainOf 11 RX10 (some .int)) (x3 : Int32) (x4 : Int32) (x5 : Int32) (h : hp_H) (hf : f_X10_gainOf_121 x3 x4 x5 h = some o) : wq p l e (mt_R (6) 0 0) s m args below meth c (MQ below (mt_Q G (some (.int o.1)) o.2) args s 0 0 (hp_A G)) G 11 0 0 121 [(3, .int x3), (4, .int x4), (5, .int x5)] [] h := by
  unfold f_X10_gainOf_121 at hf
  refine wk_bipush X dX10_gainOf_121 ib_99 ?_
  refine wk_iload X dX10_gainOf_123 1 rfl ?_
  refine wk_min X dX10_gainOf_125 ml_X10_377 (by decide) (Nat.le_of_ble_eq_true rfl) ?_
  refine wk_iload_n X dX10_gainOf_128 0 rfl ?_
  refine wk_isub X dX10_gainOf_129 ?_
  refine wk_iload X dX10_gainOf_130 2 rfl ?_
  refine wk_isub X dX10_gainOf_132 ?_
  exact wk_ireturn X dX10_gainOf_133 hf
def f_X10_gainOf_108 (k21 : Nat → Int32 → Int32 → Int32 → Int32 → Int32 → Int32 → hp_H → Option (Int32 × hp_H)) (x0 : Nat) (x1 : Int32) (x2 : Int32) (x3 : Int32) (x4 : Int32) (x5 : Int32) (x6 : Int32) (x8 : Int32) (h : hp_H) : Option (Int32 × hp_H) := k21 x0 x1 x2 x3 x4 (x5 + x8) (x6 + 1) h
set_option maxRecDepth 20000 in
theorem w_X10_gainOf_108 (X : wx G p s m args meth c cX10_gainOf 11 RX10 (some .int)) (k21 : Nat → Int32 → Int32 → Int32 → Int32 → Int32 → Int32 → hp_H → Option (Int32 × hp_H)) (hk21 : ∀ (x0 : Nat) (x1 : Int32) (x2 : Int32) (x3 : Int32) (x4 : Int32) (x5 : Int32) (x6 : Int32) (h : hp_H), k21 x0 x1 x2 x3 x4 x5 x6 h = some o → wq p l e (mt_R (6) 0 0) s m args below meth c (MQ below (mt_Q G (some (.int o.1)) o.2) args s 0 0 (hp_A G)) G 11 0 0 21 [(0, .ref x0), (1, .int x1), (2, .int x2), (3, .int x3), (4, .int x4), (5, .int x5), (6, .int x6)] [] h) (x0 : Nat) (x1 : Int32) (x2 : Int32) (x3 : Int32) (x4 : Int32) (x5 : Int32) (x6 : Int32) (x8 : Int32) (h : hp_H) (hf : f_X10_gainOf_108 k21 x0 x1 x2 x3 x4 x5 x6 x8 h = some o) : wq p l e (mt_R (6) 0 0) s m args below meth c (MQ below (mt_Q G (some (.int o.1)) o.2) args s 0 0 (hp_A G)) G 11 0 0 108 [(0, .ref x0), (1, .int x1), (2, .int x2), (3, .int x3), (4, .int x4), (5, .int x5), (6, .int x6), (8, .int x8)] [] h := by
  unfold f_X10_gainOf_108 at hf
  refine wk_iload X dX10_gainOf_108 5 rfl ?_
  refine wk_iload X dX10_gainOf_110 7 rfl ?_
  refine wk_iadd X dX10_gainOf_112 ?_
  refine wk_istore (lv' := [(5, .int (x5 + x8)), (0, .ref x0), (1, .int x1), (2, .int x2), (3, .int x3), (4, .int x4), (6, .int x6), (8, .int x8)]) X dX10_gainOf_113 (by decide) rfl ?_
  refine wk_iinc (lv' := [(6, .int (x6 + 1)), (5, .int (x5 + x8)), (0, .ref x0), (1, .int x1), (2, .int x2), (3, .int x3), (4, .int x4), (8, .int x8)]) X dX10_gainOf_115 6 rfl ic_1 (by decide) rfl ?_
  refine wk_goto X 21 dX10_gainOf_118 (by decide) ?_
  exact wq_sub [2, 3, 4, 5, 6, 1, 0] rfl (hk21 _ _ _ _ _ _ _ _ hf)
def f_X10_gainOf_100 (k21 : Nat → Int32 → Int32 → Int32 → Int32 → Int32 → Int32 → hp_H → Option (Int32 × hp_H)) (k45 : Nat → Int32 → Int32 → Int32 → Int32 → Int32 → Int32 → Int32 → Int32 → Int32 → hp_H → Option (Int32 × hp_H)) (x0 : Nat) (x1 : Int32) (x2 : Int32) (x3 : Int32) (x4 : Int32) (x5 : Int32) (x6 : Int32) (x7 : Int32) (x9 : Int32) (t0 : Int32) (h : hp_H) : Option (Int32 × hp_H) := k45 x0 x1 x2 x3 x4 x5 x6 x7 t0 (x9 + 1) h
set_option maxRecDepth 20000 in
theorem w_X10_gainOf_100 (X : wx G p s m args meth c cX10_gainOf 11 RX10 (some .int)) (k21 : Nat → Int32 → Int32 → Int32 → Int32 → Int32 → Int32 → hp_H → Option (Int32 × hp_H)) (hk21 : ∀ (x0 : Nat) (x1 : Int32) (x2 : Int32) (x3 : Int32) (x4 : Int32) (x5 : Int32) (x6 : Int32) (h : hp_H), k21 x0 x1 x2 x3 x4 x5 x6 h = some o → wq p l e (mt_R (6) 0 0) s m args below meth c (MQ below (mt_Q G (some (.int o.1)) o.2) args s 0 0 (hp_A G)) G 11 0 0 21 [(0, .ref x0), (1, .int x1), (2, .int x2), (3, .int x3), (4, .int x4), (5, .int x5), (6, .int x6)] [] h) (k45 : Nat → Int32 → Int32 → Int32 → Int32 → Int32 → Int32 → Int32 → Int32 → Int32 → hp_H → Option (Int32 × hp_H)) (hk45 : ∀ (x0 : Nat) (x1 : Int32) (x2 : Int32) (x3 : Int32) (x4 : Int32) (x5 : Int32) (x6 : Int32) (x7 : Int32) (x8 : Int32) (x9 : Int32) (h : hp_H), k45 x0 x1 x2 x3 x4 x5 x6 x7 x8 x9 h = some o → wq p l e (mt_R (6) 0 0) s m args below meth c (MQ below (mt_Q G (some (.int o.1)) o.2) args s 0 0 (hp_A G)) G 11 0 0 45 [(0, .ref x0), (1, .int x1), (2, .int x2), (3, .int x3), (4, .int x4), (5, .int x5), (6, .int x6), (7, .int x7), (8, .int x8), (9, .int x9)] [] h) (x0 : Nat) (x1 : Int32) (x2 : Int32) (x3 : Int32) (x4 : Int32) (x5 : Int32) (x6 : Int32) (x7 : Int32) (x9 : Int32) (t0 : Int32) (h : hp_H) (hf : f_X10_gainOf_100 k21 k45 x0 x1 x2 x3 x4 x5 x6 x7 x9 t0 h = some o) : wq p l e (mt_R (6) 0 0) s m args below meth c (MQ below (mt_Q G (some (.int o.1)) o.2) args s 0 0 (hp_A G)) G 11 0 0 100 [(0, .ref x0), (1, .int x1), (2, .int x2), (3, .int x3), (4, .int x4), (5, .int x5), (6, .int x6), (7, .int x7), (9, .int x9)] [.int t0] h := by
  unfold f_X10_gainOf_100 at hf
  refine wk_istore (lv' := [(8, .int t0), (0, .ref x0), (1, .int x1), (2, .int x2), (3, .int x3), (4, .int x4), (5, .int x5), (6, .int x6), (7, .int x7), (9, .int x9)]) X dX10_gainOf_100 (by decide) rfl ?_
  refine wk_iinc (lv' := [(9, .int (x9 + 1)), (8, .int t0), (0, .ref x0), (1, .int x1), (2, .int x2), (3, .int x3), (4, .int x4), (5, .int x5), (6, .int x6), (7, .int x7)]) X dX10_gainOf_102 9 rfl ic_1 (by decide) rfl ?_
  refine wk_goto X 45 dX10_gainOf_105 (by decide) ?_
  exact wq_sub [2, 3, 4, 5, 6, 7, 8, 9, 1, 0] rfl (hk45 _ _ _ _ _ _ _ _ _ _ _ hf)
def f_X10_gainOf_85 (k21 : Nat → Int32 → Int32 → Int32 → Int32 → Int32 → Int32 → hp_H → Option (Int32 × hp_H)) (k45 : Nat → Int32 → Int32 → Int32 → Int32 → Int32 → Int32 → Int32 → Int32 → Int32 → hp_H → Option (Int32 × hp_H)) (x0 : Nat) (x1 : Int32) (x2 : Int32) (x3 : Int32) (x5 : Int32) (x6 : Int32) (x7 : Int32) (x8 : Int32) (x9 : Int32) (x10 : Int32) (t0 : Int32) (t1 : Int32) (h : hp_H) : Option (Int32 × hp_H) := if x10 = x2 then (f_X10_gainOf_100 k21 k45 x0 x1 x2 x3 (t0 + t1) x5 x6 x7 x9 1 h) else (f_X10_gainOf_100 k21 k45 x0 x1 x2 x3 (t0 + t1) x5 x6 x7 x9 x8 h)
set_option maxRecDepth 20000 in
theorem w_X10_gainOf_85 (X : wx G p s m args meth c cX10_gainOf 11 RX10 (some .int)) (k21 : Nat → Int32 → Int32 → Int32 → Int32 → Int32 → Int32 → hp_H → Option (Int32 × hp_H)) (hk21 : ∀ (x0 : Nat) (x1 : Int32) (x2 : Int32) (x3 : Int32) (x4 : Int32) (x5 : Int32) (x6 : Int32) (h : hp_H), k21 x0 x1 x2 x3 x4 x5 x6 h = some o → wq p l e (mt_R (6) 0 0) s m args below meth c (MQ below (mt_Q G (some (.int o.1)) o.2) args s 0 0 (hp_A G)) G 11 0 0 21 [(0, .ref x0), (1, .int x1), (2, .int x2), (3, .int x3), (4, .int x4), (5, .int x5), (6, .int x6)] [] h) (k45 : Nat → Int32 → Int32 → Int32 → Int32 → Int32 → Int32 → Int32 → Int32 → Int32 → hp_H → Option (Int32 × hp_H)) (hk45 : ∀ (x0 : Nat) (x1 : Int32) (x2 : Int32) (x3 : Int32) (x4 : Int32) (x5 : Int32) (x6 : Int32) (x7 : Int32) (x8 : Int32) (x9 : Int32) (h : hp_H), k45 x0 x1 x2 x3 x4 x5 x6 x7 x8 x9 h = some o → wq p l e (mt_R (6) 0 0) s m args below meth c (MQ below (mt_Q G (some (.int o.1)) o.2) args s 0 0 (hp_A G)) G 11 0 0 45 [(0, .ref x0), (1, .int x1), (2, .int x2), (3, .int x3), (4, .int x4), (5, .int x5), (6, .int x6), (7, .int x7), (8, .int x8), (9, .int x9)] [] h) (x0 : Nat) (x1 : Int32) (x2 : Int32) (x3 : Int32) (x5 : Int32) (x6 : Int32) (x7 : Int32) (x8 : Int32) (x9 : Int32) (x10 : Int32) (t0 : Int32) (t1 : Int32) (h : hp_H) (hf : f_X10_gainOf_85 k21 k45 x0 x1 x2 x3 x5 x6 x7 x8 x9 x10 t0 t1 h = some o) : wq p l e (mt_R (6) 0 0) s m args below meth c (MQ below (mt_Q G (some (.int o.1)) o.2) args s 0 0 (hp_A G)) G 11 0 0 85 [(0, .ref x0), (1, .int x1), (2, .int x2), (3, .int x3), (5, .int x5), (6, .int x6), (7, .int x7), (8, .int x8), (9, .int x9), (10, .int x10)] [.int t1, .int t0] h := by
  unfold f_X10_gainOf_85 at hf
  refine wk_iadd X dX10_gainOf_85 ?_
  refine wk_istore (lv' := [(4, .int (t0 + t1)), (0, .ref x0), (1, .int x1), (2, .int x2), (3, .int x3), (5, .int x5), (6, .int x6), (7, .int x7), (8, .int x8), (9, .int x9), (10, .int x10)]) X dX10_gainOf_86 (by decide) rfl ?_
  refine wk_iload X dX10_gainOf_88 10 rfl ?_
  refine wk_iload_n X dX10_gainOf_90 3 rfl ?_
  refine wk_icmp_ne X 98 dX10_gainOf_91 (by decide) hf (fun hf => ?_) (fun hf => ?_)
  · refine wk_iload X dX10_gainOf_98 8 rfl ?_
    exact wq_sub [1, 2, 3, 4, 0, 5, 6, 7, 9] rfl (w_X10_gainOf_100 X k21 hk21 k45 hk45 _ _ _ _ _ _ _ _ _ _ _ hf)
  · refine wk_iconst X dX10_gainOf_94 ic_1 ?_
    refine wk_goto X 100 dX10_gainOf_95 (by decide) ?_
    exact wq_sub [1, 2, 3, 4, 0, 5, 6, 7, 9] rfl (w_X10_gainOf_100 X k21 hk21 k45 hk45 _ _ _ _ _ _ _ _ _ _ _ hf)
def f_X10_gainOf_45 (k21 : Nat → Int32 → Int32 → Int32 → Int32 → Int32 → Int32 → hp_H → Option (Int32 × hp_H)) (k45 : Nat → Int32 → Int32 → Int32 → Int32 → Int32 → Int32 → Int32 → Int32 → Int32 → hp_H → Option (Int32 × hp_H)) (x0 : Nat) (x1 : Int32) (x2 : Int32) (x3 : Int32) (x4 : Int32) (x5 : Int32) (x6 : Int32) (x7 : Int32) (x8 : Int32) (x9 : Int32) (h : hp_H) : Option (Int32 × hp_H) := (rd_R h x0 10 4).bind fun v1 => (rd_I h v1 1 2).bind fun v2 => if v2 ≤ x9 then (f_X10_gainOf_108 k21 x0 x1 x2 x3 x4 x5 x6 x8 h) else ((rd_R h x0 10 9).bind fun v3 => (f_X3_namedAt v3 x9 x6 x7 h).bind fun r4 => if r4.1 = x1 then (f_X10_gainOf_85 k21 k45 x0 x1 x2 x3 x5 x6 x7 x8 x9 r4.1 x4 1 r4.2) else (f_X10_gainOf_85 k21 k45 x0 x1 x2 x3 x5 x6 x7 x8 x9 r4.1 x4 0 r4.2))
set_option maxRecDepth 20000 in
theorem w_X10_gainOf_45 (X : wx G p s m args meth c cX10_gainOf 11 RX10 (some .int)) (k21 : Nat → Int32 → Int32 → Int32 → Int32 → Int32 → Int32 → hp_H → Option (Int32 × hp_H)) (hk21 : ∀ (x0 : Nat) (x1 : Int32) (x2 : Int32) (x3 : Int32) (x4 : Int32) (x5 : Int32) (x6 : Int32) (h : hp_H), k21 x0 x1 x2 x3 x4 x5 x6 h = some o → wq p l e (mt_R (6) 0 0) s m args below meth c (MQ below (mt_Q G (some (.int o.1)) o.2) args s 0 0 (hp_A G)) G 11 0 0 21 [(0, .ref x0), (1, .int x1), (2, .int x2), (3, .int x3), (4, .int x4), (5, .int x5), (6, .int x6)] [] h) (k45 : Nat → Int32 → Int32 → Int32 → Int32 → Int32 → Int32 → Int32 → Int32 → Int32 → hp_H → Option (Int32 × hp_H)) (hk45 : ∀ (x0 : Nat) (x1 : Int32) (x2 : Int32) (x3 : Int32) (x4 : Int32) (x5 : Int32) (x6 : Int32) (x7 : Int32) (x8 : Int32) (x9 : Int32) (h : hp_H), k45 x0 x1 x2 x3 x4 x5 x6 x7 x8 x9 h = some o → wq p l e (mt_R (6) 0 0) s m args below meth c (MQ below (mt_Q G (some (.int o.1)) o.2) args s 0 0 (hp_A G)) G 11 0 0 45 [(0, .ref x0), (1, .int x1), (2, .int x2), (3, .int x3), (4, .int x4), (5, .int x5), (6, .int x6), (7, .int x7), (8, .int x8), (9, .int x9)] [] h) (x0 : Nat) (x1 : Int32) (x2 : Int32) (x3 : Int32) (x4 : Int32) (x5 : Int32) (x6 : Int32) (x7 : Int32) (x8 : Int32) (x9 : Int32) (h : hp_H) (hf : f_X10_gainOf_45 k21 k45 x0 x1 x2 x3 x4 x5 x6 x7 x8 x9 h = some o) : wq p l e (mt_R (6) 0 0) s m args below meth c (MQ below (mt_Q G (some (.int o.1)) o.2) args s 0 0 (hp_A G)) G 11 0 0 45 [(0, .ref x0), (1, .int x1), (2, .int x2), (3, .int x3), (4, .int x4), (5, .int x5), (6, .int x6), (7, .int x7), (8, .int x8), (9, .int x9)] [] h := by
  unfold f_X10_gainOf_45 at hf
  refine wk_iload X dX10_gainOf_45 9 rfl ?_
  refine wk_aload_n X dX10_gainOf_47 0 rfl ?_
  refine wk_getR X dX10_gainOf_48 fo_X10_31 hf (fun v1 hf => ?_)
  refine wk_getI X dX10_gainOf_51 fo_X10_141 hf (fun v2 hf => ?_)
  refine wk_icmp_ge X 108 dX10_gainOf_54 (by decide) hf (fun hf => ?_) (fun hf => ?_)
  · exact wq_sub [0, 1, 2, 3, 4, 5, 6, 8] rfl (w_X10_gainOf_108 X k21 hk21 _ _ _ _ _ _ _ _ _ hf)
  · refine wk_aload_n X dX10_gainOf_57 0 rfl ?_
    refine wk_getR X dX10_gainOf_58 fo_X10_59 hf (fun v3 hf => ?_)
    refine wk_iload X dX10_gainOf_61 9 rfl ?_
    refine wk_iload X dX10_gainOf_63 6 rfl ?_
    refine wk_iload X dX10_gainOf_65 7 rfl ?_
    refine wk_callVi X [.int x9, .int x6, .int x7] [] dX10_gainOf_67 rfl vo_X10_197 rfl (by decide) (Nat.le_of_ble_eq_true rfl) hf (c_X3_namedAt l _ _ _ _ _) (fun r4 hf => ?_)
    refine wk_istore (lv' := [(10, .int r4.1), (0, .ref x0), (1, .int x1), (2, .int x2), (3, .int x3), (4, .int x4), (5, .int x5), (6, .int x6), (7, .int x7), (8, .int x8), (9, .int x9)]) X dX10_gainOf_70 (by decide) rfl ?_
    refine wk_iload X dX10_gainOf_72 5 rfl ?_
    refine wk_iload X dX10_gainOf_74 0 rfl ?_
    refine wk_iload_n X dX10_gainOf_76 2 rfl ?_
    refine wk_icmp_ne X 84 dX10_gainOf_77 (by decide) hf (fun hf => ?_) (fun hf => ?_)
    · refine wk_iconst X dX10_gainOf_84 ic_0 ?_
      exact wq_sub [1, 2, 3, 4, 6, 7, 8, 9, 10, 0] rfl (w_X10_gainOf_85 X k21 hk21 k45 hk45 _ _ _ _ _ _ _ _ _ _ _ _ _ hf)
    · refine wk_iconst X dX10_gainOf_80 ic_1 ?_
      refine wk_goto X 85 dX10_gainOf_81 (by decide) ?_
      exact wq_sub [1, 2, 3, 4, 6, 7, 8, 9, 10, 0] rfl (w_X10_gainOf_85 X k21 hk21 k45 hk45 _ _ _ _ _ _ _ _ _ _ _ _ _ hf)
def l_X10_gainOf_45 (k21 : Nat → Int32 → Int32 → Int32 → Int32 → Int32 → Int32 → hp_H → Option (Int32 × hp_H)) (x0 : Nat) (x1 : Int32) (x2 : Int32) (x3 : Int32) (x4 : Int32) (x5 : Int32) (x6 : Int32) (x7 : Int32) (x8 : Int32) (x9 : Int32) (h : hp_H) : Option (Int32 × hp_H) := lp (fun k (s : Nat × Int32 × Int32 × Int32 × Int32 × Int32 × Int32 × Int32 × Int32 × Int32 × hp_H) => f_X10_gainOf_45 k21 (fun a0 a1 a2 a3 a4 a5 a6 a7 a8 a9 a10 => k (a0, a1, a2, a3, a4, a5, a6, a7, a8, a9, a10)) s.1 s.2.1 s.2.2.1 s.2.2.2.1 s.2.2.2.2.1 s.2.2.2.2.2.1 s.2.2.2.2.2.2.1 s.2.2.2.2.2.2.2.1 s.2.2.2.2.2.2.2.2.1 s.2.2.2.2.2.2.2.2.2.1 s.2.2.2.2.2.2.2.2.2.2) 100000 (x0, x1, x2, x3, x4, x5, x6, x7, x8, x9, h)
theorem wl_X10_gainOf_45 (X : wx G p s m args meth c cX10_gainOf 11 RX10 (some .int)) (k21 : Nat → Int32 → Int32 → Int32 → Int32 → Int32 → Int32 → hp_H → Option (Int32 × hp_H)) (hk21 : ∀ (x0 : Nat) (x1 : Int32) (x2 : Int32) (x3 : Int32) (x4 : Int32) (x5 : Int32) (x6 : Int32) (h : hp_H), k21 x0 x1 x2 x3 x4 x5 x6 h = some o → wq p l e (mt_R (6) 0 0) s m args below meth c (MQ below (mt_Q G (some (.int o.1)) o.2) args s 0 0 (hp_A G)) G 11 0 0 21 [(0, .ref x0), (1, .int x1), (2, .int x2), (3, .int x3), (4, .int x4), (5, .int x5), (6, .int x6)] [] h) (x0 : Nat) (x1 : Int32) (x2 : Int32) (x3 : Int32) (x4 : Int32) (x5 : Int32) (x6 : Int32) (x7 : Int32) (x8 : Int32) (x9 : Int32) (h : hp_H) (hf : l_X10_gainOf_45 k21 x0 x1 x2 x3 x4 x5 x6 x7 x8 x9 h = some o) : wq p l e (mt_R (6) 0 0) s m args below meth c (MQ below (mt_Q G (some (.int o.1)) o.2) args s 0 0 (hp_A G)) G 11 0 0 45 [(0, .ref x0), (1, .int x1), (2, .int x2), (3, .int x3), (4, .int x4), (5, .int x5), (6, .int x6), (7, .int x7), (8, .int x8), (9, .int x9)] [] h :=
  lp_ind (P := fun (s_ : Nat × Int32 × Int32 × Int32 × Int32 × Int32 × Int32 × Int32 × Int32 × Int32 × hp_H) => wq p l e (mt_R (6) 0 0) s m args below meth c (MQ below (mt_Q G (some (.int o.1)) o.2) args s 0 0 (hp_A G)) G 11 0 0 45 [(0, .ref s_.1), (1, .int s_.2.1), (2, .int s_.2.2.1), (3, .int s_.2.2.2.1), (4, .int s_.2.2.2.2.1), (5, .int s_.2.2.2.2.2.1), (6, .int s_.2.2.2.2.2.2.1), (7, .int s_.2.2.2.2.2.2.2.1), (8, .int s_.2.2.2.2.2.2.2.2.1), (9, .int s_.2.2.2.2.2.2.2.2.2.1)] [] s_.2.2.2.2.2.2.2.2.2.2) (fun k s hk hf => w_X10_gainOf_45 X k21 hk21 (fun a0 a1 a2 a3 a4 a5 a6 a7 a8 a9 a10 => k (a0, a1, a2, a3, a4, a5, a6, a7, a8, a9, a10)) (fun a0 a1 a2 a3 a4 a5 a6 a7 a8 a9 a10 hf => hk (a0, a1, a2, a3, a4, a5, a6, a7, a8, a9, a10) hf) s.1 s.2.1 s.2.2.1 s.2.2.2.1 s.2.2.2.2.1 s.2.2.2.2.2.1 s.2.2.2.2.2.2.1 s.2.2.2.2.2.2.2.1 s.2.2.2.2.2.2.2.2.1 s.2.2.2.2.2.2.2.2.2.1 s.2.2.2.2.2.2.2.2.2.2 hf) 100000 (x0, x1, x2, x3, x4, x5, x6, x7, x8, x9, h) hf
def f_X10_gainOf_21 (k21 : Nat → Int32 → Int32 → Int32 → Int32 → Int32 → Int32 → hp_H → Option (Int32 × hp_H)) (x0 : Nat) (x1 : Int32) (x2 : Int32) (x3 : Int32) (x4 : Int32) (x5 : Int32) (x6 : Int32) (h : hp_H) : Option (Int32 × hp_H) := if 6 ≤ x6 then (f_X10_gainOf_121 x3 x4 x5 h) else ((rd_R h x0 10 9).bind fun v1 => (f_X3_mudIn v1 x6 h).bind fun r2 => l_X10_gainOf_45 k21 x0 x1 x2 x3 x4 x5 x6 r2.1 0 0 r2.2)
set_option maxRecDepth 20000 in
theorem w_X10_gainOf_21 (X : wx G p s m args meth c cX10_gainOf 11 RX10 (some .int)) (k21 : Nat → Int32 → Int32 → Int32 → Int32 → Int32 → Int32 → hp_H → Option (Int32 × hp_H)) (hk21 : ∀ (x0 : Nat) (x1 : Int32) (x2 : Int32) (x3 : Int32) (x4 : Int32) (x5 : Int32) (x6 : Int32) (h : hp_H), k21 x0 x1 x2 x3 x4 x5 x6 h = some o → wq p l e (mt_R (6) 0 0) s m args below meth c (MQ below (mt_Q G (some (.int o.1)) o.2) args s 0 0 (hp_A G)) G 11 0 0 21 [(0, .ref x0), (1, .int x1), (2, .int x2), (3, .int x3), (4, .int x4), (5, .int x5), (6, .int x6)] [] h) (x0 : Nat) (x1 : Int32) (x2 : Int32) (x3 : Int32) (x4 : Int32) (x5 : Int32) (x6 : Int32) (h : hp_H) (hf : f_X10_gainOf_21 k21 x0 x1 x2 x3 x4 x5 x6 h = some o) : wq p l e (mt_R (6) 0 0) s m args below meth c (MQ below (mt_Q G (some (.int o.1)) o.2) args s 0 0 (hp_A G)) G 11 0 0 21 [(0, .ref x0), (1, .int x1), (2, .int x2), (3, .int x3), (4, .int x4), (5, .int x5), (6, .int x6)] [] h := by
  unfold f_X10_gainOf_21 at hf
  refine wk_iload X dX10_gainOf_21 6 rfl ?_
  refine wk_bipush X dX10_gainOf_23 ib_6 ?_
  refine wk_icmp_ge X 121 dX10_gainOf_25 (by decide) hf (fun hf => ?_) (fun hf => ?_)
  · exact wq_sub [3, 4, 5] rfl (w_X10_gainOf_121 X _ _ _ _ hf)
  · refine wk_aload_n X dX10_gainOf_28 0 rfl ?_
    refine wk_getR X dX10_gainOf_29 fo_X10_59 hf (fun v1 hf => ?_)
    refine wk_iload X dX10_gainOf_32 6 rfl ?_
    refine wk_callVi X [.int x6] [] dX10_gainOf_34 rfl vo_X10_150 rfl (by decide) (Nat.le_of_ble_eq_true rfl) hf (c_X3_mudIn l _ _ _) (fun r2 hf => ?_)
    refine wk_istore (lv' := [(7, .int r2.1), (0, .ref x0), (1, .int x1), (2, .int x2), (3, .int x3), (4, .int x4), (5, .int x5), (6, .int x6)]) X dX10_gainOf_37 (by decide) rfl ?_
    refine wk_iconst X dX10_gainOf_39 ic_0 ?_
    refine wk_istore (lv' := [(8, .int 0), (7, .int r2.1), (0, .ref x0), (1, .int x1), (2, .int x2), (3, .int x3), (4, .int x4), (5, .int x5), (6, .int x6)]) X dX10_gainOf_40 (by decide) rfl ?_
    refine wk_iconst X dX10_gainOf_42 ic_0 ?_
    refine wk_istore (lv' := [(9, .int 0), (8, .int 0), (7, .int r2.1), (0, .ref x0), (1, .int x1), (2, .int x2), (3, .int x3), (4, .int x4), (5, .int x5), (6, .int x6)]) X dX10_gainOf_43 (by decide) rfl ?_
    exact wq_sub [3, 4, 5, 6, 7, 8, 9, 2, 1, 0] rfl (wl_X10_gainOf_45 X k21 hk21 _ _ _ _ _ _ _ _ _ _ _ hf)
def l_X10_gainOf_21 (x0 : Nat) (x1 : Int32) (x2 : Int32) (x3 : Int32) (x4 : Int32) (x5 : Int32) (x6 : Int32) (h : hp_H) : Option (Int32 × hp_H) := lp (fun k (s : Nat × Int32 × Int32 × Int32 × Int32 × Int32 × Int32 × hp_H) => f_X10_gainOf_21  (fun a0 a1 a2 a3 a4 a5 a6 a7 => k (a0, a1, a2, a3, a4, a5, a6, a7)) s.1 s.2.1 s.2.2.1 s.2.2.2.1 s.2.2.2.2.1 s.2.2.2.2.2.1 s.2.2.2.2.2.2.1 s.2.2.2.2.2.2.2) 100000 (x0, x1, x2, x3, x4, x5, x6, h)
theorem wl_X10_gainOf_21 (X : wx G p s m args meth c cX10_gainOf 11 RX10 (some .int)) (x0 : Nat) (x1 : Int32) (x2 : Int32) (x3 : Int32) (x4 : Int32) (x5 : Int32) (x6 : Int32) (h : hp_H) (hf : l_X10_gainOf_21 x0 x1 x2 x3 x4 x5 x6 h = some o) : wq p l e (mt_R (6) 0 0) s m args below meth c (MQ below (mt_Q G (some (.int o.1)) o.2) args s 0 0 (hp_A G)) G 11 0 0 21 [(0, .ref x0), (1, .int x1), (2, .int x2), (3, .int x3), (4, .int x4), (5, .int x5), (6, .int x6)] [] h :=
  lp_ind (P := fun (s_ : Nat × Int32 × Int32 × Int32 × Int32 × Int32 × Int32 × hp_H) => wq p l e (mt_R (6) 0 0) s m args below meth c (MQ below (mt_Q G (some (.int o.1)) o.2) args s 0 0 (hp_A G)) G 11 0 0 21 [(0, .ref s_.1), (1, .int s_.2.1), (2, .int s_.2.2.1), (3, .int s_.2.2.2.1), (4, .int s_.2.2.2.2.1), (5, .int s_.2.2.2.2.2.1), (6, .int s_.2.2.2.2.2.2.1)] [] s_.2.2.2.2.2.2.2) (fun k s hk hf => w_X10_gainOf_21 X  (fun a0 a1 a2 a3 a4 a5 a6 a7 => k (a0, a1, a2, a3, a4, a5, a6, a7)) (fun a0 a1 a2 a3 a4 a5 a6 a7 hf => hk (a0, a1, a2, a3, a4, a5, a6, a7) hf) s.1 s.2.1 s.2.2.1 s.2.2.2.1 s.2.2.2.2.1 s.2.2.2.2.2.1 s.2.2.2.2.2.2.1 s.2.2.2.2.2.2.2 hf) 100000 (x0, x1, x2, x3, x4, x5, x6, h) hf
end Sf_X10_gainOf
def f_X10_gainOf (x0 : Nat) (x1 : Int32) (x2 : Int32) (h : hp_H) : Option (Int32 × hp_H) := gd h x0 10 ((rd_R h x0 10 9).bind fun v1 => (rd_R h v1 3 4).bind fun v2 => (f_X2_at v2 x1 h).bind fun r3 => l_X10_gainOf_21 x0 x1 x2 r3.1 r3.1 0 0 r3.2)
set_option maxRecDepth 20000 in
theorem c_X10_gainOf (l : Launch) (x0 : Nat) (x1 : Int32) (x2 : Int32) (h : hp_H) (r : Int32 × hp_H) (hf : f_X10_gainOf x0 x1 x2 h = some r) : cv l (6) yX10_gainOf cX10_gainOf 11 (some .int) 10 x0 [.int x1, .int x2] h (some (.int r.1)) r.2 := by
  unfold f_X10_gainOf at hf
  refine cv_of (lv := [(0, .ref x0), (1, .int x1), (2, .int x2)]) hf (by decide +kernel) (Nat.le_of_ble_eq_true rfl) rfl (fun hf p e s m args below meth c G X => ?_)
  refine wk_aload_n X dX10_gainOf_0 0 rfl ?_
  refine wk_getR X dX10_gainOf_1 fo_X10_59 hf (fun v1 hf => ?_)
  refine wk_getR X dX10_gainOf_4 fo_X10_180 hf (fun v2 hf => ?_)
  refine wk_iload_n X dX10_gainOf_7 1 rfl ?_
  refine wk_callVi X [.int x1] [] dX10_gainOf_8 rfl vo_X10_163 rfl (by decide) (Nat.le_of_ble_eq_true rfl) hf (c_X2_at l _ _ _) (fun r3 hf => ?_)
  refine wk_istore_n (lv' := [(3, .int r3.1), (0, .ref x0), (1, .int x1), (2, .int x2)]) X dX10_gainOf_11 (by decide) rfl ?_
  refine wk_iload_n X dX10_gainOf_12 0 rfl ?_
  refine wk_istore (lv' := [(4, .int r3.1), (3, .int r3.1), (0, .ref x0), (1, .int x1), (2, .int x2)]) X dX10_gainOf_13 (by decide) rfl ?_
  refine wk_iconst X dX10_gainOf_15 ic_0 ?_
  refine wk_istore (lv' := [(5, .int 0), (4, .int r3.1), (3, .int r3.1), (0, .ref x0), (1, .int x1), (2, .int x2)]) X dX10_gainOf_16 (by decide) rfl ?_
  refine wk_iconst X dX10_gainOf_18 ic_0 ?_
  refine wk_istore (lv' := [(6, .int 0), (5, .int 0), (4, .int r3.1), (3, .int r3.1), (0, .ref x0), (1, .int x1), (2, .int x2)]) X dX10_gainOf_19 (by decide) rfl ?_
  exact wq_sub [4, 5, 6, 3, 2, 1, 0] rfl (wl_X10_gainOf_21 X _ _ _ _ _ _ _ _ hf)
section Sf_X10_stamp
variable {p : Program} {l : Launch} {e : Env} {s : State} {m : MethodId} {args : Array Value} {below : List Frame} {meth : Method} {c : Code} {G : hp_G} {o : hp_H}
def f_X10_stamp_59 (x0 : Nat) (x1 : Int32) (x2 : Int32) (x3 : Int32) (x4 : Int32) (x5 : Int32) (h : hp_H) : Option (hp_H) := (rd_R h x0 10 13).bind fun v1 => (f_X10_gainOf x0 x1 x2 h).bind fun r2 => (f_X2_set v1 (2 * x3) (r2.1 - x4) r2.2).bind fun r3 => (rd_R r3 x0 10 13).bind fun v4 => (f_X10_gainOf x0 x2 x1 r3).bind fun r5 => (f_X2_set v4 ((2 * x3) + 1) (r5.1 - x5) r5.2).bind fun r6 => some r6
set_option maxRecDepth 20000 in
theorem w_X10_stamp_59 (X : wx G p s m args meth c cX10_stamp 6 RX10 none) (x0 : Nat) (x1 : Int32) (x2 : Int32) (x3 : Int32) (x4 : Int32) (x5 : Int32) (h : hp_H) (hf : f_X10_stamp_59 x0 x1 x2 x3 x4 x5 h = some o) : wq p l e (mt_R (7) 0 0) s m args below meth c (MQ below (mt_Q G none o) args s 0 0 (hp_A G)) G 6 0 0 59 [(0, .ref x0), (1, .int x1), (2, .int x2), (3, .int x3), (4, .int x4), (5, .int x5)] [] h := by
  unfold f_X10_stamp_59 at hf
  refine wk_aload_n X dX10_stamp_59 0 rfl ?_
  refine wk_getR X dX10_stamp_60 fo_X10_85 hf (fun v1 hf => ?_)
  refine wk_iconst X dX10_stamp_63 ic_2 ?_
  refine wk_iload_n X dX10_stamp_64 3 rfl ?_
  refine wk_imul X dX10_stamp_65 ?_
  refine wk_aload_n X dX10_stamp_66 0 rfl ?_
  refine wk_iload_n X dX10_stamp_67 1 rfl ?_
  refine wk_iload_n X dX10_stamp_68 2 rfl ?_
  refine wk_callVi X [.int x1, .int x2] [.int (2 * x3), .ref v1] dX10_stamp_69 rfl vo_X10_374 rfl (by decide) (Nat.le_of_ble_eq_true rfl) hf (c_X10_gainOf l _ _ _ _) (fun r2 hf => ?_)
  refine wk_iload X dX10_stamp_72 4 rfl ?_
  refine wk_isub X dX10_stamp_74 ?_
  refine wk_callVv X [.int (2 * x3), .int (r2.1 - x4)] [] dX10_stamp_75 rfl vo_X10_224 rfl (by decide) (Nat.le_of_ble_eq_true rfl) hf (c_X2_set l _ _ _ _) (fun r3 hf => ?_)
  refine wk_aload_n X dX10_stamp_78 0 rfl ?_
  refine wk_getR X dX10_stamp_79 fo_X10_85 hf (fun v4 hf => ?_)
  refine wk_iconst X dX10_stamp_82 ic_2 ?_
  refine wk_iload_n X dX10_stamp_83 3 rfl ?_
  refine wk_imul X dX10_stamp_84 ?_
  refine wk_iconst X dX10_stamp_85 ic_1 ?_
  refine wk_iadd X dX10_stamp_86 ?_
  refine wk_aload_n X dX10_stamp_87 0 rfl ?_
  refine wk_iload_n X dX10_stamp_88 2 rfl ?_
  refine wk_iload_n X dX10_stamp_89 1 rfl ?_
  refine wk_callVi X [.int x2, .int x1] [.int ((2 * x3) + 1), .ref v4] dX10_stamp_90 rfl vo_X10_374 rfl (by decide) (Nat.le_of_ble_eq_true rfl) hf (c_X10_gainOf l _ _ _ _) (fun r5 hf => ?_)
  refine wk_iload X dX10_stamp_93 5 rfl ?_
  refine wk_isub X dX10_stamp_95 ?_
  refine wk_callVv X [.int ((2 * x3) + 1), .int (r5.1 - x5)] [] dX10_stamp_96 rfl vo_X10_224 rfl (by decide) (Nat.le_of_ble_eq_true rfl) hf (c_X2_set l _ _ _ _) (fun r6 hf => ?_)
  exact wk_return X dX10_stamp_99 hf
def f_X10_stamp_40 (x0 : Nat) (x1 : Int32) (x2 : Int32) (x3 : Int32) (x4 : Int32) (x5 : Int32) (h : hp_H) : Option (hp_H) := if x5 = 1 then ((rd_R h x0 10 9).bind fun v1 => (rd_R h v1 3 3).bind fun v2 => (f_X2_set v2 x2 9 h).bind fun r3 => f_X10_stamp_59 x0 x1 x2 x3 x4 x5 r3) else (f_X10_stamp_59 x0 x1 x2 x3 x4 x5 h)
set_option maxRecDepth 20000 in
theorem w_X10_stamp_40 (X : wx G p s m args meth c cX10_stamp 6 RX10 none) (x0 : Nat) (x1 : Int32) (x2 : Int32) (x3 : Int32) (x4 : Int32) (x5 : Int32) (h : hp_H) (hf : f_X10_stamp_40 x0 x1 x2 x3 x4 x5 h = some o) : wq p l e (mt_R (7) 0 0) s m args below meth c (MQ below (mt_Q G none o) args s 0 0 (hp_A G)) G 6 0 0 40 [(0, .ref x0), (1, .int x1), (2, .int x2), (3, .int x3), (4, .int x4), (5, .int x5)] [] h := by
  unfold f_X10_stamp_40 at hf
  refine wk_iload X dX10_stamp_40 5 rfl ?_
  refine wk_iconst X dX10_stamp_42 ic_1 ?_
  refine wk_icmp_ne X 59 dX10_stamp_43 (by decide) hf (fun hf => ?_) (fun hf => ?_)
  · exact wq_sub [0, 1, 2, 3, 4, 5] rfl (w_X10_stamp_59 X _ _ _ _ _ _ _ hf)
  · refine wk_aload_n X dX10_stamp_46 0 rfl ?_
    refine wk_getR X dX10_stamp_47 fo_X10_59 hf (fun v1 hf => ?_)
    refine wk_getR X dX10_stamp_50 fo_X10_177 hf (fun v2 hf => ?_)
    refine wk_iload_n X dX10_stamp_53 2 rfl ?_
    refine wk_bipush X dX10_stamp_54 ib_9 ?_
    refine wk_callVv X [.int x2, .int 9] [] dX10_stamp_56 rfl vo_X10_224 rfl (by decide) (Nat.le_of_ble_eq_true rfl) hf (c_X2_set l _ _ _ _) (fun r3 hf => ?_)
    exact wq_sub [0, 1, 2, 3, 4, 5] rfl (w_X10_stamp_59 X _ _ _ _ _ _ _ hf)
end Sf_X10_stamp
def f_X10_stamp (x0 : Nat) (x1 : Int32) (x2 : Int32) (x3 : Int32) (h : hp_H) : Option (hp_H) := gd h x0 10 ((rd_R h x0 10 9).bind fun v1 => (rd_R h x0 10 8).bind fun v2 => (f_X3_copyFrom v1 v2 h).bind fun r3 => if (x3 >>> (1 &&& 31)) = 1 then ((rd_R r3 x0 10 9).bind fun v4 => (rd_R r3 v4 3 3).bind fun v5 => (f_X2_set v5 x1 9 r3).bind fun r6 => f_X10_stamp_40 x0 x1 x2 x3 (x3 >>> (1 &&& 31)) (x3 &&& 1) r6) else (f_X10_stamp_40 x0 x1 x2 x3 (x3 >>> (1 &&& 31)) (x3 &&& 1) r3))
set_option maxRecDepth 20000 in
theorem c_X10_stamp (l : Launch) (x0 : Nat) (x1 : Int32) (x2 : Int32) (x3 : Int32) (h : hp_H) (r : hp_H) (hf : f_X10_stamp x0 x1 x2 x3 h = some r) : cv l (7) yX10_stamp cX10_stamp 6 none 10 x0 [.int x1, .int x2, .int x3] h none r := by
  unfold f_X10_stamp at hf
  refine cv_of (lv := [(0, .ref x0), (1, .int x1), (2, .int x2), (3, .int x3)]) hf (by decide +kernel) (Nat.le_of_ble_eq_true rfl) rfl (fun hf p e s m args below meth c G X => ?_)
  refine wk_iload_n X dX10_stamp_0 3 rfl ?_
  refine wk_iconst X dX10_stamp_1 ic_1 ?_
  refine wk_ishr X dX10_stamp_2 ?_
  refine wk_istore (lv' := [(4, .int (x3 >>> (1 &&& 31))), (0, .ref x0), (1, .int x1), (2, .int x2), (3, .int x3)]) X dX10_stamp_3 (by decide) rfl ?_
  refine wk_iload_n X dX10_stamp_5 4 rfl ?_
  refine wk_iconst X dX10_stamp_6 ic_1 ?_
  refine wk_iand X dX10_stamp_7 ?_
  refine wk_istore (lv' := [(5, .int (x3 &&& 1)), (4, .int (x3 >>> (1 &&& 31))), (0, .ref x0), (1, .int x1), (2, .int x2), (3, .int x3)]) X dX10_stamp_8 (by decide) rfl ?_
  refine wk_aload_n X dX10_stamp_10 2 rfl ?_
  refine wk_getR X dX10_stamp_11 fo_X10_59 hf (fun v1 hf => ?_)
  refine wk_aload_n X dX10_stamp_14 2 rfl ?_
  refine wk_getR X dX10_stamp_15 fo_X10_55 hf (fun v2 hf => ?_)
  refine wk_callVv X [.ref v2] [] dX10_stamp_18 rfl vo_X10_116 rfl (by decide) (Nat.le_of_ble_eq_true rfl) hf (c_X3_copyFrom l _ _ _) (fun r3 hf => ?_)
  refine wk_iload X dX10_stamp_21 1 rfl ?_
  refine wk_iconst X dX10_stamp_23 ic_1 ?_
  refine wk_icmp_ne X 40 dX10_stamp_24 (by decide) hf (fun hf => ?_) (fun hf => ?_)
  · exact wq_sub [2, 3, 4, 5, 1, 0] rfl (w_X10_stamp_40 X _ _ _ _ _ _ _ hf)
  · refine wk_aload_n X dX10_stamp_27 2 rfl ?_
    refine wk_getR X dX10_stamp_28 fo_X10_59 hf (fun v4 hf => ?_)
    refine wk_getR X dX10_stamp_31 fo_X10_177 hf (fun v5 hf => ?_)
    refine wk_iload_n X dX10_stamp_34 3 rfl ?_
    refine wk_bipush X dX10_stamp_35 ib_9 ?_
    refine wk_callVv X [.int x1, .int 9] [] dX10_stamp_37 rfl vo_X10_224 rfl (by decide) (Nat.le_of_ble_eq_true rfl) hf (c_X2_set l _ _ _ _) (fun r6 hf => ?_)
    exact wq_sub [2, 3, 4, 5, 1, 0] rfl (w_X10_stamp_40 X _ _ _ _ _ _ _ hf)
section Sf_X10_doesRest
variable {p : Program} {l : Launch} {e : Env} {s : State} {m : MethodId} {args : Array Value} {below : List Frame} {meth : Method} {c : Code} {G : hp_G} {o : Int32 × hp_H}
def f_X10_doesRest_59 (t0 : Int32) (h : hp_H) : Option (Int32 × hp_H) := if t0 = 0 ∨ t0 = 1 then some (t0, h) else none
set_option maxRecDepth 20000 in
theorem w_X10_doesRest_59 (X : wx G p s m args meth c cX10_doesRest 2 RX10 (some .boolean)) (t0 : Int32) (h : hp_H) (hf : f_X10_doesRest_59 t0 h = some o) : wq p l e (mt_R (2) 0 0) s m args below meth c (MQ below (mt_Q G (some (.int o.1)) o.2) args s 0 0 (hp_A G)) G 2 0 0 59 [] [.int t0] h := by
  unfold f_X10_doesRest_59 at hf
  exact wk_zreturn X dX10_doesRest_59 hf
def f_X10_doesRest_58  (h : hp_H) : Option (Int32 × hp_H) := f_X10_doesRest_59 0 h
set_option maxRecDepth 20000 in
theorem w_X10_doesRest_58 (X : wx G p s m args meth c cX10_doesRest 2 RX10 (some .boolean))  (h : hp_H) (hf : f_X10_doesRest_58 h = some o) : wq p l e (mt_R (2) 0 0) s m args below meth c (MQ below (mt_Q G (some (.int o.1)) o.2) args s 0 0 (hp_A G)) G 2 0 0 58 [] [] h := by
  unfold f_X10_doesRest_58 at hf
  refine wk_iconst X dX10_doesRest_58 ic_0 ?_
  exact wq_sub [] rfl (w_X10_doesRest_59 X _ _ hf)
end Sf_X10_doesRest
def f_X10_doesRest (x0 : Nat) (x1 : Int32) (h : hp_H) : Option (Int32 × hp_H) := gd h x0 10 ((rd_R h x0 10 13).bind fun v1 => (f_X2_at v1 (2 * x1) h).bind fun r2 => (rd_R r2.2 x0 10 13).bind fun v3 => (f_X2_at v3 (2 * (x1 ^^^ 2)) r2.2).bind fun r4 => if r2.1 < r4.1 then (f_X10_doesRest_58 r4.2) else ((rd_R r4.2 x0 10 13).bind fun v5 => (f_X2_at v5 ((2 * x1) + 1) r4.2).bind fun r6 => (rd_R r6.2 x0 10 13).bind fun v7 => (f_X2_at v7 ((2 * (x1 ^^^ 1)) + 1) r6.2).bind fun r8 => if r6.1 < r8.1 then (f_X10_doesRest_58 r8.2) else (f_X10_doesRest_59 1 r8.2)))
set_option maxRecDepth 20000 in
theorem c_X10_doesRest (l : Launch) (x0 : Nat) (x1 : Int32) (h : hp_H) (r : Int32 × hp_H) (hf : f_X10_doesRest x0 x1 h = some r) : cv l (2) yX10_doesRest cX10_doesRest 2 (some .boolean) 10 x0 [.int x1] h (some (.int r.1)) r.2 := by
  unfold f_X10_doesRest at hf
  refine cv_of (lv := [(0, .ref x0), (1, .int x1)]) hf (by decide +kernel) (Nat.le_of_ble_eq_true rfl) rfl (fun hf p e s m args below meth c G X => ?_)
  refine wk_aload_n X dX10_doesRest_0 0 rfl ?_
  refine wk_getR X dX10_doesRest_1 fo_X10_85 hf (fun v1 hf => ?_)
  refine wk_iconst X dX10_doesRest_4 ic_2 ?_
  refine wk_iload_n X dX10_doesRest_5 1 rfl ?_
  refine wk_imul X dX10_doesRest_6 ?_
  refine wk_callVi X [.int (2 * x1)] [] dX10_doesRest_7 rfl vo_X10_163 rfl (by decide) (Nat.le_of_ble_eq_true rfl) hf (c_X2_at l _ _ _) (fun r2 hf => ?_)
  refine wk_aload_n X dX10_doesRest_10 0 rfl ?_
  refine wk_getR X dX10_doesRest_11 fo_X10_85 hf (fun v3 hf => ?_)
  refine wk_iconst X dX10_doesRest_14 ic_2 ?_
  refine wk_iload_n X dX10_doesRest_15 1 rfl ?_
  refine wk_iconst X dX10_doesRest_16 ic_2 ?_
  refine wk_ixor X dX10_doesRest_17 ?_
  refine wk_imul X dX10_doesRest_18 ?_
  refine wk_callVi X [.int (2 * (x1 ^^^ 2))] [.int r2.1] dX10_doesRest_19 rfl vo_X10_163 rfl (by decide) (Nat.le_of_ble_eq_true rfl) hf (c_X2_at l _ _ _) (fun r4 hf => ?_)
  refine wk_icmp_lt X 58 dX10_doesRest_22 (by decide) hf (fun hf => ?_) (fun hf => ?_)
  · exact wq_sub [] rfl (w_X10_doesRest_58 X _ hf)
  · refine wk_aload_n X dX10_doesRest_25 0 rfl ?_
    refine wk_getR X dX10_doesRest_26 fo_X10_85 hf (fun v5 hf => ?_)
    refine wk_iconst X dX10_doesRest_29 ic_2 ?_
    refine wk_iload_n X dX10_doesRest_30 1 rfl ?_
    refine wk_imul X dX10_doesRest_31 ?_
    refine wk_iconst X dX10_doesRest_32 ic_1 ?_
    refine wk_iadd X dX10_doesRest_33 ?_
    refine wk_callVi X [.int ((2 * x1) + 1)] [] dX10_doesRest_34 rfl vo_X10_163 rfl (by decide) (Nat.le_of_ble_eq_true rfl) hf (c_X2_at l _ _ _) (fun r6 hf => ?_)
    refine wk_aload_n X dX10_doesRest_37 0 rfl ?_
    refine wk_getR X dX10_doesRest_38 fo_X10_85 hf (fun v7 hf => ?_)
    refine wk_iconst X dX10_doesRest_41 ic_2 ?_
    refine wk_iload_n X dX10_doesRest_42 1 rfl ?_
    refine wk_iconst X dX10_doesRest_43 ic_1 ?_
    refine wk_ixor X dX10_doesRest_44 ?_
    refine wk_imul X dX10_doesRest_45 ?_
    refine wk_iconst X dX10_doesRest_46 ic_1 ?_
    refine wk_iadd X dX10_doesRest_47 ?_
    refine wk_callVi X [.int ((2 * (x1 ^^^ 1)) + 1)] [.int r6.1] dX10_doesRest_48 rfl vo_X10_163 rfl (by decide) (Nat.le_of_ble_eq_true rfl) hf (c_X2_at l _ _ _) (fun r8 hf => ?_)
    refine wk_icmp_lt X 58 dX10_doesRest_51 (by decide) hf (fun hf => ?_) (fun hf => ?_)
    · exact wq_sub [] rfl (w_X10_doesRest_58 X _ hf)
    · refine wk_iconst X dX10_doesRest_54 ic_1 ?_
      refine wk_goto X 59 dX10_doesRest_55 (by decide) ?_
      exact wq_sub [] rfl (w_X10_doesRest_59 X _ _ hf)
section Sf_X10_stirred
variable {p : Program} {l : Launch} {e : Env} {s : State} {m : MethodId} {args : Array Value} {below : List Frame} {meth : Method} {c : Code} {G : hp_G} {o : Int32 × hp_H}
end Sf_X10_stirred
def f_X10_stirred (x0 : Int32) (h : hp_H) : Option (Int32 × hp_H) := some ((x0 * 1103515245) + 12345, h)
set_option maxRecDepth 20000 in
theorem c_X10_stirred (l : Launch) (x0 : Int32) (h : hp_H) (r : Int32 × hp_H) (hf : f_X10_stirred x0 h = some r) : cs l 1 yX10_stirred cX10_stirred 1 (some .int) [.int x0] h (some (.int r.1)) r.2 := by
  unfold f_X10_stirred at hf
  refine mt_of (lv := [(0, .int x0)]) (by decide +kernel) (Nat.le_of_ble_eq_true rfl) rfl (fun p e s m args below meth c G X => ?_)
  refine wk_iload_n X dX10_stirred_0 0 rfl ?_
  refine wk_ldcw X dX10_stirred_1 mt_X10_380 ?_
  refine wk_imul X dX10_stirred_4 ?_
  refine wk_sipush X dX10_stirred_5 is_12345 ?_
  refine wk_iadd X dX10_stirred_8 ?_
  exact wk_ireturn X dX10_stirred_9 hf
section Sf_X10_draw
variable {p : Program} {l : Launch} {e : Env} {s : State} {m : MethodId} {args : Array Value} {below : List Frame} {meth : Method} {c : Code} {G : hp_G} {o : Int32 × hp_H}
def f_X10_draw_18 (t0 : Int32) (h : hp_H) : Option (Int32 × hp_H) := some (t0, h)
set_option maxRecDepth 20000 in
theorem w_X10_draw_18 (X : wx G p s m args meth c cX10_draw 2 RX10 (some .int)) (t0 : Int32) (h : hp_H) (hf : f_X10_draw_18 t0 h = some o) : wq p l e (mt_R (1) 0 0) s m args below meth c (MQ below (mt_Q G (some (.int o.1)) o.2) args s 0 0 (hp_A G)) G 2 0 0 18 [] [.int t0] h := by
  unfold f_X10_draw_18 at hf
  exact wk_ireturn X dX10_draw_18 hf
end Sf_X10_draw
def f_X10_draw (x0 : Int32) (x1 : Int32) (h : hp_H) : Option (Int32 × hp_H) := if 0 < x1 then ((hp_rem ((x0 >>> (16 &&& 31)) &&& (32767 : Int32)) x1).bind fun v1 => f_X10_draw_18 v1 h) else (f_X10_draw_18 0 h)
set_option maxRecDepth 20000 in
theorem c_X10_draw (l : Launch) (x0 : Int32) (x1 : Int32) (h : hp_H) (r : Int32 × hp_H) (hf : f_X10_draw x0 x1 h = some r) : cs l 1 yX10_draw cX10_draw 2 (some .int) [.int x0, .int x1] h (some (.int r.1)) r.2 := by
  unfold f_X10_draw at hf
  refine mt_of (lv := [(0, .int x0), (1, .int x1)]) (by decide +kernel) (Nat.le_of_ble_eq_true rfl) rfl (fun p e s m args below meth c G X => ?_)
  refine wk_iload_n X dX10_draw_0 1 rfl ?_
  refine wk_if_gt X 8 dX10_draw_1 (by decide) hf (fun hf => ?_) (fun hf => ?_)
  · refine wk_iload_n X dX10_draw_8 0 rfl ?_
    refine wk_bipush X dX10_draw_9 ib_16 ?_
    refine wk_ishr X dX10_draw_11 ?_
    refine wk_sipush X dX10_draw_12 is_32767 ?_
    refine wk_iand X dX10_draw_15 ?_
    refine wk_iload_n X dX10_draw_16 1 rfl ?_
    refine wk_irem X dX10_draw_17 hf (fun v1 hf => ?_)
    exact wq_sub [] rfl (w_X10_draw_18 X _ _ hf)
  · refine wk_iconst X dX10_draw_4 ic_0 ?_
    refine wk_goto X 18 dX10_draw_5 (by decide) ?_
    exact wq_sub [] rfl (w_X10_draw_18 X _ _ hf)
section Sf_X10_drawOfMan
variable {p : Program} {l : Launch} {e : Env} {s : State} {m : MethodId} {args : Array Value} {below : List Frame} {meth : Method} {c : Code} {G : hp_G} {o : Int32 × hp_H}
def f_X10_drawOfMan_103 (x2 : Int32) (h : hp_H) : Option (Int32 × hp_H) := some (x2, h)
set_option maxRecDepth 20000 in
theorem w_X10_drawOfMan_103 (X : wx G p s m args meth c cX10_drawOfMan 5 RX10 (some .int)) (x2 : Int32) (h : hp_H) (hf : f_X10_drawOfMan_103 x2 h = some o) : wq p l e (mt_R (3) 0 0) s m args below meth c (MQ below (mt_Q G (some (.int o.1)) o.2) args s 0 0 (hp_A G)) G 5 0 0 103 [(2, .int x2)] [] h := by
  unfold f_X10_drawOfMan_103 at hf
  refine wk_iload_n X dX10_drawOfMan_103 0 rfl ?_
  exact wk_ireturn X dX10_drawOfMan_104 hf
end Sf_X10_drawOfMan
def f_X10_drawOfMan (x0 : Nat) (x1 : Int32) (h : hp_H) : Option (Int32 × hp_H) := gd h x0 10 ((rd_R h x0 10 4).bind fun v1 => (rd_I h v1 1 1).bind fun v2 => if v2 = 0 then (some (x1, h)) else ((f_X10_stirred x1 h).bind fun r3 => (rd_R r3.2 x0 10 4).bind fun v4 => (rd_I r3.2 v4 1 1).bind fun v5 => (f_X10_draw r3.1 v5 r3.2).bind fun r6 => (f_X10_stirred r3.1 r6.2).bind fun r7 => (f_X10_draw r7.1 3 r7.2).bind fun r8 => if r8.1 = 0 then ((f_X10_stirred r7.1 r8.2).bind fun r14 => (rd_R r14.2 x0 10 9).bind fun v15 => (rd_R r14.2 x0 10 4).bind fun v16 => (rd_I r14.2 v16 1 0).bind fun v17 => (f_X10_draw r14.1 v17 r14.2).bind fun r18 => (f_X3_turnHeel v15 r6.1 r18.1 r18.2).bind fun r19 => f_X10_drawOfMan_103 r14.1 r19) else (if r8.1 = 1 then ((f_X10_stirred r7.1 r8.2).bind fun r9 => (rd_R r9.2 x0 10 9).bind fun v10 => (rd_R r9.2 v10 3 3).bind fun v11 => (f_X10_draw r9.1 9 r9.2).bind fun r12 => (f_X2_set v11 r6.1 (r12.1 + 1) r12.2).bind fun r13 => f_X10_drawOfMan_103 r9.1 r13) else (f_X10_drawOfMan_103 r7.1 r8.2))))
set_option maxRecDepth 20000 in
theorem c_X10_drawOfMan (l : Launch) (x0 : Nat) (x1 : Int32) (h : hp_H) (r : Int32 × hp_H) (hf : f_X10_drawOfMan x0 x1 h = some r) : cv l (3) yX10_drawOfMan cX10_drawOfMan 5 (some .int) 10 x0 [.int x1] h (some (.int r.1)) r.2 := by
  unfold f_X10_drawOfMan at hf
  refine cv_of (lv := [(0, .ref x0), (1, .int x1)]) hf (by decide +kernel) (Nat.le_of_ble_eq_true rfl) rfl (fun hf p e s m args below meth c G X => ?_)
  refine wk_aload_n X dX10_drawOfMan_0 0 rfl ?_
  refine wk_getR X dX10_drawOfMan_1 fo_X10_31 hf (fun v1 hf => ?_)
  refine wk_getI X dX10_drawOfMan_4 fo_X10_138 hf (fun v2 hf => ?_)
  refine wk_if_ne X 12 dX10_drawOfMan_7 (by decide) hf (fun hf => ?_) (fun hf => ?_)
  · refine wk_iload_n X dX10_drawOfMan_12 1 rfl ?_
    refine wk_callSi X [.int x1] [] dX10_drawOfMan_13 rfl vo_X10_320 rfl (by decide) (Nat.le_of_ble_eq_true rfl) hf (c_X10_stirred l _ _) (fun r3 hf => ?_)
    refine wk_istore_n (lv' := [(2, .int r3.1), (0, .ref x0), (1, .int x1)]) X dX10_drawOfMan_16 (by decide) rfl ?_
    refine wk_iload_n X dX10_drawOfMan_17 0 rfl ?_
    refine wk_aload_n X dX10_drawOfMan_18 1 rfl ?_
    refine wk_getR X dX10_drawOfMan_19 fo_X10_31 hf (fun v4 hf => ?_)
    refine wk_getI X dX10_drawOfMan_22 fo_X10_138 hf (fun v5 hf => ?_)
    refine wk_callSi X [.int r3.1, .int v5] [] dX10_drawOfMan_25 rfl vo_X10_323 rfl (by decide) (Nat.le_of_ble_eq_true rfl) hf (c_X10_draw l _ _ _) (fun r6 hf => ?_)
    refine wk_istore_n (lv' := [(3, .int r6.1), (2, .int r3.1), (0, .ref x0), (1, .int x1)]) X dX10_drawOfMan_28 (by decide) rfl ?_
    refine wk_iload_n X dX10_drawOfMan_29 1 rfl ?_
    refine wk_callSi X [.int r3.1] [] dX10_drawOfMan_30 rfl vo_X10_320 rfl (by decide) (Nat.le_of_ble_eq_true rfl) hf (c_X10_stirred l _ _) (fun r7 hf => ?_)
    refine wk_istore_n (lv' := [(2, .int r7.1), (3, .int r6.1), (0, .ref x0), (1, .int x1)]) X dX10_drawOfMan_33 (by decide) rfl ?_
    refine wk_iload_n X dX10_drawOfMan_34 0 rfl ?_
    refine wk_iconst X dX10_drawOfMan_35 ic_3 ?_
    refine wk_callSi X [.int r7.1, .int 3] [] dX10_drawOfMan_36 rfl vo_X10_323 rfl (by decide) (Nat.le_of_ble_eq_true rfl) hf (c_X10_draw l _ _ _) (fun r8 hf => ?_)
    refine wk_istore (lv' := [(4, .int r8.1), (2, .int r7.1), (3, .int r6.1), (0, .ref x0), (1, .int x1)]) X dX10_drawOfMan_39 (by decide) rfl ?_
    refine wk_iload X dX10_drawOfMan_41 0 rfl ?_
    refine wk_if_ne X 73 dX10_drawOfMan_43 (by decide) hf (fun hf => ?_) (fun hf => ?_)
    · refine wk_iload X dX10_drawOfMan_73 0 rfl ?_
      refine wk_iconst X dX10_drawOfMan_75 ic_1 ?_
      refine wk_icmp_ne X 103 dX10_drawOfMan_76 (by decide) hf (fun hf => ?_) (fun hf => ?_)
      · exact wq_sub [1] rfl (w_X10_drawOfMan_103 X _ _ hf)
      · refine wk_iload_n X dX10_drawOfMan_79 1 rfl ?_
        refine wk_callSi X [.int r7.1] [] dX10_drawOfMan_80 rfl vo_X10_320 rfl (by decide) (Nat.le_of_ble_eq_true rfl) hf (c_X10_stirred l _ _) (fun r9 hf => ?_)
        refine wk_istore_n (lv' := [(2, .int r9.1), (4, .int r8.1), (3, .int r6.1), (0, .ref x0), (1, .int x1)]) X dX10_drawOfMan_83 (by decide) rfl ?_
        refine wk_aload_n X dX10_drawOfMan_84 3 rfl ?_
        refine wk_getR X dX10_drawOfMan_85 fo_X10_59 hf (fun v10 hf => ?_)
        refine wk_getR X dX10_drawOfMan_88 fo_X10_177 hf (fun v11 hf => ?_)
        refine wk_iload_n X dX10_drawOfMan_91 2 rfl ?_
        refine wk_iload_n X dX10_drawOfMan_92 0 rfl ?_
        refine wk_bipush X dX10_drawOfMan_93 ib_9 ?_
        refine wk_callSi X [.int r9.1, .int 9] [.int r6.1, .ref v11] dX10_drawOfMan_95 rfl vo_X10_323 rfl (by decide) (Nat.le_of_ble_eq_true rfl) hf (c_X10_draw l _ _ _) (fun r12 hf => ?_)
        refine wk_iconst X dX10_drawOfMan_98 ic_1 ?_
        refine wk_iadd X dX10_drawOfMan_99 ?_
        refine wk_callVv X [.int r6.1, .int (r12.1 + 1)] [] dX10_drawOfMan_100 rfl vo_X10_224 rfl (by decide) (Nat.le_of_ble_eq_true rfl) hf (c_X2_set l _ _ _ _) (fun r13 hf => ?_)
        exact wq_sub [0] rfl (w_X10_drawOfMan_103 X _ _ hf)
    · refine wk_iload_n X dX10_drawOfMan_46 1 rfl ?_
      refine wk_callSi X [.int r7.1] [] dX10_drawOfMan_47 rfl vo_X10_320 rfl (by decide) (Nat.le_of_ble_eq_true rfl) hf (c_X10_stirred l _ _) (fun r14 hf => ?_)
      refine wk_istore_n (lv' := [(2, .int r14.1), (4, .int r8.1), (3, .int r6.1), (0, .ref x0), (1, .int x1)]) X dX10_drawOfMan_50 (by decide) rfl ?_
      refine wk_aload_n X dX10_drawOfMan_51 3 rfl ?_
      refine wk_getR X dX10_drawOfMan_52 fo_X10_59 hf (fun v15 hf => ?_)
      refine wk_iload_n X dX10_drawOfMan_55 2 rfl ?_
      refine wk_iload_n X dX10_drawOfMan_56 0 rfl ?_
      refine wk_aload_n X dX10_drawOfMan_57 3 rfl ?_
      refine wk_getR X dX10_drawOfMan_58 fo_X10_31 hf (fun v16 hf => ?_)
      refine wk_getI X dX10_drawOfMan_61 fo_X10_135 hf (fun v17 hf => ?_)
      refine wk_callSi X [.int r14.1, .int v17] [.int r6.1, .ref v15] dX10_drawOfMan_64 rfl vo_X10_323 rfl (by decide) (Nat.le_of_ble_eq_true rfl) hf (c_X10_draw l _ _ _) (fun r18 hf => ?_)
      refine wk_callVv X [.int r6.1, .int r18.1] [] dX10_drawOfMan_67 rfl vo_X10_221 rfl (by decide) (Nat.le_of_ble_eq_true rfl) hf (c_X3_turnHeel l _ _ _ _) (fun r19 hf => ?_)
      refine wk_goto X 103 dX10_drawOfMan_70 (by decide) ?_
      exact wq_sub [0] rfl (w_X10_drawOfMan_103 X _ _ hf)
  · refine wk_iload_n X dX10_drawOfMan_10 1 rfl ?_
    exact wk_ireturn X dX10_drawOfMan_11 hf
section Sf_X10_listenTo
variable {p : Program} {l : Launch} {e : Env} {s : State} {m : MethodId} {args : Array Value} {below : List Frame} {meth : Method} {c : Code} {G : hp_G} {o : hp_H}
def f_X10_listenTo_142 (k34 : Nat → Int32 → Int32 → Int32 → Int32 → Int32 → hp_H → Option (hp_H)) (x0 : Nat) (x1 : Int32) (x3 : Int32) (x4 : Int32) (x5 : Int32) (x6 : Int32) (h : hp_H) : Option (hp_H) := k34 x0 x1 x3 x4 x5 (x6 + 1) h
set_option maxRecDepth 20000 in
theorem w_X10_listenTo_142 (X : wx G p s m args meth c cX10_listenTo 10 RX10 none) (k34 : Nat → Int32 → Int32 → Int32 → Int32 → Int32 → hp_H → Option (hp_H)) (hk34 : ∀ (x0 : Nat) (x1 : Int32) (x3 : Int32) (x4 : Int32) (x5 : Int32) (x6 : Int32) (h : hp_H), k34 x0 x1 x3 x4 x5 x6 h = some o → wq p l e (mt_R (4) 0 0) s m args below meth c (MQ below (mt_Q G none o) args s 0 0 (hp_A G)) G 10 0 0 34 [(0, .ref x0), (1, .int x1), (3, .int x3), (4, .int x4), (5, .int x5), (6, .int x6)] [] h) (x0 : Nat) (x1 : Int32) (x3 : Int32) (x4 : Int32) (x5 : Int32) (x6 : Int32) (h : hp_H) (hf : f_X10_listenTo_142 k34 x0 x1 x3 x4 x5 x6 h = some o) : wq p l e (mt_R (4) 0 0) s m args below meth c (MQ below (mt_Q G none o) args s 0 0 (hp_A G)) G 10 0 0 142 [(0, .ref x0), (1, .int x1), (3, .int x3), (4, .int x4), (5, .int x5), (6, .int x6)] [] h := by
  unfold f_X10_listenTo_142 at hf
  refine wk_iinc (lv' := [(6, .int (x6 + 1)), (0, .ref x0), (1, .int x1), (3, .int x3), (4, .int x4), (5, .int x5)]) X dX10_listenTo_142 5 rfl ic_1 (by decide) rfl ?_
  refine wk_goto X 34 dX10_listenTo_145 (by decide) ?_
  exact wq_sub [1, 2, 3, 4, 5, 0] rfl (hk34 _ _ _ _ _ _ _ hf)
def f_X10_listenTo_136 (k34 : Nat → Int32 → Int32 → Int32 → Int32 → Int32 → hp_H → Option (hp_H)) (k70 : Nat → Int32 → Int32 → Int32 → Int32 → Int32 → Int32 → hp_H → Option (hp_H)) (x0 : Nat) (x1 : Int32) (x3 : Int32) (x4 : Int32) (x5 : Int32) (x6 : Int32) (x7 : Int32) (h : hp_H) : Option (hp_H) := k70 x0 x1 x3 x4 x5 x6 (x7 + 1) h
set_option maxRecDepth 20000 in
theorem w_X10_listenTo_136 (X : wx G p s m args meth c cX10_listenTo 10 RX10 none) (k34 : Nat → Int32 → Int32 → Int32 → Int32 → Int32 → hp_H → Option (hp_H)) (hk34 : ∀ (x0 : Nat) (x1 : Int32) (x3 : Int32) (x4 : Int32) (x5 : Int32) (x6 : Int32) (h : hp_H), k34 x0 x1 x3 x4 x5 x6 h = some o → wq p l e (mt_R (4) 0 0) s m args below meth c (MQ below (mt_Q G none o) args s 0 0 (hp_A G)) G 10 0 0 34 [(0, .ref x0), (1, .int x1), (3, .int x3), (4, .int x4), (5, .int x5), (6, .int x6)] [] h) (k70 : Nat → Int32 → Int32 → Int32 → Int32 → Int32 → Int32 → hp_H → Option (hp_H)) (hk70 : ∀ (x0 : Nat) (x1 : Int32) (x3 : Int32) (x4 : Int32) (x5 : Int32) (x6 : Int32) (x7 : Int32) (h : hp_H), k70 x0 x1 x3 x4 x5 x6 x7 h = some o → wq p l e (mt_R (4) 0 0) s m args below meth c (MQ below (mt_Q G none o) args s 0 0 (hp_A G)) G 10 0 0 70 [(0, .ref x0), (1, .int x1), (3, .int x3), (4, .int x4), (5, .int x5), (6, .int x6), (7, .int x7)] [] h) (x0 : Nat) (x1 : Int32) (x3 : Int32) (x4 : Int32) (x5 : Int32) (x6 : Int32) (x7 : Int32) (h : hp_H) (hf : f_X10_listenTo_136 k34 k70 x0 x1 x3 x4 x5 x6 x7 h = some o) : wq p l e (mt_R (4) 0 0) s m args below meth c (MQ below (mt_Q G none o) args s 0 0 (hp_A G)) G 10 0 0 136 [(0, .ref x0), (1, .int x1), (3, .int x3), (4, .int x4), (5, .int x5), (6, .int x6), (7, .int x7)] [] h := by
  unfold f_X10_listenTo_136 at hf
  refine wk_iinc (lv' := [(7, .int (x7 + 1)), (0, .ref x0), (1, .int x1), (3, .int x3), (4, .int x4), (5, .int x5), (6, .int x6)]) X dX10_listenTo_136 6 rfl ic_1 (by decide) rfl ?_
  refine wk_goto X 70 dX10_listenTo_139 (by decide) ?_
  exact wq_sub [1, 2, 3, 4, 5, 6, 0] rfl (hk70 _ _ _ _ _ _ _ _ hf)
def f_X10_listenTo_85 (k34 : Nat → Int32 → Int32 → Int32 → Int32 → Int32 → hp_H → Option (hp_H)) (k70 : Nat → Int32 → Int32 → Int32 → Int32 → Int32 → Int32 → hp_H → Option (hp_H)) (k85 : Nat → Int32 → Int32 → Int32 → Int32 → Int32 → Int32 → Int32 → hp_H → Option (hp_H)) (x0 : Nat) (x1 : Int32) (x3 : Int32) (x4 : Int32) (x5 : Int32) (x6 : Int32) (x7 : Int32) (x8 : Int32) (h : hp_H) : Option (hp_H) := if 2 ≤ x8 then (f_X10_listenTo_136 k34 k70 x0 x1 x3 x4 x5 x6 x7 h) else ((rd_R h x0 10 9).bind fun v1 => (f_X3_hearsBeat v1 x7 x3 x4 x5 x8 h).bind fun r2 => (rd_R r2.2 x0 10 14).bind fun v3 => (f_X2_set v3 (((4 * x7) + (2 * x6)) + x8) r2.1 r2.2).bind fun r4 => k85 x0 x1 x3 x4 x5 x6 x7 (x8 + 1) r4)
set_option maxRecDepth 20000 in
theorem w_X10_listenTo_85 (X : wx G p s m args meth c cX10_listenTo 10 RX10 none) (k34 : Nat → Int32 → Int32 → Int32 → Int32 → Int32 → hp_H → Option (hp_H)) (hk34 : ∀ (x0 : Nat) (x1 : Int32) (x3 : Int32) (x4 : Int32) (x5 : Int32) (x6 : Int32) (h : hp_H), k34 x0 x1 x3 x4 x5 x6 h = some o → wq p l e (mt_R (4) 0 0) s m args below meth c (MQ below (mt_Q G none o) args s 0 0 (hp_A G)) G 10 0 0 34 [(0, .ref x0), (1, .int x1), (3, .int x3), (4, .int x4), (5, .int x5), (6, .int x6)] [] h) (k70 : Nat → Int32 → Int32 → Int32 → Int32 → Int32 → Int32 → hp_H → Option (hp_H)) (hk70 : ∀ (x0 : Nat) (x1 : Int32) (x3 : Int32) (x4 : Int32) (x5 : Int32) (x6 : Int32) (x7 : Int32) (h : hp_H), k70 x0 x1 x3 x4 x5 x6 x7 h = some o → wq p l e (mt_R (4) 0 0) s m args below meth c (MQ below (mt_Q G none o) args s 0 0 (hp_A G)) G 10 0 0 70 [(0, .ref x0), (1, .int x1), (3, .int x3), (4, .int x4), (5, .int x5), (6, .int x6), (7, .int x7)] [] h) (k85 : Nat → Int32 → Int32 → Int32 → Int32 → Int32 → Int32 → Int32 → hp_H → Option (hp_H)) (hk85 : ∀ (x0 : Nat) (x1 : Int32) (x3 : Int32) (x4 : Int32) (x5 : Int32) (x6 : Int32) (x7 : Int32) (x8 : Int32) (h : hp_H), k85 x0 x1 x3 x4 x5 x6 x7 x8 h = some o → wq p l e (mt_R (4) 0 0) s m args below meth c (MQ below (mt_Q G none o) args s 0 0 (hp_A G)) G 10 0 0 85 [(0, .ref x0), (1, .int x1), (3, .int x3), (4, .int x4), (5, .int x5), (6, .int x6), (7, .int x7), (8, .int x8)] [] h) (x0 : Nat) (x1 : Int32) (x3 : Int32) (x4 : Int32) (x5 : Int32) (x6 : Int32) (x7 : Int32) (x8 : Int32) (h : hp_H) (hf : f_X10_listenTo_85 k34 k70 k85 x0 x1 x3 x4 x5 x6 x7 x8 h = some o) : wq p l e (mt_R (4) 0 0) s m args below meth c (MQ below (mt_Q G none o) args s 0 0 (hp_A G)) G 10 0 0 85 [(0, .ref x0), (1, .int x1), (3, .int x3), (4, .int x4), (5, .int x5), (6, .int x6), (7, .int x7), (8, .int x8)] [] h := by
  unfold f_X10_listenTo_85 at hf
  refine wk_iload X dX10_listenTo_85 7 rfl ?_
  refine wk_iconst X dX10_listenTo_87 ic_2 ?_
  refine wk_icmp_ge X 136 dX10_listenTo_88 (by decide) hf (fun hf => ?_) (fun hf => ?_)
  · exact wq_sub [0, 1, 2, 3, 4, 5, 6] rfl (w_X10_listenTo_136 X k34 hk34 k70 hk70 _ _ _ _ _ _ _ _ hf)
  · refine wk_aload_n X dX10_listenTo_91 0 rfl ?_
    refine wk_getR X dX10_listenTo_92 fo_X10_59 hf (fun v1 hf => ?_)
    refine wk_iload X dX10_listenTo_95 6 rfl ?_
    refine wk_iload_n X dX10_listenTo_97 2 rfl ?_
    refine wk_iload X dX10_listenTo_98 3 rfl ?_
    refine wk_iload X dX10_listenTo_100 4 rfl ?_
    refine wk_iload X dX10_listenTo_102 7 rfl ?_
    refine wk_callVi X [.int x7, .int x3, .int x4, .int x5, .int x8] [] dX10_listenTo_104 rfl vo_X10_384 rfl (by decide) (Nat.le_of_ble_eq_true rfl) hf (c_X3_hearsBeat l _ _ _ _ _ _ _) (fun r2 hf => ?_)
    refine wk_istore (lv' := [(9, .int r2.1), (0, .ref x0), (1, .int x1), (3, .int x3), (4, .int x4), (5, .int x5), (6, .int x6), (7, .int x7), (8, .int x8)]) X dX10_listenTo_107 (by decide) rfl ?_
    refine wk_aload_n X dX10_listenTo_109 1 rfl ?_
    refine wk_getR X dX10_listenTo_110 fo_X10_88 hf (fun v3 hf => ?_)
    refine wk_iconst X dX10_listenTo_113 ic_4 ?_
    refine wk_iload X dX10_listenTo_114 7 rfl ?_
    refine wk_imul X dX10_listenTo_116 ?_
    refine wk_iconst X dX10_listenTo_117 ic_2 ?_
    refine wk_iload X dX10_listenTo_118 6 rfl ?_
    refine wk_imul X dX10_listenTo_120 ?_
    refine wk_iadd X dX10_listenTo_121 ?_
    refine wk_iload X dX10_listenTo_122 8 rfl ?_
    refine wk_iadd X dX10_listenTo_124 ?_
    refine wk_iload X dX10_listenTo_125 0 rfl ?_
    refine wk_callVv X [.int (((4 * x7) + (2 * x6)) + x8), .int r2.1] [] dX10_listenTo_127 rfl vo_X10_224 rfl (by decide) (Nat.le_of_ble_eq_true rfl) hf (c_X2_set l _ _ _ _) (fun r4 hf => ?_)
    refine wk_iinc (lv' := [(8, .int (x8 + 1)), (9, .int r2.1), (0, .ref x0), (1, .int x1), (3, .int x3), (4, .int x4), (5, .int x5), (6, .int x6), (7, .int x7)]) X dX10_listenTo_130 8 rfl ic_1 (by decide) rfl ?_
    refine wk_goto X 85 dX10_listenTo_133 (by decide) ?_
    exact wq_sub [2, 3, 4, 5, 6, 7, 8, 0] rfl (hk85 _ _ _ _ _ _ _ _ _ hf)
def l_X10_listenTo_85 (k34 : Nat → Int32 → Int32 → Int32 → Int32 → Int32 → hp_H → Option (hp_H)) (k70 : Nat → Int32 → Int32 → Int32 → Int32 → Int32 → Int32 → hp_H → Option (hp_H)) (x0 : Nat) (x1 : Int32) (x3 : Int32) (x4 : Int32) (x5 : Int32) (x6 : Int32) (x7 : Int32) (x8 : Int32) (h : hp_H) : Option (hp_H) := lp (fun k (s : Nat × Int32 × Int32 × Int32 × Int32 × Int32 × Int32 × Int32 × hp_H) => f_X10_listenTo_85 k34 k70 (fun a0 a1 a2 a3 a4 a5 a6 a7 a8 => k (a0, a1, a2, a3, a4, a5, a6, a7, a8)) s.1 s.2.1 s.2.2.1 s.2.2.2.1 s.2.2.2.2.1 s.2.2.2.2.2.1 s.2.2.2.2.2.2.1 s.2.2.2.2.2.2.2.1 s.2.2.2.2.2.2.2.2) 100000 (x0, x1, x3, x4, x5, x6, x7, x8, h)
theorem wl_X10_listenTo_85 (X : wx G p s m args meth c cX10_listenTo 10 RX10 none) (k34 : Nat → Int32 → Int32 → Int32 → Int32 → Int32 → hp_H → Option (hp_H)) (hk34 : ∀ (x0 : Nat) (x1 : Int32) (x3 : Int32) (x4 : Int32) (x5 : Int32) (x6 : Int32) (h : hp_H), k34 x0 x1 x3 x4 x5 x6 h = some o → wq p l e (mt_R (4) 0 0) s m args below meth c (MQ below (mt_Q G none o) args s 0 0 (hp_A G)) G 10 0 0 34 [(0, .ref x0), (1, .int x1), (3, .int x3), (4, .int x4), (5, .int x5), (6, .int x6)] [] h) (k70 : Nat → Int32 → Int32 → Int32 → Int32 → Int32 → Int32 → hp_H → Option (hp_H)) (hk70 : ∀ (x0 : Nat) (x1 : Int32) (x3 : Int32) (x4 : Int32) (x5 : Int32) (x6 : Int32) (x7 : Int32) (h : hp_H), k70 x0 x1 x3 x4 x5 x6 x7 h = some o → wq p l e (mt_R (4) 0 0) s m args below meth c (MQ below (mt_Q G none o) args s 0 0 (hp_A G)) G 10 0 0 70 [(0, .ref x0), (1, .int x1), (3, .int x3), (4, .int x4), (5, .int x5), (6, .int x6), (7, .int x7)] [] h) (x0 : Nat) (x1 : Int32) (x3 : Int32) (x4 : Int32) (x5 : Int32) (x6 : Int32) (x7 : Int32) (x8 : Int32) (h : hp_H) (hf : l_X10_listenTo_85 k34 k70 x0 x1 x3 x4 x5 x6 x7 x8 h = some o) : wq p l e (mt_R (4) 0 0) s m args below meth c (MQ below (mt_Q G none o) args s 0 0 (hp_A G)) G 10 0 0 85 [(0, .ref x0), (1, .int x1), (3, .int x3), (4, .int x4), (5, .int x5), (6, .int x6), (7, .int x7), (8, .int x8)] [] h :=
  lp_ind (P := fun (s_ : Nat × Int32 × Int32 × Int32 × Int32 × Int32 × Int32 × Int32 × hp_H) => wq p l e (mt_R (4) 0 0) s m args below meth c (MQ below (mt_Q G none o) args s 0 0 (hp_A G)) G 10 0 0 85 [(0, .ref s_.1), (1, .int s_.2.1), (3, .int s_.2.2.1), (4, .int s_.2.2.2.1), (5, .int s_.2.2.2.2.1), (6, .int s_.2.2.2.2.2.1), (7, .int s_.2.2.2.2.2.2.1), (8, .int s_.2.2.2.2.2.2.2.1)] [] s_.2.2.2.2.2.2.2.2) (fun k s hk hf => w_X10_listenTo_85 X k34 hk34 k70 hk70 (fun a0 a1 a2 a3 a4 a5 a6 a7 a8 => k (a0, a1, a2, a3, a4, a5, a6, a7, a8)) (fun a0 a1 a2 a3 a4 a5 a6 a7 a8 hf => hk (a0, a1, a2, a3, a4, a5, a6, a7, a8) hf) s.1 s.2.1 s.2.2.1 s.2.2.2.1 s.2.2.2.2.1 s.2.2.2.2.2.1 s.2.2.2.2.2.2.1 s.2.2.2.2.2.2.2.1 s.2.2.2.2.2.2.2.2 hf) 100000 (x0, x1, x3, x4, x5, x6, x7, x8, h) hf
def f_X10_listenTo_70 (k34 : Nat → Int32 → Int32 → Int32 → Int32 → Int32 → hp_H → Option (hp_H)) (k70 : Nat → Int32 → Int32 → Int32 → Int32 → Int32 → Int32 → hp_H → Option (hp_H)) (x0 : Nat) (x1 : Int32) (x3 : Int32) (x4 : Int32) (x5 : Int32) (x6 : Int32) (x7 : Int32) (h : hp_H) : Option (hp_H) := (rd_R h x0 10 4).bind fun v1 => (rd_I h v1 1 0).bind fun v2 => if v2 ≤ x7 then (f_X10_listenTo_142 k34 x0 x1 x3 x4 x5 x6 h) else (l_X10_listenTo_85 k34 k70 x0 x1 x3 x4 x5 x6 x7 0 h)
set_option maxRecDepth 20000 in
theorem w_X10_listenTo_70 (X : wx G p s m args meth c cX10_listenTo 10 RX10 none) (k34 : Nat → Int32 → Int32 → Int32 → Int32 → Int32 → hp_H → Option (hp_H)) (hk34 : ∀ (x0 : Nat) (x1 : Int32) (x3 : Int32) (x4 : Int32) (x5 : Int32) (x6 : Int32) (h : hp_H), k34 x0 x1 x3 x4 x5 x6 h = some o → wq p l e (mt_R (4) 0 0) s m args below meth c (MQ below (mt_Q G none o) args s 0 0 (hp_A G)) G 10 0 0 34 [(0, .ref x0), (1, .int x1), (3, .int x3), (4, .int x4), (5, .int x5), (6, .int x6)] [] h) (k70 : Nat → Int32 → Int32 → Int32 → Int32 → Int32 → Int32 → hp_H → Option (hp_H)) (hk70 : ∀ (x0 : Nat) (x1 : Int32) (x3 : Int32) (x4 : Int32) (x5 : Int32) (x6 : Int32) (x7 : Int32) (h : hp_H), k70 x0 x1 x3 x4 x5 x6 x7 h = some o → wq p l e (mt_R (4) 0 0) s m args below meth c (MQ below (mt_Q G none o) args s 0 0 (hp_A G)) G 10 0 0 70 [(0, .ref x0), (1, .int x1), (3, .int x3), (4, .int x4), (5, .int x5), (6, .int x6), (7, .int x7)] [] h) (x0 : Nat) (x1 : Int32) (x3 : Int32) (x4 : Int32) (x5 : Int32) (x6 : Int32) (x7 : Int32) (h : hp_H) (hf : f_X10_listenTo_70 k34 k70 x0 x1 x3 x4 x5 x6 x7 h = some o) : wq p l e (mt_R (4) 0 0) s m args below meth c (MQ below (mt_Q G none o) args s 0 0 (hp_A G)) G 10 0 0 70 [(0, .ref x0), (1, .int x1), (3, .int x3), (4, .int x4), (5, .int x5), (6, .int x6), (7, .int x7)] [] h := by
  unfold f_X10_listenTo_70 at hf
  refine wk_iload X dX10_listenTo_70 6 rfl ?_
  refine wk_aload_n X dX10_listenTo_72 0 rfl ?_
  refine wk_getR X dX10_listenTo_73 fo_X10_31 hf (fun v1 hf => ?_)
  refine wk_getI X dX10_listenTo_76 fo_X10_135 hf (fun v2 hf => ?_)
  refine wk_icmp_ge X 142 dX10_listenTo_79 (by decide) hf (fun hf => ?_) (fun hf => ?_)
  · exact wq_sub [0, 1, 2, 3, 4, 5] rfl (w_X10_listenTo_142 X k34 hk34 _ _ _ _ _ _ _ hf)
  · refine wk_iconst X dX10_listenTo_82 ic_0 ?_
    refine wk_istore (lv' := [(8, .int 0), (0, .ref x0), (1, .int x1), (3, .int x3), (4, .int x4), (5, .int x5), (6, .int x6), (7, .int x7)]) X dX10_listenTo_83 (by decide) rfl ?_
    exact wq_sub [1, 2, 3, 4, 5, 6, 7, 0] rfl (wl_X10_listenTo_85 X k34 hk34 k70 hk70 _ _ _ _ _ _ _ _ _ hf)
def l_X10_listenTo_70 (k34 : Nat → Int32 → Int32 → Int32 → Int32 → Int32 → hp_H → Option (hp_H)) (x0 : Nat) (x1 : Int32) (x3 : Int32) (x4 : Int32) (x5 : Int32) (x6 : Int32) (x7 : Int32) (h : hp_H) : Option (hp_H) := lp (fun k (s : Nat × Int32 × Int32 × Int32 × Int32 × Int32 × Int32 × hp_H) => f_X10_listenTo_70 k34 (fun a0 a1 a2 a3 a4 a5 a6 a7 => k (a0, a1, a2, a3, a4, a5, a6, a7)) s.1 s.2.1 s.2.2.1 s.2.2.2.1 s.2.2.2.2.1 s.2.2.2.2.2.1 s.2.2.2.2.2.2.1 s.2.2.2.2.2.2.2) 100000 (x0, x1, x3, x4, x5, x6, x7, h)
theorem wl_X10_listenTo_70 (X : wx G p s m args meth c cX10_listenTo 10 RX10 none) (k34 : Nat → Int32 → Int32 → Int32 → Int32 → Int32 → hp_H → Option (hp_H)) (hk34 : ∀ (x0 : Nat) (x1 : Int32) (x3 : Int32) (x4 : Int32) (x5 : Int32) (x6 : Int32) (h : hp_H), k34 x0 x1 x3 x4 x5 x6 h = some o → wq p l e (mt_R (4) 0 0) s m args below meth c (MQ below (mt_Q G none o) args s 0 0 (hp_A G)) G 10 0 0 34 [(0, .ref x0), (1, .int x1), (3, .int x3), (4, .int x4), (5, .int x5), (6, .int x6)] [] h) (x0 : Nat) (x1 : Int32) (x3 : Int32) (x4 : Int32) (x5 : Int32) (x6 : Int32) (x7 : Int32) (h : hp_H) (hf : l_X10_listenTo_70 k34 x0 x1 x3 x4 x5 x6 x7 h = some o) : wq p l e (mt_R (4) 0 0) s m args below meth c (MQ below (mt_Q G none o) args s 0 0 (hp_A G)) G 10 0 0 70 [(0, .ref x0), (1, .int x1), (3, .int x3), (4, .int x4), (5, .int x5), (6, .int x6), (7, .int x7)] [] h :=
  lp_ind (P := fun (s_ : Nat × Int32 × Int32 × Int32 × Int32 × Int32 × Int32 × hp_H) => wq p l e (mt_R (4) 0 0) s m args below meth c (MQ below (mt_Q G none o) args s 0 0 (hp_A G)) G 10 0 0 70 [(0, .ref s_.1), (1, .int s_.2.1), (3, .int s_.2.2.1), (4, .int s_.2.2.2.1), (5, .int s_.2.2.2.2.1), (6, .int s_.2.2.2.2.2.1), (7, .int s_.2.2.2.2.2.2.1)] [] s_.2.2.2.2.2.2.2) (fun k s hk hf => w_X10_listenTo_70 X k34 hk34 (fun a0 a1 a2 a3 a4 a5 a6 a7 => k (a0, a1, a2, a3, a4, a5, a6, a7)) (fun a0 a1 a2 a3 a4 a5 a6 a7 hf => hk (a0, a1, a2, a3, a4, a5, a6, a7) hf) s.1 s.2.1 s.2.2.1 s.2.2.2.1 s.2.2.2.2.1 s.2.2.2.2.2.1 s.2.2.2.2.2.2.1 s.2.2.2.2.2.2.2 hf) 100000 (x0, x1, x3, x4, x5, x6, x7, h) hf
def f_X10_listenTo_64 (k34 : Nat → Int32 → Int32 → Int32 → Int32 → Int32 → hp_H → Option (hp_H)) (x0 : Nat) (x1 : Int32) (x3 : Int32) (x4 : Int32) (x5 : Int32) (x6 : Int32) (t0 : Nat) (t1 : Int32) (t2 : Int32) (h : hp_H) : Option (hp_H) := (f_X2_set t0 t1 t2 h).bind fun r1 => l_X10_listenTo_70 k34 x0 x1 x3 x4 x5 x6 0 r1
set_option maxRecDepth 20000 in
theorem w_X10_listenTo_64 (X : wx G p s m args meth c cX10_listenTo 10 RX10 none) (k34 : Nat → Int32 → Int32 → Int32 → Int32 → Int32 → hp_H → Option (hp_H)) (hk34 : ∀ (x0 : Nat) (x1 : Int32) (x3 : Int32) (x4 : Int32) (x5 : Int32) (x6 : Int32) (h : hp_H), k34 x0 x1 x3 x4 x5 x6 h = some o → wq p l e (mt_R (4) 0 0) s m args below meth c (MQ below (mt_Q G none o) args s 0 0 (hp_A G)) G 10 0 0 34 [(0, .ref x0), (1, .int x1), (3, .int x3), (4, .int x4), (5, .int x5), (6, .int x6)] [] h) (x0 : Nat) (x1 : Int32) (x3 : Int32) (x4 : Int32) (x5 : Int32) (x6 : Int32) (t0 : Nat) (t1 : Int32) (t2 : Int32) (h : hp_H) (hf : f_X10_listenTo_64 k34 x0 x1 x3 x4 x5 x6 t0 t1 t2 h = some o) : wq p l e (mt_R (4) 0 0) s m args below meth c (MQ below (mt_Q G none o) args s 0 0 (hp_A G)) G 10 0 0 64 [(0, .ref x0), (1, .int x1), (3, .int x3), (4, .int x4), (5, .int x5), (6, .int x6)] [.int t2, .int t1, .ref t0] h := by
  unfold f_X10_listenTo_64 at hf
  refine wk_callVv X [.int t1, .int t2] [] dX10_listenTo_64 rfl vo_X10_224 rfl (by decide) (Nat.le_of_ble_eq_true rfl) hf (c_X2_set l _ _ _ _) (fun r1 hf => ?_)
  refine wk_iconst X dX10_listenTo_67 ic_0 ?_
  refine wk_istore (lv' := [(7, .int 0), (0, .ref x0), (1, .int x1), (3, .int x3), (4, .int x4), (5, .int x5), (6, .int x6)]) X dX10_listenTo_68 (by decide) rfl ?_
  exact wq_sub [1, 2, 3, 4, 5, 6, 0] rfl (wl_X10_listenTo_70 X k34 hk34 _ _ _ _ _ _ _ _ hf)
def f_X10_listenTo_34 (k34 : Nat → Int32 → Int32 → Int32 → Int32 → Int32 → hp_H → Option (hp_H)) (x0 : Nat) (x1 : Int32) (x3 : Int32) (x4 : Int32) (x5 : Int32) (x6 : Int32) (h : hp_H) : Option (hp_H) := if 2 ≤ x6 then (some h) else ((rd_R h x0 10 9).bind fun v1 => (rd_R h v1 3 2).bind fun v2 => if x6 = 0 then (f_X10_listenTo_64 k34 x0 x1 x3 x4 x5 x6 v2 x1 0 h) else ((rd_R h x0 10 4).bind fun v3 => (f_X1_allBeats v3 h).bind fun r4 => f_X10_listenTo_64 k34 x0 x1 x3 x4 x5 x6 v2 x1 r4.1 r4.2))
set_option maxRecDepth 20000 in
theorem w_X10_listenTo_34 (X : wx G p s m args meth c cX10_listenTo 10 RX10 none) (k34 : Nat → Int32 → Int32 → Int32 → Int32 → Int32 → hp_H → Option (hp_H)) (hk34 : ∀ (x0 : Nat) (x1 : Int32) (x3 : Int32) (x4 : Int32) (x5 : Int32) (x6 : Int32) (h : hp_H), k34 x0 x1 x3 x4 x5 x6 h = some o → wq p l e (mt_R (4) 0 0) s m args below meth c (MQ below (mt_Q G none o) args s 0 0 (hp_A G)) G 10 0 0 34 [(0, .ref x0), (1, .int x1), (3, .int x3), (4, .int x4), (5, .int x5), (6, .int x6)] [] h) (x0 : Nat) (x1 : Int32) (x3 : Int32) (x4 : Int32) (x5 : Int32) (x6 : Int32) (h : hp_H) (hf : f_X10_listenTo_34 k34 x0 x1 x3 x4 x5 x6 h = some o) : wq p l e (mt_R (4) 0 0) s m args below meth c (MQ below (mt_Q G none o) args s 0 0 (hp_A G)) G 10 0 0 34 [(0, .ref x0), (1, .int x1), (3, .int x3), (4, .int x4), (5, .int x5), (6, .int x6)] [] h := by
  unfold f_X10_listenTo_34 at hf
  refine wk_iload X dX10_listenTo_34 5 rfl ?_
  refine wk_iconst X dX10_listenTo_36 ic_2 ?_
  refine wk_icmp_ge X 148 dX10_listenTo_37 (by decide) hf (fun hf => ?_) (fun hf => ?_)
  · exact wk_return X dX10_listenTo_148 hf
  · refine wk_aload_n X dX10_listenTo_40 0 rfl ?_
    refine wk_getR X dX10_listenTo_41 fo_X10_59 hf (fun v1 hf => ?_)
    refine wk_getR X dX10_listenTo_44 fo_X10_174 hf (fun v2 hf => ?_)
    refine wk_iload_n X dX10_listenTo_47 1 rfl ?_
    refine wk_iload X dX10_listenTo_48 5 rfl ?_
    refine wk_if_ne X 57 dX10_listenTo_50 (by decide) hf (fun hf => ?_) (fun hf => ?_)
    · refine wk_aload_n X dX10_listenTo_57 0 rfl ?_
      refine wk_getR X dX10_listenTo_58 fo_X10_31 hf (fun v3 hf => ?_)
      refine wk_callVi X [] [.int x1, .ref v2] dX10_listenTo_61 rfl vo_X10_273 rfl (by decide) (Nat.le_of_ble_eq_true rfl) hf (c_X1_allBeats l _ _) (fun r4 hf => ?_)
      exact wq_sub [0, 1, 2, 3, 4, 5] rfl (w_X10_listenTo_64 X k34 hk34 _ _ _ _ _ _ _ _ _ _ hf)
    · refine wk_iconst X dX10_listenTo_53 ic_0 ?_
      refine wk_goto X 64 dX10_listenTo_54 (by decide) ?_
      exact wq_sub [0, 1, 2, 3, 4, 5] rfl (w_X10_listenTo_64 X k34 hk34 _ _ _ _ _ _ _ _ _ _ hf)
def l_X10_listenTo_34 (x0 : Nat) (x1 : Int32) (x3 : Int32) (x4 : Int32) (x5 : Int32) (x6 : Int32) (h : hp_H) : Option (hp_H) := lp (fun k (s : Nat × Int32 × Int32 × Int32 × Int32 × Int32 × hp_H) => f_X10_listenTo_34  (fun a0 a1 a2 a3 a4 a5 a6 => k (a0, a1, a2, a3, a4, a5, a6)) s.1 s.2.1 s.2.2.1 s.2.2.2.1 s.2.2.2.2.1 s.2.2.2.2.2.1 s.2.2.2.2.2.2) 100000 (x0, x1, x3, x4, x5, x6, h)
theorem wl_X10_listenTo_34 (X : wx G p s m args meth c cX10_listenTo 10 RX10 none) (x0 : Nat) (x1 : Int32) (x3 : Int32) (x4 : Int32) (x5 : Int32) (x6 : Int32) (h : hp_H) (hf : l_X10_listenTo_34 x0 x1 x3 x4 x5 x6 h = some o) : wq p l e (mt_R (4) 0 0) s m args below meth c (MQ below (mt_Q G none o) args s 0 0 (hp_A G)) G 10 0 0 34 [(0, .ref x0), (1, .int x1), (3, .int x3), (4, .int x4), (5, .int x5), (6, .int x6)] [] h :=
  lp_ind (P := fun (s_ : Nat × Int32 × Int32 × Int32 × Int32 × Int32 × hp_H) => wq p l e (mt_R (4) 0 0) s m args below meth c (MQ below (mt_Q G none o) args s 0 0 (hp_A G)) G 10 0 0 34 [(0, .ref s_.1), (1, .int s_.2.1), (3, .int s_.2.2.1), (4, .int s_.2.2.2.1), (5, .int s_.2.2.2.2.1), (6, .int s_.2.2.2.2.2.1)] [] s_.2.2.2.2.2.2) (fun k s hk hf => w_X10_listenTo_34 X  (fun a0 a1 a2 a3 a4 a5 a6 => k (a0, a1, a2, a3, a4, a5, a6)) (fun a0 a1 a2 a3 a4 a5 a6 hf => hk (a0, a1, a2, a3, a4, a5, a6) hf) s.1 s.2.1 s.2.2.1 s.2.2.2.1 s.2.2.2.2.1 s.2.2.2.2.2.1 s.2.2.2.2.2.2 hf) 100000 (x0, x1, x3, x4, x5, x6, h) hf
end Sf_X10_listenTo
def f_X10_listenTo (x0 : Nat) (x1 : Int32) (x2 : Int32) (h : hp_H) : Option (hp_H) := gd h x0 10 ((rd_R h x0 10 8).bind fun v1 => (f_X3_menAt v1 x2 0 h).bind fun r2 => (rd_R r2.2 x0 10 8).bind fun v3 => (f_X3_besideAt v3 x2 0 r2.2).bind fun r4 => (rd_R r4.2 x0 10 8).bind fun v5 => (f_X3_mudIn v5 0 r4.2).bind fun r6 => l_X10_listenTo_34 x0 x1 r2.1 r4.1 r6.1 0 r6.2)
set_option maxRecDepth 20000 in
theorem c_X10_listenTo (l : Launch) (x0 : Nat) (x1 : Int32) (x2 : Int32) (h : hp_H) (r : hp_H) (hf : f_X10_listenTo x0 x1 x2 h = some r) : cv l (4) yX10_listenTo cX10_listenTo 10 none 10 x0 [.int x1, .int x2] h none r := by
  unfold f_X10_listenTo at hf
  refine cv_of (lv := [(0, .ref x0), (1, .int x1), (2, .int x2)]) hf (by decide +kernel) (Nat.le_of_ble_eq_true rfl) rfl (fun hf p e s m args below meth c G X => ?_)
  refine wk_aload_n X dX10_listenTo_0 0 rfl ?_
  refine wk_getR X dX10_listenTo_1 fo_X10_55 hf (fun v1 hf => ?_)
  refine wk_iload_n X dX10_listenTo_4 2 rfl ?_
  refine wk_iconst X dX10_listenTo_5 ic_0 ?_
  refine wk_callVi X [.int x2, .int 0] [] dX10_listenTo_6 rfl vo_X10_247 rfl (by decide) (Nat.le_of_ble_eq_true rfl) hf (c_X3_menAt l _ _ _ _) (fun r2 hf => ?_)
  refine wk_istore_n (lv' := [(3, .int r2.1), (0, .ref x0), (1, .int x1), (2, .int x2)]) X dX10_listenTo_9 (by decide) rfl ?_
  refine wk_aload_n X dX10_listenTo_10 1 rfl ?_
  refine wk_getR X dX10_listenTo_11 fo_X10_55 hf (fun v3 hf => ?_)
  refine wk_iload_n X dX10_listenTo_14 3 rfl ?_
  refine wk_iconst X dX10_listenTo_15 ic_0 ?_
  refine wk_callVi X [.int x2, .int 0] [] dX10_listenTo_16 rfl vo_X10_381 rfl (by decide) (Nat.le_of_ble_eq_true rfl) hf (c_X3_besideAt l _ _ _ _) (fun r4 hf => ?_)
  refine wk_istore (lv' := [(4, .int r4.1), (3, .int r2.1), (0, .ref x0), (1, .int x1), (2, .int x2)]) X dX10_listenTo_19 (by decide) rfl ?_
  refine wk_aload_n X dX10_listenTo_21 2 rfl ?_
  refine wk_getR X dX10_listenTo_22 fo_X10_55 hf (fun v5 hf => ?_)
  refine wk_iconst X dX10_listenTo_25 ic_0 ?_
  refine wk_callVi X [.int 0] [] dX10_listenTo_26 rfl vo_X10_150 rfl (by decide) (Nat.le_of_ble_eq_true rfl) hf (c_X3_mudIn l _ _ _) (fun r6 hf => ?_)
  refine wk_istore (lv' := [(5, .int r6.1), (4, .int r4.1), (3, .int r2.1), (0, .ref x0), (1, .int x1), (2, .int x2)]) X dX10_listenTo_29 (by decide) rfl ?_
  refine wk_iconst X dX10_listenTo_31 ic_0 ?_
  refine wk_istore (lv' := [(6, .int 0), (5, .int r6.1), (4, .int r4.1), (3, .int r2.1), (0, .ref x0), (1, .int x1), (2, .int x2)]) X dX10_listenTo_32 (by decide) rfl ?_
  exact wq_sub [4, 5, 3, 2, 1, 0] rfl (wl_X10_listenTo_34 X _ _ _ _ _ _ _ hf)
section Sf_X10_isNamedWith
variable {p : Program} {l : Launch} {e : Env} {s : State} {m : MethodId} {args : Array Value} {below : List Frame} {meth : Method} {c : Code} {G : hp_G} {o : Int32 × hp_H}
def f_X10_isNamedWith_88 (t0 : Int32) (h : hp_H) : Option (Int32 × hp_H) := if t0 = 0 ∨ t0 = 1 then some (t0, h) else none
set_option maxRecDepth 20000 in
theorem w_X10_isNamedWith_88 (X : wx G p s m args meth c cX10_isNamedWith 6 RX10 (some .boolean)) (t0 : Int32) (h : hp_H) (hf : f_X10_isNamedWith_88 t0 h = some o) : wq p l e (mt_R (3) 0 0) s m args below meth c (MQ below (mt_Q G (some (.int o.1)) o.2) args s 0 0 (hp_A G)) G 6 0 0 88 [] [.int t0] h := by
  unfold f_X10_isNamedWith_88 at hf
  exact wk_zreturn X dX10_isNamedWith_88 hf
def f_X10_isNamedWith_59 (x0 : Nat) (x1 : Int32) (x2 : Int32) (x3 : Int32) (h : hp_H) : Option (Int32 × hp_H) := (rd_R h x0 10 9).bind fun v1 => (rd_R h v1 3 2).bind fun v2 => (f_X2_set v2 x1 x2 h).bind fun r3 => (rd_R r3 x0 10 9).bind fun v4 => (f_X3_namedBy v4 x3 r3).bind fun r5 => if r5.1 = x1 then (f_X10_isNamedWith_88 1 r5.2) else (f_X10_isNamedWith_88 0 r5.2)
set_option maxRecDepth 20000 in
theorem w_X10_isNamedWith_59 (X : wx G p s m args meth c cX10_isNamedWith 6 RX10 (some .boolean)) (x0 : Nat) (x1 : Int32) (x2 : Int32) (x3 : Int32) (h : hp_H) (hf : f_X10_isNamedWith_59 x0 x1 x2 x3 h = some o) : wq p l e (mt_R (3) 0 0) s m args below meth c (MQ below (mt_Q G (some (.int o.1)) o.2) args s 0 0 (hp_A G)) G 6 0 0 59 [(0, .ref x0), (1, .int x1), (2, .int x2), (3, .int x3)] [] h := by
  unfold f_X10_isNamedWith_59 at hf
  refine wk_aload_n X dX10_isNamedWith_59 0 rfl ?_
  refine wk_getR X dX10_isNamedWith_60 fo_X10_59 hf (fun v1 hf => ?_)
  refine wk_getR X dX10_isNamedWith_63 fo_X10_174 hf (fun v2 hf => ?_)
  refine wk_iload_n X dX10_isNamedWith_66 1 rfl ?_
  refine wk_iload_n X dX10_isNamedWith_67 2 rfl ?_
  refine wk_callVv X [.int x1, .int x2] [] dX10_isNamedWith_68 rfl vo_X10_224 rfl (by decide) (Nat.le_of_ble_eq_true rfl) hf (c_X2_set l _ _ _ _) (fun r3 hf => ?_)
  refine wk_aload_n X dX10_isNamedWith_71 0 rfl ?_
  refine wk_getR X dX10_isNamedWith_72 fo_X10_59 hf (fun v4 hf => ?_)
  refine wk_iload_n X dX10_isNamedWith_75 3 rfl ?_
  refine wk_callVi X [.int x3] [] dX10_isNamedWith_76 rfl vo_X10_332 rfl (by decide) (Nat.le_of_ble_eq_true rfl) hf (c_X3_namedBy l _ _ _) (fun r5 hf => ?_)
  refine wk_iload_n X dX10_isNamedWith_79 1 rfl ?_
  refine wk_icmp_ne X 87 dX10_isNamedWith_80 (by decide) hf (fun hf => ?_) (fun hf => ?_)
  · refine wk_iconst X dX10_isNamedWith_87 ic_0 ?_
    exact wq_sub [] rfl (w_X10_isNamedWith_88 X _ _ hf)
  · refine wk_iconst X dX10_isNamedWith_83 ic_1 ?_
    refine wk_goto X 88 dX10_isNamedWith_84 (by decide) ?_
    exact wq_sub [] rfl (w_X10_isNamedWith_88 X _ _ hf)
def f_X10_isNamedWith_8 (k8 : Nat → Int32 → Int32 → Int32 → Int32 → Int32 → hp_H → Option (Int32 × hp_H)) (x0 : Nat) (x1 : Int32) (x2 : Int32) (x3 : Int32) (x4 : Int32) (x5 : Int32) (h : hp_H) : Option (Int32 × hp_H) := (rd_R h x0 10 4).bind fun v1 => (rd_I h v1 1 0).bind fun v2 => if v2 ≤ x5 then (f_X10_isNamedWith_59 x0 x1 x2 x3 h) else ((rd_R h x0 10 14).bind fun v3 => (f_X2_at v3 (((4 * x5) + ((2 : Int32) * ((x2 >>> (x5 &&& 31)) &&& (1 : Int32)))) + x4) h).bind fun r4 => k8 x0 x1 x2 (x3 ||| (r4.1 <<< (x5 &&& 31))) r4.1 (x5 + 1) r4.2)
set_option maxRecDepth 20000 in
theorem w_X10_isNamedWith_8 (X : wx G p s m args meth c cX10_isNamedWith 6 RX10 (some .boolean)) (k8 : Nat → Int32 → Int32 → Int32 → Int32 → Int32 → hp_H → Option (Int32 × hp_H)) (hk8 : ∀ (x0 : Nat) (x1 : Int32) (x2 : Int32) (x3 : Int32) (x4 : Int32) (x5 : Int32) (h : hp_H), k8 x0 x1 x2 x3 x4 x5 h = some o → wq p l e (mt_R (3) 0 0) s m args below meth c (MQ below (mt_Q G (some (.int o.1)) o.2) args s 0 0 (hp_A G)) G 6 0 0 8 [(0, .ref x0), (1, .int x1), (2, .int x2), (3, .int x3), (4, .int x4), (5, .int x5)] [] h) (x0 : Nat) (x1 : Int32) (x2 : Int32) (x3 : Int32) (x4 : Int32) (x5 : Int32) (h : hp_H) (hf : f_X10_isNamedWith_8 k8 x0 x1 x2 x3 x4 x5 h = some o) : wq p l e (mt_R (3) 0 0) s m args below meth c (MQ below (mt_Q G (some (.int o.1)) o.2) args s 0 0 (hp_A G)) G 6 0 0 8 [(0, .ref x0), (1, .int x1), (2, .int x2), (3, .int x3), (4, .int x4), (5, .int x5)] [] h := by
  unfold f_X10_isNamedWith_8 at hf
  refine wk_iload X dX10_isNamedWith_8 5 rfl ?_
  refine wk_aload_n X dX10_isNamedWith_10 0 rfl ?_
  refine wk_getR X dX10_isNamedWith_11 fo_X10_31 hf (fun v1 hf => ?_)
  refine wk_getI X dX10_isNamedWith_14 fo_X10_135 hf (fun v2 hf => ?_)
  refine wk_icmp_ge X 59 dX10_isNamedWith_17 (by decide) hf (fun hf => ?_) (fun hf => ?_)
  · exact wq_sub [0, 1, 2, 3] rfl (w_X10_isNamedWith_59 X _ _ _ _ _ hf)
  · refine wk_aload_n X dX10_isNamedWith_20 0 rfl ?_
    refine wk_getR X dX10_isNamedWith_21 fo_X10_88 hf (fun v3 hf => ?_)
    refine wk_iconst X dX10_isNamedWith_24 ic_4 ?_
    refine wk_iload X dX10_isNamedWith_25 5 rfl ?_
    refine wk_imul X dX10_isNamedWith_27 ?_
    refine wk_iconst X dX10_isNamedWith_28 ic_2 ?_
    refine wk_iload_n X dX10_isNamedWith_29 2 rfl ?_
    refine wk_iload X dX10_isNamedWith_30 5 rfl ?_
    refine wk_ishr X dX10_isNamedWith_32 ?_
    refine wk_iconst X dX10_isNamedWith_33 ic_1 ?_
    refine wk_iand X dX10_isNamedWith_34 ?_
    refine wk_imul X dX10_isNamedWith_35 ?_
    refine wk_iadd X dX10_isNamedWith_36 ?_
    refine wk_iload X dX10_isNamedWith_37 4 rfl ?_
    refine wk_iadd X dX10_isNamedWith_39 ?_
    refine wk_callVi X [.int (((4 * x5) + ((2 : Int32) * ((x2 >>> (x5 &&& 31)) &&& (1 : Int32)))) + x4)] [] dX10_isNamedWith_40 rfl vo_X10_163 rfl (by decide) (Nat.le_of_ble_eq_true rfl) hf (c_X2_at l _ _ _) (fun r4 hf => ?_)
    refine wk_istore (lv' := [(4, .int r4.1), (0, .ref x0), (1, .int x1), (2, .int x2), (3, .int x3), (5, .int x5)]) X dX10_isNamedWith_43 (by decide) rfl ?_
    refine wk_iload_n X dX10_isNamedWith_45 4 rfl ?_
    refine wk_iload X dX10_isNamedWith_46 0 rfl ?_
    refine wk_iload X dX10_isNamedWith_48 5 rfl ?_
    refine wk_ishl X dX10_isNamedWith_50 ?_
    refine wk_ior X dX10_isNamedWith_51 ?_
    refine wk_istore_n (lv' := [(3, .int (x3 ||| (r4.1 <<< (x5 &&& 31)))), (4, .int r4.1), (0, .ref x0), (1, .int x1), (2, .int x2), (5, .int x5)]) X dX10_isNamedWith_52 (by decide) rfl ?_
    refine wk_iinc (lv' := [(5, .int (x5 + 1)), (3, .int (x3 ||| (r4.1 <<< (x5 &&& 31)))), (4, .int r4.1), (0, .ref x0), (1, .int x1), (2, .int x2)]) X dX10_isNamedWith_53 5 rfl ic_1 (by decide) rfl ?_
    refine wk_goto X 8 dX10_isNamedWith_56 (by decide) ?_
    exact wq_sub [3, 4, 5, 1, 2, 0] rfl (hk8 _ _ _ _ _ _ _ hf)
def l_X10_isNamedWith_8 (x0 : Nat) (x1 : Int32) (x2 : Int32) (x3 : Int32) (x4 : Int32) (x5 : Int32) (h : hp_H) : Option (Int32 × hp_H) := lp (fun k (s : Nat × Int32 × Int32 × Int32 × Int32 × Int32 × hp_H) => f_X10_isNamedWith_8  (fun a0 a1 a2 a3 a4 a5 a6 => k (a0, a1, a2, a3, a4, a5, a6)) s.1 s.2.1 s.2.2.1 s.2.2.2.1 s.2.2.2.2.1 s.2.2.2.2.2.1 s.2.2.2.2.2.2) 100000 (x0, x1, x2, x3, x4, x5, h)
theorem wl_X10_isNamedWith_8 (X : wx G p s m args meth c cX10_isNamedWith 6 RX10 (some .boolean)) (x0 : Nat) (x1 : Int32) (x2 : Int32) (x3 : Int32) (x4 : Int32) (x5 : Int32) (h : hp_H) (hf : l_X10_isNamedWith_8 x0 x1 x2 x3 x4 x5 h = some o) : wq p l e (mt_R (3) 0 0) s m args below meth c (MQ below (mt_Q G (some (.int o.1)) o.2) args s 0 0 (hp_A G)) G 6 0 0 8 [(0, .ref x0), (1, .int x1), (2, .int x2), (3, .int x3), (4, .int x4), (5, .int x5)] [] h :=
  lp_ind (P := fun (s_ : Nat × Int32 × Int32 × Int32 × Int32 × Int32 × hp_H) => wq p l e (mt_R (3) 0 0) s m args below meth c (MQ below (mt_Q G (some (.int o.1)) o.2) args s 0 0 (hp_A G)) G 6 0 0 8 [(0, .ref s_.1), (1, .int s_.2.1), (2, .int s_.2.2.1), (3, .int s_.2.2.2.1), (4, .int s_.2.2.2.2.1), (5, .int s_.2.2.2.2.2.1)] [] s_.2.2.2.2.2.2) (fun k s hk hf => w_X10_isNamedWith_8 X  (fun a0 a1 a2 a3 a4 a5 a6 => k (a0, a1, a2, a3, a4, a5, a6)) (fun a0 a1 a2 a3 a4 a5 a6 hf => hk (a0, a1, a2, a3, a4, a5, a6) hf) s.1 s.2.1 s.2.2.1 s.2.2.2.1 s.2.2.2.2.1 s.2.2.2.2.2.1 s.2.2.2.2.2.2 hf) 100000 (x0, x1, x2, x3, x4, x5, h) hf
end Sf_X10_isNamedWith
def f_X10_isNamedWith (x0 : Nat) (x1 : Int32) (x2 : Int32) (h : hp_H) : Option (Int32 × hp_H) := gd h x0 10 (l_X10_isNamedWith_8 x0 x1 x2 0 0 0 h)
set_option maxRecDepth 20000 in
theorem c_X10_isNamedWith (l : Launch) (x0 : Nat) (x1 : Int32) (x2 : Int32) (h : hp_H) (r : Int32 × hp_H) (hf : f_X10_isNamedWith x0 x1 x2 h = some r) : cv l (3) yX10_isNamedWith cX10_isNamedWith 6 (some .boolean) 10 x0 [.int x1, .int x2] h (some (.int r.1)) r.2 := by
  unfold f_X10_isNamedWith at hf
  refine cv_of (lv := [(0, .ref x0), (1, .int x1), (2, .int x2)]) hf (by decide +kernel) (Nat.le_of_ble_eq_true rfl) rfl (fun hf p e s m args below meth c G X => ?_)
  refine wk_iconst X dX10_isNamedWith_0 ic_0 ?_
  refine wk_istore_n (lv' := [(3, .int 0), (0, .ref x0), (1, .int x1), (2, .int x2)]) X dX10_isNamedWith_1 (by decide) rfl ?_
  refine wk_iconst X dX10_isNamedWith_2 ic_0 ?_
  refine wk_istore (lv' := [(4, .int 0), (3, .int 0), (0, .ref x0), (1, .int x1), (2, .int x2)]) X dX10_isNamedWith_3 (by decide) rfl ?_
  refine wk_iconst X dX10_isNamedWith_5 ic_0 ?_
  refine wk_istore (lv' := [(5, .int 0), (4, .int 0), (3, .int 0), (0, .ref x0), (1, .int x1), (2, .int x2)]) X dX10_isNamedWith_6 (by decide) rfl ?_
  exact wq_sub [3, 4, 5, 2, 1, 0] rfl (wl_X10_isNamedWith_8 X _ _ _ _ _ _ _ hf)
