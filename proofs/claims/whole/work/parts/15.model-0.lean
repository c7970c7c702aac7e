section Sf_X11_thrown
variable {p : Program} {l : Launch} {e : Env} {s : State} {m : MethodId} {args : Array Value} {below : List Frame} {meth : Method} {c : Code} {G : hp_G} {o : Int32 × hp_H}
end Sf_X11_thrown
def f_X11_thrown (x0 : Nat) (h : hp_H) : Option (Int32 × hp_H) := gd h x0 11 ((rd_I h x0 11 0).bind fun v1 => some (v1, h))
set_option maxRecDepth 20000 in
theorem c_X11_thrown (l : Launch) (x0 : Nat) (h : hp_H) (r : Int32 × hp_H) (hf : f_X11_thrown x0 h = some r) : cv l (1) yX11_thrown cX11_thrown 1 (some .int) 11 x0 [] h (some (.int r.1)) r.2 := by
  unfold f_X11_thrown at hf
  refine cv_of (lv := [(0, .ref x0)]) hf (by decide +kernel) (Nat.le_of_ble_eq_true rfl) rfl (fun hf p e s m args below meth c G X => ?_)
  refine wk_aload_n X dX11_thrown_0 0 rfl ?_
  refine wk_getI X dX11_thrown_1 fo_X11_84 hf (fun v1 hf => ?_)
  exact wk_ireturn X dX11_thrown_4 hf
section Sf_X11_right
variable {p : Program} {l : Launch} {e : Env} {s : State} {m : MethodId} {args : Array Value} {below : List Frame} {meth : Method} {c : Code} {G : hp_G} {o : Int32 × hp_H}
def f_X11_right_28 (t0 : Int32) (h : hp_H) : Option (Int32 × hp_H) := if t0 = 0 ∨ t0 = 1 then some (t0, h) else none
set_option maxRecDepth 20000 in
theorem w_X11_right_28 (X : wx G p s m args meth c cX11_right 3 RX11 (some .boolean)) (t0 : Int32) (h : hp_H) (hf : f_X11_right_28 t0 h = some o) : wq p l e (mt_R (1) 0 0) s m args below meth c (MQ below (mt_Q G (some (.int o.1)) o.2) args s 0 0 (hp_A G)) G 3 0 0 28 [] [.int t0] h := by
  unfold f_X11_right_28 at hf
  exact wk_zreturn X dX11_right_28 hf
def f_X11_right_16 (x0 : Nat) (h : hp_H) : Option (Int32 × hp_H) := (rd_I h x0 11 0).bind fun v1 => if v1 = 0 then (f_X11_right_28 1 h) else (f_X11_right_28 0 h)
set_option maxRecDepth 20000 in
theorem w_X11_right_16 (X : wx G p s m args meth c cX11_right 3 RX11 (some .boolean)) (x0 : Nat) (h : hp_H) (hf : f_X11_right_16 x0 h = some o) : wq p l e (mt_R (1) 0 0) s m args below meth c (MQ below (mt_Q G (some (.int o.1)) o.2) args s 0 0 (hp_A G)) G 3 0 0 16 [(0, .ref x0)] [] h := by
  unfold f_X11_right_16 at hf
  refine wk_aload_n X dX11_right_16 0 rfl ?_
  refine wk_getI X dX11_right_17 fo_X11_84 hf (fun v1 hf => ?_)
  refine wk_if_ne X 27 dX11_right_20 (by decide) hf (fun hf => ?_) (fun hf => ?_)
  · refine wk_iconst X dX11_right_27 ic_0 ?_
    exact wq_sub [] rfl (w_X11_right_28 X _ _ hf)
  · refine wk_iconst X dX11_right_23 ic_1 ?_
    refine wk_goto X 28 dX11_right_24 (by decide) ?_
    exact wq_sub [] rfl (w_X11_right_28 X _ _ hf)
end Sf_X11_right
def f_X11_right (x0 : Nat) (x1 : Int32) (x2 : Int32) (h : hp_H) : Option (Int32 × hp_H) := gd h x0 11 ((rd_I h x0 11 0).bind fun v1 => if v1 = 0 then (if x1 = 0 then ((wr_I h x0 11 0 x2).bind fun h2 => f_X11_right_16 x0 h2) else (f_X11_right_16 x0 h)) else (f_X11_right_16 x0 h))
set_option maxRecDepth 20000 in
theorem c_X11_right (l : Launch) (x0 : Nat) (x1 : Int32) (x2 : Int32) (h : hp_H) (r : Int32 × hp_H) (hf : f_X11_right x0 x1 x2 h = some r) : cv l (1) yX11_right cX11_right 3 (some .boolean) 11 x0 [.int x1, .int x2] h (some (.int r.1)) r.2 := by
  unfold f_X11_right at hf
  refine cv_of (lv := [(0, .ref x0), (1, .int x1), (2, .int x2)]) hf (by decide +kernel) (Nat.le_of_ble_eq_true rfl) rfl (fun hf p e s m args below meth c G X => ?_)
  refine wk_aload_n X dX11_right_0 0 rfl ?_
  refine wk_getI X dX11_right_1 fo_X11_84 hf (fun v1 hf => ?_)
  refine wk_if_ne X 16 dX11_right_4 (by decide) hf (fun hf => ?_) (fun hf => ?_)
  · exact wq_sub [0] rfl (w_X11_right_16 X _ _ hf)
  · refine wk_iload_n X dX11_right_7 1 rfl ?_
    refine wk_if_ne X 16 dX11_right_8 (by decide) hf (fun hf => ?_) (fun hf => ?_)
    · exact wq_sub [0] rfl (w_X11_right_16 X _ _ hf)
    · refine wk_aload_n X dX11_right_11 0 rfl ?_
      refine wk_iload_n X dX11_right_12 2 rfl ?_
      refine wk_putI X dX11_right_13 fo_X11_84 hf (fun h2 hf => ?_)
      exact wq_sub [0] rfl (w_X11_right_16 X _ _ hf)
section Sf_X11_within
variable {p : Program} {l : Launch} {e : Env} {s : State} {m : MethodId} {args : Array Value} {below : List Frame} {meth : Method} {c : Code} {G : hp_G} {o : Int32 × hp_H}
def f_X11_within_15 (t0 : Int32) (h : hp_H) : Option (Int32 × hp_H) := if t0 = 0 ∨ t0 = 1 then some (t0, h) else none
set_option maxRecDepth 20000 in
theorem w_X11_within_15 (X : wx G p s m args meth c cX11_within 3 RX11 (some .boolean)) (t0 : Int32) (h : hp_H) (hf : f_X11_within_15 t0 h = some o) : wq p l e (mt_R (1) 0 0) s m args below meth c (MQ below (mt_Q G (some (.int o.1)) o.2) args s 0 0 (hp_A G)) G 3 0 0 15 [] [.int t0] h := by
  unfold f_X11_within_15 at hf
  exact wk_zreturn X dX11_within_15 hf
def f_X11_within_14  (h : hp_H) : Option (Int32 × hp_H) := f_X11_within_15 0 h
set_option maxRecDepth 20000 in
theorem w_X11_within_14 (X : wx G p s m args meth c cX11_within 3 RX11 (some .boolean))  (h : hp_H) (hf : f_X11_within_14 h = some o) : wq p l e (mt_R (1) 0 0) s m args below meth c (MQ below (mt_Q G (some (.int o.1)) o.2) args s 0 0 (hp_A G)) G 3 0 0 14 [] [] h := by
  unfold f_X11_within_14 at hf
  refine wk_iconst X dX11_within_14 ic_0 ?_
  exact wq_sub [] rfl (w_X11_within_15 X _ _ hf)
end Sf_X11_within
def f_X11_within (x0 : Int32) (x1 : Int32) (x2 : Int32) (h : hp_H) : Option (Int32 × hp_H) := if x0 < x1 then (f_X11_within_14 h) else (if x2 < x0 then (f_X11_within_14 h) else (f_X11_within_15 1 h))
set_option maxRecDepth 20000 in
theorem c_X11_within (l : Launch) (x0 : Int32) (x1 : Int32) (x2 : Int32) (h : hp_H) (r : Int32 × hp_H) (hf : f_X11_within x0 x1 x2 h = some r) : cs l 1 yX11_within cX11_within 3 (some .boolean) [.int x0, .int x1, .int x2] h (some (.int r.1)) r.2 := by
  unfold f_X11_within at hf
  refine mt_of (lv := [(0, .int x0), (1, .int x1), (2, .int x2)]) (by decide +kernel) (Nat.le_of_ble_eq_true rfl) rfl (fun p e s m args below meth c G X => ?_)
  refine wk_iload_n X dX11_within_0 0 rfl ?_
  refine wk_iload_n X dX11_within_1 1 rfl ?_
  refine wk_icmp_lt X 14 dX11_within_2 (by decide) hf (fun hf => ?_) (fun hf => ?_)
  · exact wq_sub [] rfl (w_X11_within_14 X _ hf)
  · refine wk_iload_n X dX11_within_5 0 rfl ?_
    refine wk_iload_n X dX11_within_6 2 rfl ?_
    refine wk_icmp_gt X 14 dX11_within_7 (by decide) hf (fun hf => ?_) (fun hf => ?_)
    · exact wq_sub [] rfl (w_X11_within_14 X _ hf)
    · refine wk_iconst X dX11_within_10 ic_1 ?_
      refine wk_goto X 15 dX11_within_11 (by decide) ?_
      exact wq_sub [] rfl (w_X11_within_15 X _ _ hf)
section Sf_X11_lesser
variable {p : Program} {l : Launch} {e : Env} {s : State} {m : MethodId} {args : Array Value} {below : List Frame} {meth : Method} {c : Code} {G : hp_G} {o : Int32 × hp_H}
def f_X11_lesser_10 (t0 : Int32) (h : hp_H) : Option (Int32 × hp_H) := some (t0, h)
set_option maxRecDepth 20000 in
theorem w_X11_lesser_10 (X : wx G p s m args meth c cX11_lesser 2 RX11 (some .int)) (t0 : Int32) (h : hp_H) (hf : f_X11_lesser_10 t0 h = some o) : wq p l e (mt_R (1) 0 0) s m args below meth c (MQ below (mt_Q G (some (.int o.1)) o.2) args s 0 0 (hp_A G)) G 2 0 0 10 [] [.int t0] h := by
  unfold f_X11_lesser_10 at hf
  exact wk_ireturn X dX11_lesser_10 hf
end Sf_X11_lesser
def f_X11_lesser (x0 : Int32) (x1 : Int32) (h : hp_H) : Option (Int32 × hp_H) := if x1 ≤ x0 then (f_X11_lesser_10 x1 h) else (f_X11_lesser_10 x0 h)
set_option maxRecDepth 20000 in
theorem c_X11_lesser (l : Launch) (x0 : Int32) (x1 : Int32) (h : hp_H) (r : Int32 × hp_H) (hf : f_X11_lesser x0 x1 h = some r) : cs l 1 yX11_lesser cX11_lesser 2 (some .int) [.int x0, .int x1] h (some (.int r.1)) r.2 := by
  unfold f_X11_lesser at hf
  refine mt_of (lv := [(0, .int x0), (1, .int x1)]) (by decide +kernel) (Nat.le_of_ble_eq_true rfl) rfl (fun p e s m args below meth c G X => ?_)
  refine wk_iload_n X dX11_lesser_0 0 rfl ?_
  refine wk_iload_n X dX11_lesser_1 1 rfl ?_
  refine wk_icmp_ge X 9 dX11_lesser_2 (by decide) hf (fun hf => ?_) (fun hf => ?_)
  · refine wk_iload_n X dX11_lesser_9 1 rfl ?_
    exact wq_sub [] rfl (w_X11_lesser_10 X _ _ hf)
  · refine wk_iload_n X dX11_lesser_5 0 rfl ?_
    refine wk_goto X 10 dX11_lesser_6 (by decide) ?_
    exact wq_sub [] rfl (w_X11_lesser_10 X _ _ hf)
section Sf_X11_copies
variable {p : Program} {l : Launch} {e : Env} {s : State} {m : MethodId} {args : Array Value} {below : List Frame} {meth : Method} {c : Code} {G : hp_G} {o : hp_H}
def f_X11_copies_2 (k2 : Nat → Nat → Int32 → hp_H → Option (hp_H)) (x1 : Nat) (x2 : Nat) (x3 : Int32) (h : hp_H) : Option (hp_H) := (rd_L h x1).bind fun v1 => if v1 ≤ x3 then (some h) else ((rd_A h 0 x1 x3).bind fun v2 => (wr_A h x2 x3 v2).bind fun h3 => k2 x1 x2 (x3 + 1) h3)
set_option maxRecDepth 20000 in
theorem w_X11_copies_2 (X : wx G p s m args meth c cX11_copies 4 RX11 none) (k2 : Nat → Nat → Int32 → hp_H → Option (hp_H)) (hk2 : ∀ (x1 : Nat) (x2 : Nat) (x3 : Int32) (h : hp_H), k2 x1 x2 x3 h = some o → wq p l e (mt_R (1) 0 0) s m args below meth c (MQ below (mt_Q G none o) args s 0 0 (hp_A G)) G 4 0 0 2 [(1, .ref x1), (2, .ref x2), (3, .int x3)] [] h) (x1 : Nat) (x2 : Nat) (x3 : Int32) (h : hp_H) (hf : f_X11_copies_2 k2 x1 x2 x3 h = some o) : wq p l e (mt_R (1) 0 0) s m args below meth c (MQ below (mt_Q G none o) args s 0 0 (hp_A G)) G 4 0 0 2 [(1, .ref x1), (2, .ref x2), (3, .int x3)] [] h := by
  unfold f_X11_copies_2 at hf
  refine wk_iload_n X dX11_copies_2 2 rfl ?_
  refine wk_aload_n X dX11_copies_3 0 rfl ?_
  refine wk_alen X dX11_copies_4 hf (fun v1 hf => ?_)
  refine wk_icmp_ge X 20 dX11_copies_5 (by decide) hf (fun hf => ?_) (fun hf => ?_)
  · exact wk_return X dX11_copies_20 hf
  · refine wk_aload_n X dX11_copies_8 1 rfl ?_
    refine wk_iload_n X dX11_copies_9 2 rfl ?_
    refine wk_aload_n X dX11_copies_10 0 rfl ?_
    refine wk_iload_n X dX11_copies_11 2 rfl ?_
    refine wk_iald X dX11_copies_12 hf (fun v2 hf => ?_)
    refine wk_iast X dX11_copies_13 hf (fun h3 hf => ?_)
    refine wk_iinc (lv' := [(3, .int (x3 + 1)), (1, .ref x1), (2, .ref x2)]) X dX11_copies_14 2 rfl ic_1 (by decide) rfl ?_
    refine wk_goto X 2 dX11_copies_17 (by decide) ?_
    exact wq_sub [1, 2, 0] rfl (hk2 _ _ _ _ hf)
def l_X11_copies_2 (x1 : Nat) (x2 : Nat) (x3 : Int32) (h : hp_H) : Option (hp_H) := lp (fun k (s : Nat × Nat × Int32 × hp_H) => f_X11_copies_2  (fun a0 a1 a2 a3 => k (a0, a1, a2, a3)) s.1 s.2.1 s.2.2.1 s.2.2.2) 100000 (x1, x2, x3, h)
theorem wl_X11_copies_2 (X : wx G p s m args meth c cX11_copies 4 RX11 none) (x1 : Nat) (x2 : Nat) (x3 : Int32) (h : hp_H) (hf : l_X11_copies_2 x1 x2 x3 h = some o) : wq p l e (mt_R (1) 0 0) s m args below meth c (MQ below (mt_Q G none o) args s 0 0 (hp_A G)) G 4 0 0 2 [(1, .ref x1), (2, .ref x2), (3, .int x3)] [] h :=
  lp_ind (P := fun (s_ : Nat × Nat × Int32 × hp_H) => wq p l e (mt_R (1) 0 0) s m args below meth c (MQ below (mt_Q G none o) args s 0 0 (hp_A G)) G 4 0 0 2 [(1, .ref s_.1), (2, .ref s_.2.1), (3, .int s_.2.2.1)] [] s_.2.2.2) (fun k s hk hf => w_X11_copies_2 X  (fun a0 a1 a2 a3 => k (a0, a1, a2, a3)) (fun a0 a1 a2 a3 hf => hk (a0, a1, a2, a3) hf) s.1 s.2.1 s.2.2.1 s.2.2.2 hf) 100000 (x1, x2, x3, h) hf
end Sf_X11_copies
def f_X11_copies (x0 : Nat) (x1 : Nat) (x2 : Nat) (h : hp_H) : Option (hp_H) := gd h x0 11 (l_X11_copies_2 x1 x2 0 h)
set_option maxRecDepth 20000 in
theorem c_X11_copies (l : Launch) (x0 : Nat) (x1 : Nat) (x2 : Nat) (h : hp_H) (r : hp_H) (hf : f_X11_copies x0 x1 x2 h = some r) : cv l (1) yX11_copies cX11_copies 4 none 11 x0 [.ref x1, .ref x2] h none r := by
  unfold f_X11_copies at hf
  refine cv_of (lv := [(0, .ref x0), (1, .ref x1), (2, .ref x2)]) hf (by decide +kernel) (Nat.le_of_ble_eq_true rfl) rfl (fun hf p e s m args below meth c G X => ?_)
  refine wk_iconst X dX11_copies_0 ic_0 ?_
  refine wk_istore_n (lv' := [(3, .int 0), (0, .ref x0), (1, .ref x1), (2, .ref x2)]) X dX11_copies_1 (by decide) rfl ?_
  exact wq_sub [2, 3, 0] rfl (wl_X11_copies_2 X _ _ _ _ hf)
section Sf_X11_bits
variable {p : Program} {l : Launch} {e : Env} {s : State} {m : MethodId} {args : Array Value} {below : List Frame} {meth : Method} {c : Code} {G : hp_G} {o : Int32 × hp_H}
def f_X11_bits_24 (x1 : Int32) (h : hp_H) : Option (Int32 × hp_H) := some (x1, h)
set_option maxRecDepth 20000 in
theorem w_X11_bits_24 (X : wx G p s m args meth c cX11_bits 3 RX11 (some .int)) (x1 : Int32) (h : hp_H) (hf : f_X11_bits_24 x1 h = some o) : wq p l e (mt_R (1) 0 0) s m args below meth c (MQ below (mt_Q G (some (.int o.1)) o.2) args s 0 0 (hp_A G)) G 3 0 0 24 [(1, .int x1)] [] h := by
  unfold f_X11_bits_24 at hf
  refine wk_iload_n X dX11_bits_24 0 rfl ?_
  exact wk_ireturn X dX11_bits_25 hf
def f_X11_bits_4 (k4 : Int32 → Int32 → Int32 → hp_H → Option (Int32 × hp_H)) (x0 : Int32) (x1 : Int32) (x2 : Int32) (h : hp_H) : Option (Int32 × hp_H) := if 12 ≤ x2 then (f_X11_bits_24 x1 h) else (k4 x0 (x1 + ((x0 >>> (x2 &&& 31)) &&& (1 : Int32))) (x2 + 1) h)
set_option maxRecDepth 20000 in
theorem w_X11_bits_4 (X : wx G p s m args meth c cX11_bits 3 RX11 (some .int)) (k4 : Int32 → Int32 → Int32 → hp_H → Option (Int32 × hp_H)) (hk4 : ∀ (x0 : Int32) (x1 : Int32) (x2 : Int32) (h : hp_H), k4 x0 x1 x2 h = some o → wq p l e (mt_R (1) 0 0) s m args below meth c (MQ below (mt_Q G (some (.int o.1)) o.2) args s 0 0 (hp_A G)) G 3 0 0 4 [(0, .int x0), (1, .int x1), (2, .int x2)] [] h) (x0 : Int32) (x1 : Int32) (x2 : Int32) (h : hp_H) (hf : f_X11_bits_4 k4 x0 x1 x2 h = some o) : wq p l e (mt_R (1) 0 0) s m args below meth c (MQ below (mt_Q G (some (.int o.1)) o.2) args s 0 0 (hp_A G)) G 3 0 0 4 [(0, .int x0), (1, .int x1), (2, .int x2)] [] h := by
  unfold f_X11_bits_4 at hf
  refine wk_iload_n X dX11_bits_4 2 rfl ?_
  refine wk_bipush X dX11_bits_5 ib_12 ?_
  refine wk_icmp_ge X 24 dX11_bits_7 (by decide) hf (fun hf => ?_) (fun hf => ?_)
  · exact wq_sub [1] rfl (w_X11_bits_24 X _ _ hf)
  · refine wk_iload_n X dX11_bits_10 1 rfl ?_
    refine wk_iload_n X dX11_bits_11 0 rfl ?_
    refine wk_iload_n X dX11_bits_12 2 rfl ?_
    refine wk_ishr X dX11_bits_13 ?_
    refine wk_iconst X dX11_bits_14 ic_1 ?_
    refine wk_iand X dX11_bits_15 ?_
    refine wk_iadd X dX11_bits_16 ?_
    refine wk_istore_n (lv' := [(1, .int (x1 + ((x0 >>> (x2 &&& 31)) &&& (1 : Int32)))), (0, .int x0), (2, .int x2)]) X dX11_bits_17 (by decide) rfl ?_
    refine wk_iinc (lv' := [(2, .int (x2 + 1)), (1, .int (x1 + ((x0 >>> (x2 &&& 31)) &&& (1 : Int32)))), (0, .int x0)]) X dX11_bits_18 2 rfl ic_1 (by decide) rfl ?_
    refine wk_goto X 4 dX11_bits_21 (by decide) ?_
    exact wq_sub [2, 1, 0] rfl (hk4 _ _ _ _ hf)
def l_X11_bits_4 (x0 : Int32) (x1 : Int32) (x2 : Int32) (h : hp_H) : Option (Int32 × hp_H) := lp (fun k (s : Int32 × Int32 × Int32 × hp_H) => f_X11_bits_4  (fun a0 a1 a2 a3 => k (a0, a1, a2, a3)) s.1 s.2.1 s.2.2.1 s.2.2.2) 100000 (x0, x1, x2, h)
theorem wl_X11_bits_4 (X : wx G p s m args meth c cX11_bits 3 RX11 (some .int)) (x0 : Int32) (x1 : Int32) (x2 : Int32) (h : hp_H) (hf : l_X11_bits_4 x0 x1 x2 h = some o) : wq p l e (mt_R (1) 0 0) s m args below meth c (MQ below (mt_Q G (some (.int o.1)) o.2) args s 0 0 (hp_A G)) G 3 0 0 4 [(0, .int x0), (1, .int x1), (2, .int x2)] [] h :=
  lp_ind (P := fun (s_ : Int32 × Int32 × Int32 × hp_H) => wq p l e (mt_R (1) 0 0) s m args below meth c (MQ below (mt_Q G (some (.int o.1)) o.2) args s 0 0 (hp_A G)) G 3 0 0 4 [(0, .int s_.1), (1, .int s_.2.1), (2, .int s_.2.2.1)] [] s_.2.2.2) (fun k s hk hf => w_X11_bits_4 X  (fun a0 a1 a2 a3 => k (a0, a1, a2, a3)) (fun a0 a1 a2 a3 hf => hk (a0, a1, a2, a3) hf) s.1 s.2.1 s.2.2.1 s.2.2.2 hf) 100000 (x0, x1, x2, h) hf
end Sf_X11_bits
def f_X11_bits (x0 : Int32) (h : hp_H) : Option (Int32 × hp_H) := l_X11_bits_4 x0 0 0 h
set_option maxRecDepth 20000 in
theorem c_X11_bits (l : Launch) (x0 : Int32) (h : hp_H) (r : Int32 × hp_H) (hf : f_X11_bits x0 h = some r) : cs l 1 yX11_bits cX11_bits 3 (some .int) [.int x0] h (some (.int r.1)) r.2 := by
  unfold f_X11_bits at hf
  refine mt_of (lv := [(0, .int x0)]) (by decide +kernel) (Nat.le_of_ble_eq_true rfl) rfl (fun p e s m args below meth c G X => ?_)
  refine wk_iconst X dX11_bits_0 ic_0 ?_
  refine wk_istore_n (lv' := [(1, .int 0), (0, .int x0)]) X dX11_bits_1 (by decide) rfl ?_
  refine wk_iconst X dX11_bits_2 ic_0 ?_
  refine wk_istore_n (lv' := [(2, .int 0), (1, .int 0), (0, .int x0)]) X dX11_bits_3 (by decide) rfl ?_
  exact wq_sub [2, 1, 0] rfl (wl_X11_bits_4 X _ _ _ _ hf)
section Sf_X11_lays
variable {p : Program} {l : Launch} {e : Env} {s : State} {m : MethodId} {args : Array Value} {below : List Frame} {meth : Method} {c : Code} {G : hp_G} {o : hp_H}
def f_X11_lays_3 (k3 : Nat → Int32 → Int32 → hp_H → Option (hp_H)) (x0 : Nat) (x1 : Int32) (x2 : Int32) (h : hp_H) : Option (hp_H) := if x2 < 0 then (some h) else ((rd_R h x0 11 9).bind fun v1 => (rd_I h x0 11 10).bind fun v2 => (wr_A h v1 v2 ((x1 >>> (x2 &&& 31)) &&& (255 : Int32))).bind fun h3 => (rd_I h3 x0 11 10).bind fun v4 => (wr_I h3 x0 11 10 (v4 + 1)).bind fun h5 => k3 x0 x1 (x2 + (-8)) h5)
set_option maxRecDepth 20000 in
theorem w_X11_lays_3 (X : wx G p s m args meth c cX11_lays 3 RX11 none) (k3 : Nat → Int32 → Int32 → hp_H → Option (hp_H)) (hk3 : ∀ (x0 : Nat) (x1 : Int32) (x2 : Int32) (h : hp_H), k3 x0 x1 x2 h = some o → wq p l e (mt_R (1) 0 0) s m args below meth c (MQ below (mt_Q G none o) args s 0 0 (hp_A G)) G 3 0 0 3 [(0, .ref x0), (1, .int x1), (2, .int x2)] [] h) (x0 : Nat) (x1 : Int32) (x2 : Int32) (h : hp_H) (hf : f_X11_lays_3 k3 x0 x1 x2 h = some o) : wq p l e (mt_R (1) 0 0) s m args below meth c (MQ below (mt_Q G none o) args s 0 0 (hp_A G)) G 3 0 0 3 [(0, .ref x0), (1, .int x1), (2, .int x2)] [] h := by
  unfold f_X11_lays_3 at hf
  refine wk_iload_n X dX11_lays_3 2 rfl ?_
  refine wk_if_lt X 39 dX11_lays_4 (by decide) hf (fun hf => ?_) (fun hf => ?_)
  · exact wk_return X dX11_lays_39 hf
  · refine wk_aload_n X dX11_lays_7 0 rfl ?_
    refine wk_getR X dX11_lays_8 fo_X11_26 hf (fun v1 hf => ?_)
    refine wk_aload_n X dX11_lays_11 0 rfl ?_
    refine wk_getI X dX11_lays_12 fo_X11_87 hf (fun v2 hf => ?_)
    refine wk_iload_n X dX11_lays_15 1 rfl ?_
    refine wk_iload_n X dX11_lays_16 2 rfl ?_
    refine wk_ishr X dX11_lays_17 ?_
    refine wk_sipush X dX11_lays_18 is_255 ?_
    refine wk_iand X dX11_lays_21 ?_
    refine wk_iast X dX11_lays_22 hf (fun h3 hf => ?_)
    refine wk_aload_n X dX11_lays_23 0 rfl ?_
    refine wk_dup X dX11_lays_24 rfl ?_
    refine wk_getI X dX11_lays_25 fo_X11_87 hf (fun v4 hf => ?_)
    refine wk_iconst X dX11_lays_28 ic_1 ?_
    refine wk_iadd X dX11_lays_29 ?_
    refine wk_putI X dX11_lays_30 fo_X11_87 hf (fun h5 hf => ?_)
    refine wk_iinc (lv' := [(2, .int (x2 + (-8))), (0, .ref x0), (1, .int x1)]) X dX11_lays_33 2 rfl ic_m8 (by decide) rfl ?_
    refine wk_goto X 3 dX11_lays_36 (by decide) ?_
    exact wq_sub [1, 2, 0] rfl (hk3 _ _ _ _ hf)
def l_X11_lays_3 (x0 : Nat) (x1 : Int32) (x2 : Int32) (h : hp_H) : Option (hp_H) := lp (fun k (s : Nat × Int32 × Int32 × hp_H) => f_X11_lays_3  (fun a0 a1 a2 a3 => k (a0, a1, a2, a3)) s.1 s.2.1 s.2.2.1 s.2.2.2) 100000 (x0, x1, x2, h)
theorem wl_X11_lays_3 (X : wx G p s m args meth c cX11_lays 3 RX11 none) (x0 : Nat) (x1 : Int32) (x2 : Int32) (h : hp_H) (hf : l_X11_lays_3 x0 x1 x2 h = some o) : wq p l e (mt_R (1) 0 0) s m args below meth c (MQ below (mt_Q G none o) args s 0 0 (hp_A G)) G 3 0 0 3 [(0, .ref x0), (1, .int x1), (2, .int x2)] [] h :=
  lp_ind (P := fun (s_ : Nat × Int32 × Int32 × hp_H) => wq p l e (mt_R (1) 0 0) s m args below meth c (MQ below (mt_Q G none o) args s 0 0 (hp_A G)) G 3 0 0 3 [(0, .ref s_.1), (1, .int s_.2.1), (2, .int s_.2.2.1)] [] s_.2.2.2) (fun k s hk hf => w_X11_lays_3 X  (fun a0 a1 a2 a3 => k (a0, a1, a2, a3)) (fun a0 a1 a2 a3 hf => hk (a0, a1, a2, a3) hf) s.1 s.2.1 s.2.2.1 s.2.2.2 hf) 100000 (x0, x1, x2, h) hf
end Sf_X11_lays
def f_X11_lays (x0 : Nat) (x1 : Int32) (h : hp_H) : Option (hp_H) := gd h x0 11 (l_X11_lays_3 x0 x1 24 h)
set_option maxRecDepth 20000 in
theorem c_X11_lays (l : Launch) (x0 : Nat) (x1 : Int32) (h : hp_H) (r : hp_H) (hf : f_X11_lays x0 x1 h = some r) : cv l (1) yX11_lays cX11_lays 3 none 11 x0 [.int x1] h none r := by
  unfold f_X11_lays at hf
  refine cv_of (lv := [(0, .ref x0), (1, .int x1)]) hf (by decide +kernel) (Nat.le_of_ble_eq_true rfl) rfl (fun hf p e s m args below meth c G X => ?_)
  refine wk_bipush X dX11_lays_0 ib_24 ?_
  refine wk_istore_n (lv' := [(2, .int 24), (0, .ref x0), (1, .int x1)]) X dX11_lays_2 (by decide) rfl ?_
  exact wq_sub [1, 2, 0] rfl (wl_X11_lays_3 X _ _ _ _ hf)
section Sf_X11_feed
variable {p : Program} {l : Launch} {e : Env} {s : State} {m : MethodId} {args : Array Value} {below : List Frame} {meth : Method} {c : Code} {G : hp_G} {o : Int32 × hp_H}
end Sf_X11_feed
def f_X11_feed (x0 : Nat) (x1 : Int32) (x2 : Int32) (x3 : Int32) (x4 : Int32) (x5 : Int32) (h : hp_H) : Option (Int32 × hp_H) := gd h x0 11 ((wr_I h x0 11 0 0).bind fun h1 => (rd_I h1 x0 11 10).bind fun v2 => if (v2 + 20) ≤ 700 then ((f_X11_lays x0 x1 h1).bind fun r3 => (f_X11_lays x0 x2 r3).bind fun r4 => (f_X11_lays x0 x3 r4).bind fun r5 => (f_X11_lays x0 x4 r5).bind fun r6 => (f_X11_lays x0 x5 r6).bind fun r7 => (rd_I r7 x0 11 10).bind fun v8 => some (v8, r7)) else (some ((-1), h1)))
set_option maxRecDepth 20000 in
theorem c_X11_feed (l : Launch) (x0 : Nat) (x1 : Int32) (x2 : Int32) (x3 : Int32) (x4 : Int32) (x5 : Int32) (h : hp_H) (r : Int32 × hp_H) (hf : f_X11_feed x0 x1 x2 x3 x4 x5 h = some r) : cv l (2) yX11_feed cX11_feed 6 (some .int) 11 x0 [.int x1, .int x2, .int x3, .int x4, .int x5] h (some (.int r.1)) r.2 := by
  unfold f_X11_feed at hf
  refine cv_of (lv := [(0, .ref x0), (1, .int x1), (2, .int x2), (3, .int x3), (4, .int x4), (5, .int x5)]) hf (by decide +kernel) (Nat.le_of_ble_eq_true rfl) rfl (fun hf p e s m args below meth c G X => ?_)
  refine wk_aload_n X dX11_feed_0 0 rfl ?_
  refine wk_iconst X dX11_feed_1 ic_0 ?_
  refine wk_putI X dX11_feed_2 fo_X11_84 hf (fun h1 hf => ?_)
  refine wk_aload_n X dX11_feed_5 0 rfl ?_
  refine wk_getI X dX11_feed_6 fo_X11_87 hf (fun v2 hf => ?_)
  refine wk_bipush X dX11_feed_9 ib_20 ?_
  refine wk_iadd X dX11_feed_11 ?_
  refine wk_sipush X dX11_feed_12 is_700 ?_
  refine wk_icmp_le X 20 dX11_feed_15 (by decide) hf (fun hf => ?_) (fun hf => ?_)
  · refine wk_aload_n X dX11_feed_20 0 rfl ?_
    refine wk_iload_n X dX11_feed_21 1 rfl ?_
    refine wk_callVv X [.int x1] [] dX11_feed_22 rfl vo_X11_90 rfl (by decide) (Nat.le_of_ble_eq_true rfl) hf (c_X11_lays l _ _ _) (fun r3 hf => ?_)
    refine wk_aload_n X dX11_feed_25 0 rfl ?_
    refine wk_iload_n X dX11_feed_26 2 rfl ?_
    refine wk_callVv X [.int x2] [] dX11_feed_27 rfl vo_X11_90 rfl (by decide) (Nat.le_of_ble_eq_true rfl) hf (c_X11_lays l _ _ _) (fun r4 hf => ?_)
    refine wk_aload_n X dX11_feed_30 0 rfl ?_
    refine wk_iload_n X dX11_feed_31 3 rfl ?_
    refine wk_callVv X [.int x3] [] dX11_feed_32 rfl vo_X11_90 rfl (by decide) (Nat.le_of_ble_eq_true rfl) hf (c_X11_lays l _ _ _) (fun r5 hf => ?_)
    refine wk_aload_n X dX11_feed_35 0 rfl ?_
    refine wk_iload X dX11_feed_36 4 rfl ?_
    refine wk_callVv X [.int x4] [] dX11_feed_38 rfl vo_X11_90 rfl (by decide) (Nat.le_of_ble_eq_true rfl) hf (c_X11_lays l _ _ _) (fun r6 hf => ?_)
    refine wk_aload_n X dX11_feed_41 0 rfl ?_
    refine wk_iload X dX11_feed_42 5 rfl ?_
    refine wk_callVv X [.int x5] [] dX11_feed_44 rfl vo_X11_90 rfl (by decide) (Nat.le_of_ble_eq_true rfl) hf (c_X11_lays l _ _ _) (fun r7 hf => ?_)
    refine wk_aload_n X dX11_feed_47 0 rfl ?_
    refine wk_getI X dX11_feed_48 fo_X11_87 hf (fun v8 hf => ?_)
    exact wk_ireturn X dX11_feed_51 hf
  · refine wk_iconst X dX11_feed_18 ic_m1 ?_
    exact wk_ireturn X dX11_feed_19 hf
section Sf_X11_byteAt
variable {p : Program} {l : Launch} {e : Env} {s : State} {m : MethodId} {args : Array Value} {below : List Frame} {meth : Method} {c : Code} {G : hp_G} {o : Int32 × hp_H}
def f_X11_byteAt_18 (t0 : Int32) (h : hp_H) : Option (Int32 × hp_H) := some (t0, h)
set_option maxRecDepth 20000 in
theorem w_X11_byteAt_18 (X : wx G p s m args meth c cX11_byteAt 2 RX11 (some .int)) (t0 : Int32) (h : hp_H) (hf : f_X11_byteAt_18 t0 h = some o) : wq p l e (mt_R (1) 0 0) s m args below meth c (MQ below (mt_Q G (some (.int o.1)) o.2) args s 0 0 (hp_A G)) G 2 0 0 18 [] [.int t0] h := by
  unfold f_X11_byteAt_18 at hf
  exact wk_ireturn X dX11_byteAt_18 hf
end Sf_X11_byteAt
def f_X11_byteAt (x0 : Nat) (x1 : Int32) (h : hp_H) : Option (Int32 × hp_H) := gd h x0 11 ((rd_I h x0 11 14).bind fun v1 => if v1 ≤ x1 then (f_X11_byteAt_18 0 h) else ((rd_R h x0 11 9).bind fun v2 => (rd_A h 0 v2 x1).bind fun v3 => f_X11_byteAt_18 v3 h))
set_option maxRecDepth 20000 in
theorem c_X11_byteAt (l : Launch) (x0 : Nat) (x1 : Int32) (h : hp_H) (r : Int32 × hp_H) (hf : f_X11_byteAt x0 x1 h = some r) : cv l (1) yX11_byteAt cX11_byteAt 2 (some .int) 11 x0 [.int x1] h (some (.int r.1)) r.2 := by
  unfold f_X11_byteAt at hf
  refine cv_of (lv := [(0, .ref x0), (1, .int x1)]) hf (by decide +kernel) (Nat.le_of_ble_eq_true rfl) rfl (fun hf p e s m args below meth c G X => ?_)
  refine wk_iload_n X dX11_byteAt_0 1 rfl ?_
  refine wk_aload_n X dX11_byteAt_1 0 rfl ?_
  refine wk_getI X dX11_byteAt_2 fo_X11_94 hf (fun v1 hf => ?_)
  refine wk_icmp_ge X 17 dX11_byteAt_5 (by decide) hf (fun hf => ?_) (fun hf => ?_)
  · refine wk_iconst X dX11_byteAt_17 ic_0 ?_
    exact wq_sub [] rfl (w_X11_byteAt_18 X _ _ hf)
  · refine wk_aload_n X dX11_byteAt_8 0 rfl ?_
    refine wk_getR X dX11_byteAt_9 fo_X11_26 hf (fun v2 hf => ?_)
    refine wk_iload_n X dX11_byteAt_12 1 rfl ?_
    refine wk_iald X dX11_byteAt_13 hf (fun v3 hf => ?_)
    refine wk_goto X 18 dX11_byteAt_14 (by decide) ?_
    exact wq_sub [] rfl (w_X11_byteAt_18 X _ _ hf)
section Sf_X11_isLetter
variable {p : Program} {l : Launch} {e : Env} {s : State} {m : MethodId} {args : Array Value} {below : List Frame} {meth : Method} {c : Code} {G : hp_G} {o : Int32 × hp_H}
def f_X11_isLetter_17 (t0 : Int32) (h : hp_H) : Option (Int32 × hp_H) := if t0 = 0 ∨ t0 = 1 then some (t0, h) else none
set_option maxRecDepth 20000 in
theorem w_X11_isLetter_17 (X : wx G p s m args meth c cX11_isLetter 1 RX11 (some .boolean)) (t0 : Int32) (h : hp_H) (hf : f_X11_isLetter_17 t0 h = some o) : wq p l e (mt_R (1) 0 0) s m args below meth c (MQ below (mt_Q G (some (.int o.1)) o.2) args s 0 0 (hp_A G)) G 1 0 0 17 [] [.int t0] h := by
  unfold f_X11_isLetter_17 at hf
  exact wk_zreturn X dX11_isLetter_17 hf
def f_X11_isLetter_16  (h : hp_H) : Option (Int32 × hp_H) := f_X11_isLetter_17 0 h
set_option maxRecDepth 20000 in
theorem w_X11_isLetter_16 (X : wx G p s m args meth c cX11_isLetter 1 RX11 (some .boolean))  (h : hp_H) (hf : f_X11_isLetter_16 h = some o) : wq p l e (mt_R (1) 0 0) s m args below meth c (MQ below (mt_Q G (some (.int o.1)) o.2) args s 0 0 (hp_A G)) G 1 0 0 16 [] [] h := by
  unfold f_X11_isLetter_16 at hf
  refine wk_iconst X dX11_isLetter_16 ic_0 ?_
  exact wq_sub [] rfl (w_X11_isLetter_17 X _ _ hf)
end Sf_X11_isLetter
def f_X11_isLetter (x0 : Int32) (h : hp_H) : Option (Int32 × hp_H) := if x0 < 97 then (f_X11_isLetter_16 h) else (if 122 < x0 then (f_X11_isLetter_16 h) else (f_X11_isLetter_17 1 h))
set_option maxRecDepth 20000 in
theorem c_X11_isLetter (l : Launch) (x0 : Int32) (h : hp_H) (r : Int32 × hp_H) (hf : f_X11_isLetter x0 h = some r) : cs l 1 yX11_isLetter cX11_isLetter 1 (some .boolean) [.int x0] h (some (.int r.1)) r.2 := by
  unfold f_X11_isLetter at hf
  refine mt_of (lv := [(0, .int x0)]) (by decide +kernel) (Nat.le_of_ble_eq_true rfl) rfl (fun p e s m args below meth c G X => ?_)
  refine wk_iload_n X dX11_isLetter_0 0 rfl ?_
  refine wk_bipush X dX11_isLetter_1 ib_97 ?_
  refine wk_icmp_lt X 16 dX11_isLetter_3 (by decide) hf (fun hf => ?_) (fun hf => ?_)
  · exact wq_sub [] rfl (w_X11_isLetter_16 X _ hf)
  · refine wk_iload_n X dX11_isLetter_6 0 rfl ?_
    refine wk_bipush X dX11_isLetter_7 ib_122 ?_
    refine wk_icmp_gt X 16 dX11_isLetter_9 (by decide) hf (fun hf => ?_) (fun hf => ?_)
    · exact wq_sub [] rfl (w_X11_isLetter_16 X _ hf)
    · refine wk_iconst X dX11_isLetter_12 ic_1 ?_
      refine wk_goto X 17 dX11_isLetter_13 (by decide) ?_
      exact wq_sub [] rfl (w_X11_isLetter_17 X _ _ hf)
section Sf_X11_isDigit
variable {p : Program} {l : Launch} {e : Env} {s : State} {m : MethodId} {args : Array Value} {below : List Frame} {meth : Method} {c : Code} {G : hp_G} {o : Int32 × hp_H}
def f_X11_isDigit_17 (t0 : Int32) (h : hp_H) : Option (Int32 × hp_H) := if t0 = 0 ∨ t0 = 1 then some (t0, h) else none
set_option maxRecDepth 20000 in
theorem w_X11_isDigit_17 (X : wx G p s m args meth c cX11_isDigit 1 RX11 (some .boolean)) (t0 : Int32) (h : hp_H) (hf : f_X11_isDigit_17 t0 h = some o) : wq p l e (mt_R (1) 0 0) s m args below meth c (MQ below (mt_Q G (some (.int o.1)) o.2) args s 0 0 (hp_A G)) G 1 0 0 17 [] [.int t0] h := by
  unfold f_X11_isDigit_17 at hf
  exact wk_zreturn X dX11_isDigit_17 hf
def f_X11_isDigit_16  (h : hp_H) : Option (Int32 × hp_H) := f_X11_isDigit_17 0 h
set_option maxRecDepth 20000 in
theorem w_X11_isDigit_16 (X : wx G p s m args meth c cX11_isDigit 1 RX11 (some .boolean))  (h : hp_H) (hf : f_X11_isDigit_16 h = some o) : wq p l e (mt_R (1) 0 0) s m args below meth c (MQ below (mt_Q G (some (.int o.1)) o.2) args s 0 0 (hp_A G)) G 1 0 0 16 [] [] h := by
  unfold f_X11_isDigit_16 at hf
  refine wk_iconst X dX11_isDigit_16 ic_0 ?_
  exact wq_sub [] rfl (w_X11_isDigit_17 X _ _ hf)
end Sf_X11_isDigit
def f_X11_isDigit (x0 : Int32) (h : hp_H) : Option (Int32 × hp_H) := if x0 < 48 then (f_X11_isDigit_16 h) else (if 57 < x0 then (f_X11_isDigit_16 h) else (f_X11_isDigit_17 1 h))
set_option maxRecDepth 20000 in
theorem c_X11_isDigit (l : Launch) (x0 : Int32) (h : hp_H) (r : Int32 × hp_H) (hf : f_X11_isDigit x0 h = some r) : cs l 1 yX11_isDigit cX11_isDigit 1 (some .boolean) [.int x0] h (some (.int r.1)) r.2 := by
  unfold f_X11_isDigit at hf
  refine mt_of (lv := [(0, .int x0)]) (by decide +kernel) (Nat.le_of_ble_eq_true rfl) rfl (fun p e s m args below meth c G X => ?_)
  refine wk_iload_n X dX11_isDigit_0 0 rfl ?_
  refine wk_bipush X dX11_isDigit_1 ib_48 ?_
  refine wk_icmp_lt X 16 dX11_isDigit_3 (by decide) hf (fun hf => ?_) (fun hf => ?_)
  · exact wq_sub [] rfl (w_X11_isDigit_16 X _ hf)
  · refine wk_iload_n X dX11_isDigit_6 0 rfl ?_
    refine wk_bipush X dX11_isDigit_7 ib_57 ?_
    refine wk_icmp_gt X 16 dX11_isDigit_9 (by decide) hf (fun hf => ?_) (fun hf => ?_)
    · exact wq_sub [] rfl (w_X11_isDigit_16 X _ hf)
    · refine wk_iconst X dX11_isDigit_12 ic_1 ?_
      refine wk_goto X 17 dX11_isDigit_13 (by decide) ?_
      exact wq_sub [] rfl (w_X11_isDigit_17 X _ _ hf)
section Sf_X11_goes
variable {p : Program} {l : Launch} {e : Env} {s : State} {m : MethodId} {args : Array Value} {below : List Frame} {meth : Method} {c : Code} {G : hp_G} {o : hp_H}
def f_X11_goes_331 (x0 : Nat) (h : hp_H) : Option (hp_H) := (rd_I h x0 11 15).bind fun v1 => (rd_I h x0 11 17).bind fun v2 => (wr_I h x0 11 18 (v1 - v2)).bind fun h3 => some h3
set_option maxRecDepth 20000 in
theorem w_X11_goes_331 (X : wx G p s m args meth c cX11_goes 2 RX11 none) (x0 : Nat) (h : hp_H) (hf : f_X11_goes_331 x0 h = some o) : wq p l e (mt_R (2) 0 0) s m args below meth c (MQ below (mt_Q G none o) args s 0 0 (hp_A G)) G 2 0 0 331 [(0, .ref x0)] [] h := by
  unfold f_X11_goes_331 at hf
  refine wk_aload_n X dX11_goes_331 0 rfl ?_
  refine wk_aload_n X dX11_goes_332 0 rfl ?_
  refine wk_getI X dX11_goes_333 fo_X11_97 hf (fun v1 hf => ?_)
  refine wk_aload_n X dX11_goes_336 0 rfl ?_
  refine wk_getI X dX11_goes_337 fo_X11_104 hf (fun v2 hf => ?_)
  refine wk_isub X dX11_goes_340 ?_
  refine wk_putI X dX11_goes_341 fo_X11_127 hf (fun h3 hf => ?_)
  exact wk_return X dX11_goes_344 hf
def f_X11_goes_328 (x0 : Nat) (t0 : Nat) (t1 : Int32) (h : hp_H) : Option (hp_H) := (wr_I h t0 11 16 t1).bind fun h1 => f_X11_goes_331 x0 h1
set_option maxRecDepth 20000 in
theorem w_X11_goes_328 (X : wx G p s m args meth c cX11_goes 2 RX11 none) (x0 : Nat) (t0 : Nat) (t1 : Int32) (h : hp_H) (hf : f_X11_goes_328 x0 t0 t1 h = some o) : wq p l e (mt_R (2) 0 0) s m args below meth c (MQ below (mt_Q G none o) args s 0 0 (hp_A G)) G 2 0 0 328 [(0, .ref x0)] [.int t1, .ref t0] h := by
  unfold f_X11_goes_328 at hf
  refine wk_putI X dX11_goes_328 fo_X11_117 hf (fun h1 hf => ?_)
  exact wq_sub [0] rfl (w_X11_goes_331 X _ _ hf)
def f_X11_goes_323 (x0 : Nat) (t0 : Nat) (h : hp_H) : Option (hp_H) := f_X11_goes_328 x0 t0 3 h
set_option maxRecDepth 20000 in
theorem w_X11_goes_323 (X : wx G p s m args meth c cX11_goes 2 RX11 none) (x0 : Nat) (t0 : Nat) (h : hp_H) (hf : f_X11_goes_323 x0 t0 h = some o) : wq p l e (mt_R (2) 0 0) s m args below meth c (MQ below (mt_Q G none o) args s 0 0 (hp_A G)) G 2 0 0 323 [(0, .ref x0)] [.ref t0] h := by
  unfold f_X11_goes_323 at hf
  refine wk_iconst X dX11_goes_323 ic_3 ?_
  refine wk_goto X 328 dX11_goes_324 (by decide) ?_
  exact wq_sub [0] rfl (w_X11_goes_328 X _ _ _ _ hf)
def f_X11_goes_250 (x0 : Nat) (h : hp_H) : Option (hp_H) := (wr_I h x0 11 16 2).bind fun h1 => f_X11_goes_331 x0 h1
set_option maxRecDepth 20000 in
theorem w_X11_goes_250 (X : wx G p s m args meth c cX11_goes 2 RX11 none) (x0 : Nat) (h : hp_H) (hf : f_X11_goes_250 x0 h = some o) : wq p l e (mt_R (2) 0 0) s m args below meth c (MQ below (mt_Q G none o) args s 0 0 (hp_A G)) G 2 0 0 250 [(0, .ref x0)] [] h := by
  unfold f_X11_goes_250 at hf
  refine wk_aload_n X dX11_goes_250 0 rfl ?_
  refine wk_iconst X dX11_goes_251 ic_2 ?_
  refine wk_putI X dX11_goes_252 fo_X11_117 hf (fun h1 hf => ?_)
  refine wk_goto X 331 dX11_goes_255 (by decide) ?_
  exact wq_sub [0] rfl (w_X11_goes_331 X _ _ hf)
def f_X11_goes_237 (k187 : Nat → hp_H → Option (hp_H)) (x0 : Nat) (h : hp_H) : Option (hp_H) := (rd_I h x0 11 15).bind fun v1 => (wr_I h x0 11 15 (v1 + 1)).bind fun h2 => k187 x0 h2
set_option maxRecDepth 20000 in
theorem w_X11_goes_237 (X : wx G p s m args meth c cX11_goes 2 RX11 none) (k187 : Nat → hp_H → Option (hp_H)) (hk187 : ∀ (x0 : Nat) (h : hp_H), k187 x0 h = some o → wq p l e (mt_R (2) 0 0) s m args below meth c (MQ below (mt_Q G none o) args s 0 0 (hp_A G)) G 2 0 0 187 [(0, .ref x0)] [] h) (x0 : Nat) (h : hp_H) (hf : f_X11_goes_237 k187 x0 h = some o) : wq p l e (mt_R (2) 0 0) s m args below meth c (MQ below (mt_Q G none o) args s 0 0 (hp_A G)) G 2 0 0 237 [(0, .ref x0)] [] h := by
  unfold f_X11_goes_237 at hf
  refine wk_aload_n X dX11_goes_237 0 rfl ?_
  refine wk_dup X dX11_goes_238 rfl ?_
  refine wk_getI X dX11_goes_239 fo_X11_97 hf (fun v1 hf => ?_)
  refine wk_iconst X dX11_goes_242 ic_1 ?_
  refine wk_iadd X dX11_goes_243 ?_
  refine wk_putI X dX11_goes_244 fo_X11_97 hf (fun h2 hf => ?_)
  refine wk_goto X 187 dX11_goes_247 (by decide) ?_
  exact wq_sub [0] rfl (hk187 _ _ hf)
def f_X11_goes_187 (k187 : Nat → hp_H → Option (hp_H)) (x0 : Nat) (h : hp_H) : Option (hp_H) := (rd_I h x0 11 15).bind fun v1 => (f_X11_byteAt x0 v1 h).bind fun r2 => (f_X11_isDigit r2.1 r2.2).bind fun r3 => if r3.1 = 0 then (f_X11_goes_250 x0 r3.2) else ((rd_I r3.2 x0 11 15).bind fun v4 => (rd_I r3.2 x0 11 17).bind fun v5 => if 4 ≤ (v4 - v5) then (f_X11_goes_237 k187 x0 r3.2) else ((rd_I r3.2 x0 11 19).bind fun v6 => (rd_I r3.2 x0 11 15).bind fun v7 => (f_X11_byteAt x0 v7 r3.2).bind fun r8 => (wr_I r8.2 x0 11 19 (((10 * v6) + r8.1) - 48)).bind fun h9 => f_X11_goes_237 k187 x0 h9))
set_option maxRecDepth 20000 in
theorem w_X11_goes_187 (X : wx G p s m args meth c cX11_goes 2 RX11 none) (k187 : Nat → hp_H → Option (hp_H)) (hk187 : ∀ (x0 : Nat) (h : hp_H), k187 x0 h = some o → wq p l e (mt_R (2) 0 0) s m args below meth c (MQ below (mt_Q G none o) args s 0 0 (hp_A G)) G 2 0 0 187 [(0, .ref x0)] [] h) (x0 : Nat) (h : hp_H) (hf : f_X11_goes_187 k187 x0 h = some o) : wq p l e (mt_R (2) 0 0) s m args below meth c (MQ below (mt_Q G none o) args s 0 0 (hp_A G)) G 2 0 0 187 [(0, .ref x0)] [] h := by
  unfold f_X11_goes_187 at hf
  refine wk_aload_n X dX11_goes_187 0 rfl ?_
  refine wk_aload_n X dX11_goes_188 0 rfl ?_
  refine wk_getI X dX11_goes_189 fo_X11_97 hf (fun v1 hf => ?_)
  refine wk_callVi X [.int v1] [] dX11_goes_192 rfl vo_X11_100 rfl (by decide) (Nat.le_of_ble_eq_true rfl) hf (c_X11_byteAt l _ _ _) (fun r2 hf => ?_)
  refine wk_callSi X [.int r2.1] [] dX11_goes_195 rfl vo_X11_124 rfl (by decide) (Nat.le_of_ble_eq_true rfl) hf (c_X11_isDigit l _ _) (fun r3 hf => ?_)
  refine wk_if_eq X 250 dX11_goes_198 (by decide) hf (fun hf => ?_) (fun hf => ?_)
  · exact wq_sub [0] rfl (w_X11_goes_250 X _ _ hf)
  · refine wk_aload_n X dX11_goes_201 0 rfl ?_
    refine wk_getI X dX11_goes_202 fo_X11_97 hf (fun v4 hf => ?_)
    refine wk_aload_n X dX11_goes_205 0 rfl ?_
    refine wk_getI X dX11_goes_206 fo_X11_104 hf (fun v5 hf => ?_)
    refine wk_isub X dX11_goes_209 ?_
    refine wk_iconst X dX11_goes_210 ic_4 ?_
    refine wk_icmp_ge X 237 dX11_goes_211 (by decide) hf (fun hf => ?_) (fun hf => ?_)
    · exact wq_sub [0] rfl (w_X11_goes_237 X k187 hk187 _ _ hf)
    · refine wk_aload_n X dX11_goes_214 0 rfl ?_
      refine wk_bipush X dX11_goes_215 ib_10 ?_
      refine wk_aload_n X dX11_goes_217 0 rfl ?_
      refine wk_getI X dX11_goes_218 fo_X11_111 hf (fun v6 hf => ?_)
      refine wk_imul X dX11_goes_221 ?_
      refine wk_aload_n X dX11_goes_222 0 rfl ?_
      refine wk_aload_n X dX11_goes_223 0 rfl ?_
      refine wk_getI X dX11_goes_224 fo_X11_97 hf (fun v7 hf => ?_)
      refine wk_callVi X [.int v7] [.int (10 * v6), .ref x0] dX11_goes_227 rfl vo_X11_100 rfl (by decide) (Nat.le_of_ble_eq_true rfl) hf (c_X11_byteAt l _ _ _) (fun r8 hf => ?_)
      refine wk_iadd X dX11_goes_230 ?_
      refine wk_bipush X dX11_goes_231 ib_48 ?_
      refine wk_isub X dX11_goes_233 ?_
      refine wk_putI X dX11_goes_234 fo_X11_111 hf (fun h9 hf => ?_)
      exact wq_sub [0] rfl (w_X11_goes_237 X k187 hk187 _ _ hf)
def l_X11_goes_187 (x0 : Nat) (h : hp_H) : Option (hp_H) := lp (fun k (s : Nat × hp_H) => f_X11_goes_187  (fun a0 a1 => k (a0, a1)) s.1 s.2) 100000 (x0, h)
theorem wl_X11_goes_187 (X : wx G p s m args meth c cX11_goes 2 RX11 none) (x0 : Nat) (h : hp_H) (hf : l_X11_goes_187 x0 h = some o) : wq p l e (mt_R (2) 0 0) s m args below meth c (MQ below (mt_Q G none o) args s 0 0 (hp_A G)) G 2 0 0 187 [(0, .ref x0)] [] h :=
  lp_ind (P := fun (s_ : Nat × hp_H) => wq p l e (mt_R (2) 0 0) s m args below meth c (MQ below (mt_Q G none o) args s 0 0 (hp_A G)) G 2 0 0 187 [(0, .ref s_.1)] [] s_.2) (fun k s hk hf => w_X11_goes_187 X  (fun a0 a1 => k (a0, a1)) (fun a0 a1 hf => hk (a0, a1) hf) s.1 s.2 hf) 100000 (x0, h) hf
def f_X11_goes_172 (x0 : Nat) (h : hp_H) : Option (hp_H) := (wr_I h x0 11 16 1).bind fun h1 => f_X11_goes_331 x0 h1
set_option maxRecDepth 20000 in
theorem w_X11_goes_172 (X : wx G p s m args meth c cX11_goes 2 RX11 none) (x0 : Nat) (h : hp_H) (hf : f_X11_goes_172 x0 h = some o) : wq p l e (mt_R (2) 0 0) s m args below meth c (MQ below (mt_Q G none o) args s 0 0 (hp_A G)) G 2 0 0 172 [(0, .ref x0)] [] h := by
  unfold f_X11_goes_172 at hf
  refine wk_aload_n X dX11_goes_172 0 rfl ?_
  refine wk_iconst X dX11_goes_173 ic_1 ?_
  refine wk_putI X dX11_goes_174 fo_X11_117 hf (fun h1 hf => ?_)
  refine wk_goto X 331 dX11_goes_177 (by decide) ?_
  exact wq_sub [0] rfl (w_X11_goes_331 X _ _ hf)
def f_X11_goes_159 (k108 : Nat → hp_H → Option (hp_H)) (x0 : Nat) (h : hp_H) : Option (hp_H) := (rd_I h x0 11 15).bind fun v1 => (wr_I h x0 11 15 (v1 + 1)).bind fun h2 => k108 x0 h2
set_option maxRecDepth 20000 in
theorem w_X11_goes_159 (X : wx G p s m args meth c cX11_goes 2 RX11 none) (k108 : Nat → hp_H → Option (hp_H)) (hk108 : ∀ (x0 : Nat) (h : hp_H), k108 x0 h = some o → wq p l e (mt_R (2) 0 0) s m args below meth c (MQ below (mt_Q G none o) args s 0 0 (hp_A G)) G 2 0 0 108 [(0, .ref x0)] [] h) (x0 : Nat) (h : hp_H) (hf : f_X11_goes_159 k108 x0 h = some o) : wq p l e (mt_R (2) 0 0) s m args below meth c (MQ below (mt_Q G none o) args s 0 0 (hp_A G)) G 2 0 0 159 [(0, .ref x0)] [] h := by
  unfold f_X11_goes_159 at hf
  refine wk_aload_n X dX11_goes_159 0 rfl ?_
  refine wk_dup X dX11_goes_160 rfl ?_
  refine wk_getI X dX11_goes_161 fo_X11_97 hf (fun v1 hf => ?_)
  refine wk_iconst X dX11_goes_164 ic_1 ?_
  refine wk_iadd X dX11_goes_165 ?_
  refine wk_putI X dX11_goes_166 fo_X11_97 hf (fun h2 hf => ?_)
  refine wk_goto X 108 dX11_goes_169 (by decide) ?_
  exact wq_sub [0] rfl (hk108 _ _ hf)
def f_X11_goes_108 (k108 : Nat → hp_H → Option (hp_H)) (x0 : Nat) (h : hp_H) : Option (hp_H) := (rd_I h x0 11 15).bind fun v1 => (f_X11_byteAt x0 v1 h).bind fun r2 => (f_X11_isLetter r2.1 r2.2).bind fun r3 => if r3.1 = 0 then (f_X11_goes_172 x0 r3.2) else ((rd_I r3.2 x0 11 15).bind fun v4 => (rd_I r3.2 x0 11 17).bind fun v5 => if 6 ≤ (v4 - v5) then (f_X11_goes_159 k108 x0 r3.2) else ((rd_J r3.2 x0 11 21).bind fun v6 => (rd_I r3.2 x0 11 15).bind fun v7 => (f_X11_byteAt x0 v7 r3.2).bind fun r8 => (wr_J r8.2 x0 11 21 ((v6 <<< (Int32.toInt64 5 &&& 63)) ||| (Int32.toInt64 (r8.1 - 96)))).bind fun h9 => f_X11_goes_159 k108 x0 h9))
set_option maxRecDepth 20000 in
theorem w_X11_goes_108 (X : wx G p s m args meth c cX11_goes 2 RX11 none) (k108 : Nat → hp_H → Option (hp_H)) (hk108 : ∀ (x0 : Nat) (h : hp_H), k108 x0 h = some o → wq p l e (mt_R (2) 0 0) s m args below meth c (MQ below (mt_Q G none o) args s 0 0 (hp_A G)) G 2 0 0 108 [(0, .ref x0)] [] h) (x0 : Nat) (h : hp_H) (hf : f_X11_goes_108 k108 x0 h = some o) : wq p l e (mt_R (2) 0 0) s m args below meth c (MQ below (mt_Q G none o) args s 0 0 (hp_A G)) G 2 0 0 108 [(0, .ref x0)] [] h := by
  unfold f_X11_goes_108 at hf
  refine wk_aload_n X dX11_goes_108 0 rfl ?_
  refine wk_aload_n X dX11_goes_109 0 rfl ?_
  refine wk_getI X dX11_goes_110 fo_X11_97 hf (fun v1 hf => ?_)
  refine wk_callVi X [.int v1] [] dX11_goes_113 rfl vo_X11_100 rfl (by decide) (Nat.le_of_ble_eq_true rfl) hf (c_X11_byteAt l _ _ _) (fun r2 hf => ?_)
  refine wk_callSi X [.int r2.1] [] dX11_goes_116 rfl vo_X11_120 rfl (by decide) (Nat.le_of_ble_eq_true rfl) hf (c_X11_isLetter l _ _) (fun r3 hf => ?_)
  refine wk_if_eq X 172 dX11_goes_119 (by decide) hf (fun hf => ?_) (fun hf => ?_)
  · exact wq_sub [0] rfl (w_X11_goes_172 X _ _ hf)
  · refine wk_aload_n X dX11_goes_122 0 rfl ?_
    refine wk_getI X dX11_goes_123 fo_X11_97 hf (fun v4 hf => ?_)
    refine wk_aload_n X dX11_goes_126 0 rfl ?_
    refine wk_getI X dX11_goes_127 fo_X11_104 hf (fun v5 hf => ?_)
    refine wk_isub X dX11_goes_130 ?_
    refine wk_bipush X dX11_goes_131 ib_6 ?_
    refine wk_icmp_ge X 159 dX11_goes_133 (by decide) hf (fun hf => ?_) (fun hf => ?_)
    · exact wq_sub [0] rfl (w_X11_goes_159 X k108 hk108 _ _ hf)
    · refine wk_aload_n X dX11_goes_136 0 rfl ?_
      refine wk_aload_n X dX11_goes_137 0 rfl ?_
      refine wk_getJ X dX11_goes_138 fo_X11_107 hf (fun v6 hf => ?_)
      refine wk_iconst X dX11_goes_141 ic_5 ?_
      refine wk_lshl X dX11_goes_142 ?_
      refine wk_aload_n X dX11_goes_143 0 rfl ?_
      refine wk_aload_n X dX11_goes_144 0 rfl ?_
      refine wk_getI X dX11_goes_145 fo_X11_97 hf (fun v7 hf => ?_)
      refine wk_callVi X [.int v7] [.long (v6 <<< (Int32.toInt64 5 &&& 63)), .ref x0] dX11_goes_148 rfl vo_X11_100 rfl (by decide) (Nat.le_of_ble_eq_true rfl) hf (c_X11_byteAt l _ _ _) (fun r8 hf => ?_)
      refine wk_bipush X dX11_goes_151 ib_96 ?_
      refine wk_isub X dX11_goes_153 ?_
      refine wk_i2l X dX11_goes_154 ?_
      refine wk_lor X dX11_goes_155 ?_
      refine wk_putJ X dX11_goes_156 fo_X11_107 hf (fun h9 hf => ?_)
      exact wq_sub [0] rfl (w_X11_goes_159 X k108 hk108 _ _ hf)
def l_X11_goes_108 (x0 : Nat) (h : hp_H) : Option (hp_H) := lp (fun k (s : Nat × hp_H) => f_X11_goes_108  (fun a0 a1 => k (a0, a1)) s.1 s.2) 100000 (x0, h)
theorem wl_X11_goes_108 (X : wx G p s m args meth c cX11_goes 2 RX11 none) (x0 : Nat) (h : hp_H) (hf : l_X11_goes_108 x0 h = some o) : wq p l e (mt_R (2) 0 0) s m args below meth c (MQ below (mt_Q G none o) args s 0 0 (hp_A G)) G 2 0 0 108 [(0, .ref x0)] [] h :=
  lp_ind (P := fun (s_ : Nat × hp_H) => wq p l e (mt_R (2) 0 0) s m args below meth c (MQ below (mt_Q G none o) args s 0 0 (hp_A G)) G 2 0 0 108 [(0, .ref s_.1)] [] s_.2) (fun k s hk hf => w_X11_goes_108 X  (fun a0 a1 => k (a0, a1)) (fun a0 a1 hf => hk (a0, a1) hf) s.1 s.2 hf) 100000 (x0, h) hf
def f_X11_goes_50 (x0 : Nat) (h : hp_H) : Option (hp_H) := (rd_I h x0 11 15).bind fun v1 => (wr_I h x0 11 17 v1).bind fun h2 => (wr_J h2 x0 11 21 0).bind fun h3 => (wr_I h3 x0 11 19 0).bind fun h4 => (rd_I h4 x0 11 15).bind fun v5 => (f_X11_byteAt x0 v5 h4).bind fun r6 => (wr_I r6.2 x0 11 20 r6.1).bind fun h7 => (rd_I h7 x0 11 15).bind fun v8 => (rd_I h7 x0 11 14).bind fun v9 => if v8 < v9 then ((f_X11_isLetter r6.1 h7).bind fun r10 => if r10.1 = 0 then ((f_X11_isDigit r6.1 r10.2).bind fun r11 => if r11.1 = 0 then ((rd_I r11.2 x0 11 15).bind fun v12 => (wr_I r11.2 x0 11 15 (v12 + 1)).bind fun h13 => if r6.1 = 59 then (f_X11_goes_323 x0 x0 h13) else (if r6.1 = 40 then (f_X11_goes_323 x0 x0 h13) else (if r6.1 = 41 then (f_X11_goes_323 x0 x0 h13) else (if r6.1 = 43 then (f_X11_goes_323 x0 x0 h13) else (if r6.1 = 45 then (f_X11_goes_323 x0 x0 h13) else (if r6.1 = 42 then (f_X11_goes_323 x0 x0 h13) else (if r6.1 = 47 then (f_X11_goes_323 x0 x0 h13) else (if r6.1 = 60 then (f_X11_goes_323 x0 x0 h13) else (if r6.1 = 61 then (f_X11_goes_323 x0 x0 h13) else (f_X11_goes_328 x0 x0 4 h13)))))))))) else (l_X11_goes_187 x0 r11.2)) else (l_X11_goes_108 x0 r10.2)) else ((wr_I h7 x0 11 16 0).bind fun h14 => f_X11_goes_331 x0 h14)
set_option maxRecDepth 20000 in
theorem w_X11_goes_50 (X : wx G p s m args meth c cX11_goes 2 RX11 none) (x0 : Nat) (h : hp_H) (hf : f_X11_goes_50 x0 h = some o) : wq p l e (mt_R (2) 0 0) s m args below meth c (MQ below (mt_Q G none o) args s 0 0 (hp_A G)) G 2 0 0 50 [(0, .ref x0)] [] h := by
  unfold f_X11_goes_50 at hf
  refine wk_aload_n X dX11_goes_50 0 rfl ?_
  refine wk_aload_n X dX11_goes_51 0 rfl ?_
  refine wk_getI X dX11_goes_52 fo_X11_97 hf (fun v1 hf => ?_)
  refine wk_putI X dX11_goes_55 fo_X11_104 hf (fun h2 hf => ?_)
  refine wk_aload_n X dX11_goes_58 0 rfl ?_
  refine wk_lconst (v := 0) X dX11_goes_59 rfl ?_
  refine wk_putJ X dX11_goes_60 fo_X11_107 hf (fun h3 hf => ?_)
  refine wk_aload_n X dX11_goes_63 0 rfl ?_
  refine wk_iconst X dX11_goes_64 ic_0 ?_
  refine wk_putI X dX11_goes_65 fo_X11_111 hf (fun h4 hf => ?_)
  refine wk_aload_n X dX11_goes_68 0 rfl ?_
  refine wk_aload_n X dX11_goes_69 0 rfl ?_
  refine wk_getI X dX11_goes_70 fo_X11_97 hf (fun v5 hf => ?_)
  refine wk_callVi X [.int v5] [] dX11_goes_73 rfl vo_X11_100 rfl (by decide) (Nat.le_of_ble_eq_true rfl) hf (c_X11_byteAt l _ _ _) (fun r6 hf => ?_)
  refine wk_istore_n (lv' := [(1, .int r6.1), (0, .ref x0)]) X dX11_goes_76 (by decide) rfl ?_
  refine wk_aload_n X dX11_goes_77 1 rfl ?_
  refine wk_iload_n X dX11_goes_78 0 rfl ?_
  refine wk_putI X dX11_goes_79 fo_X11_114 hf (fun h7 hf => ?_)
  refine wk_aload_n X dX11_goes_82 1 rfl ?_
  refine wk_getI X dX11_goes_83 fo_X11_97 hf (fun v8 hf => ?_)
  refine wk_aload_n X dX11_goes_86 1 rfl ?_
  refine wk_getI X dX11_goes_87 fo_X11_94 hf (fun v9 hf => ?_)
  refine wk_icmp_lt X 101 dX11_goes_90 (by decide) hf (fun hf => ?_) (fun hf => ?_)
  · refine wk_iload_n X dX11_goes_101 0 rfl ?_
    refine wk_callSi X [.int r6.1] [] dX11_goes_102 rfl vo_X11_120 rfl (by decide) (Nat.le_of_ble_eq_true rfl) hf (c_X11_isLetter l _ _) (fun r10 hf => ?_)
    refine wk_if_eq X 180 dX11_goes_105 (by decide) hf (fun hf => ?_) (fun hf => ?_)
    · refine wk_iload_n X dX11_goes_180 0 rfl ?_
      refine wk_callSi X [.int r6.1] [] dX11_goes_181 rfl vo_X11_124 rfl (by decide) (Nat.le_of_ble_eq_true rfl) hf (c_X11_isDigit l _ _) (fun r11 hf => ?_)
      refine wk_if_eq X 258 dX11_goes_184 (by decide) hf (fun hf => ?_) (fun hf => ?_)
      · refine wk_aload_n X dX11_goes_258 1 rfl ?_
        refine wk_dup X dX11_goes_259 rfl ?_
        refine wk_getI X dX11_goes_260 fo_X11_97 hf (fun v12 hf => ?_)
        refine wk_iconst X dX11_goes_263 ic_1 ?_
        refine wk_iadd X dX11_goes_264 ?_
        refine wk_putI X dX11_goes_265 fo_X11_97 hf (fun h13 hf => ?_)
        refine wk_aload_n X dX11_goes_268 1 rfl ?_
        refine wk_iload_n X dX11_goes_269 0 rfl ?_
        refine wk_bipush X dX11_goes_270 ib_59 ?_
        refine wk_icmp_eq X 323 dX11_goes_272 (by decide) hf (fun hf => ?_) (fun hf => ?_)
        · exact wq_sub [1] rfl (w_X11_goes_323 X _ _ _ hf)
        · refine wk_iload_n X dX11_goes_275 0 rfl ?_
          refine wk_bipush X dX11_goes_276 ib_40 ?_
          refine wk_icmp_eq X 323 dX11_goes_278 (by decide) hf (fun hf => ?_) (fun hf => ?_)
          · exact wq_sub [1] rfl (w_X11_goes_323 X _ _ _ hf)
          · refine wk_iload_n X dX11_goes_281 0 rfl ?_
            refine wk_bipush X dX11_goes_282 ib_41 ?_
            refine wk_icmp_eq X 323 dX11_goes_284 (by decide) hf (fun hf => ?_) (fun hf => ?_)
            · exact wq_sub [1] rfl (w_X11_goes_323 X _ _ _ hf)
            · refine wk_iload_n X dX11_goes_287 0 rfl ?_
              refine wk_bipush X dX11_goes_288 ib_43 ?_
              refine wk_icmp_eq X 323 dX11_goes_290 (by decide) hf (fun hf => ?_) (fun hf => ?_)
              · exact wq_sub [1] rfl (w_X11_goes_323 X _ _ _ hf)
              · refine wk_iload_n X dX11_goes_293 0 rfl ?_
                refine wk_bipush X dX11_goes_294 ib_45 ?_
                refine wk_icmp_eq X 323 dX11_goes_296 (by decide) hf (fun hf => ?_) (fun hf => ?_)
                · exact wq_sub [1] rfl (w_X11_goes_323 X _ _ _ hf)
                · refine wk_iload_n X dX11_goes_299 0 rfl ?_
                  refine wk_bipush X dX11_goes_300 ib_42 ?_
                  refine wk_icmp_eq X 323 dX11_goes_302 (by decide) hf (fun hf => ?_) (fun hf => ?_)
                  · exact wq_sub [1] rfl (w_X11_goes_323 X _ _ _ hf)
                  · refine wk_iload_n X dX11_goes_305 0 rfl ?_
                    refine wk_bipush X dX11_goes_306 ib_47 ?_
                    refine wk_icmp_eq X 323 dX11_goes_308 (by decide) hf (fun hf => ?_) (fun hf => ?_)
                    · exact wq_sub [1] rfl (w_X11_goes_323 X _ _ _ hf)
                    · refine wk_iload_n X dX11_goes_311 0 rfl ?_
                      refine wk_bipush X dX11_goes_312 ib_60 ?_
                      refine wk_icmp_eq X 323 dX11_goes_314 (by decide) hf (fun hf => ?_) (fun hf => ?_)
                      · exact wq_sub [1] rfl (w_X11_goes_323 X _ _ _ hf)
                      · refine wk_iload_n X dX11_goes_317 0 rfl ?_
                        refine wk_bipush X dX11_goes_318 ib_61 ?_
                        refine wk_icmp_ne X 327 dX11_goes_320 (by decide) hf (fun hf => ?_) (fun hf => ?_)
                        · refine wk_iconst X dX11_goes_327 ic_4 ?_
                          exact wq_sub [1] rfl (w_X11_goes_328 X _ _ _ _ hf)
                        · exact wq_sub [1] rfl (w_X11_goes_323 X _ _ _ hf)
      · exact wq_sub [1] rfl (wl_X11_goes_187 X _ _ hf)
    · exact wq_sub [1] rfl (wl_X11_goes_108 X _ _ hf)
  · refine wk_aload_n X dX11_goes_93 1 rfl ?_
    refine wk_iconst X dX11_goes_94 ic_0 ?_
    refine wk_putI X dX11_goes_95 fo_X11_117 hf (fun h14 hf => ?_)
    refine wk_goto X 331 dX11_goes_98 (by decide) ?_
    exact wq_sub [1] rfl (w_X11_goes_331 X _ _ hf)
def f_X11_goes_37 (k0 : Nat → hp_H → Option (hp_H)) (x0 : Nat) (h : hp_H) : Option (hp_H) := (rd_I h x0 11 15).bind fun v1 => (wr_I h x0 11 15 (v1 + 1)).bind fun h2 => k0 x0 h2
set_option maxRecDepth 20000 in
theorem w_X11_goes_37 (X : wx G p s m args meth c cX11_goes 2 RX11 none) (k0 : Nat → hp_H → Option (hp_H)) (hk0 : ∀ (x0 : Nat) (h : hp_H), k0 x0 h = some o → wq p l e (mt_R (2) 0 0) s m args below meth c (MQ below (mt_Q G none o) args s 0 0 (hp_A G)) G 2 0 0 0 [(0, .ref x0)] [] h) (x0 : Nat) (h : hp_H) (hf : f_X11_goes_37 k0 x0 h = some o) : wq p l e (mt_R (2) 0 0) s m args below meth c (MQ below (mt_Q G none o) args s 0 0 (hp_A G)) G 2 0 0 37 [(0, .ref x0)] [] h := by
  unfold f_X11_goes_37 at hf
  refine wk_aload_n X dX11_goes_37 0 rfl ?_
  refine wk_dup X dX11_goes_38 rfl ?_
  refine wk_getI X dX11_goes_39 fo_X11_97 hf (fun v1 hf => ?_)
  refine wk_iconst X dX11_goes_42 ic_1 ?_
  refine wk_iadd X dX11_goes_43 ?_
  refine wk_putI X dX11_goes_44 fo_X11_97 hf (fun h2 hf => ?_)
  refine wk_goto X 0 dX11_goes_47 (by decide) ?_
  exact wq_sub [0] rfl (hk0 _ _ hf)
def f_X11_goes_0 (k0 : Nat → hp_H → Option (hp_H)) (x0 : Nat) (h : hp_H) : Option (hp_H) := (rd_I h x0 11 15).bind fun v1 => (rd_I h x0 11 14).bind fun v2 => if v2 ≤ v1 then (f_X11_goes_50 x0 h) else ((rd_I h x0 11 15).bind fun v3 => (f_X11_byteAt x0 v3 h).bind fun r4 => if r4.1 = 32 then (f_X11_goes_37 k0 x0 r4.2) else ((rd_I r4.2 x0 11 15).bind fun v5 => (f_X11_byteAt x0 v5 r4.2).bind fun r6 => if r6.1 = 10 then (f_X11_goes_37 k0 x0 r6.2) else (f_X11_goes_50 x0 r6.2)))
set_option maxRecDepth 20000 in
theorem w_X11_goes_0 (X : wx G p s m args meth c cX11_goes 2 RX11 none) (k0 : Nat → hp_H → Option (hp_H)) (hk0 : ∀ (x0 : Nat) (h : hp_H), k0 x0 h = some o → wq p l e (mt_R (2) 0 0) s m args below meth c (MQ below (mt_Q G none o) args s 0 0 (hp_A G)) G 2 0 0 0 [(0, .ref x0)] [] h) (x0 : Nat) (h : hp_H) (hf : f_X11_goes_0 k0 x0 h = some o) : wq p l e (mt_R (2) 0 0) s m args below meth c (MQ below (mt_Q G none o) args s 0 0 (hp_A G)) G 2 0 0 0 [(0, .ref x0)] [] h := by
  unfold f_X11_goes_0 at hf
  refine wk_aload_n X dX11_goes_0 0 rfl ?_
  refine wk_getI X dX11_goes_1 fo_X11_97 hf (fun v1 hf => ?_)
  refine wk_aload_n X dX11_goes_4 0 rfl ?_
  refine wk_getI X dX11_goes_5 fo_X11_94 hf (fun v2 hf => ?_)
  refine wk_icmp_ge X 50 dX11_goes_8 (by decide) hf (fun hf => ?_) (fun hf => ?_)
  · exact wq_sub [0] rfl (w_X11_goes_50 X _ _ hf)
  · refine wk_aload_n X dX11_goes_11 0 rfl ?_
    refine wk_aload_n X dX11_goes_12 0 rfl ?_
    refine wk_getI X dX11_goes_13 fo_X11_97 hf (fun v3 hf => ?_)
    refine wk_callVi X [.int v3] [] dX11_goes_16 rfl vo_X11_100 rfl (by decide) (Nat.le_of_ble_eq_true rfl) hf (c_X11_byteAt l _ _ _) (fun r4 hf => ?_)
    refine wk_bipush X dX11_goes_19 ib_32 ?_
    refine wk_icmp_eq X 37 dX11_goes_21 (by decide) hf (fun hf => ?_) (fun hf => ?_)
    · exact wq_sub [0] rfl (w_X11_goes_37 X k0 hk0 _ _ hf)
    · refine wk_aload_n X dX11_goes_24 0 rfl ?_
      refine wk_aload_n X dX11_goes_25 0 rfl ?_
      refine wk_getI X dX11_goes_26 fo_X11_97 hf (fun v5 hf => ?_)
      refine wk_callVi X [.int v5] [] dX11_goes_29 rfl vo_X11_100 rfl (by decide) (Nat.le_of_ble_eq_true rfl) hf (c_X11_byteAt l _ _ _) (fun r6 hf => ?_)
      refine wk_bipush X dX11_goes_32 ib_10 ?_
      refine wk_icmp_ne X 50 dX11_goes_34 (by decide) hf (fun hf => ?_) (fun hf => ?_)
      · exact wq_sub [0] rfl (w_X11_goes_50 X _ _ hf)
      · exact wq_sub [0] rfl (w_X11_goes_37 X k0 hk0 _ _ hf)
def l_X11_goes_0 (x0 : Nat) (h : hp_H) : Option (hp_H) := lp (fun k (s : Nat × hp_H) => f_X11_goes_0  (fun a0 a1 => k (a0, a1)) s.1 s.2) 100000 (x0, h)
theorem wl_X11_goes_0 (X : wx G p s m args meth c cX11_goes 2 RX11 none) (x0 : Nat) (h : hp_H) (hf : l_X11_goes_0 x0 h = some o) : wq p l e (mt_R (2) 0 0) s m args below meth c (MQ below (mt_Q G none o) args s 0 0 (hp_A G)) G 2 0 0 0 [(0, .ref x0)] [] h :=
  lp_ind (P := fun (s_ : Nat × hp_H) => wq p l e (mt_R (2) 0 0) s m args below meth c (MQ below (mt_Q G none o) args s 0 0 (hp_A G)) G 2 0 0 0 [(0, .ref s_.1)] [] s_.2) (fun k s hk hf => w_X11_goes_0 X  (fun a0 a1 => k (a0, a1)) (fun a0 a1 hf => hk (a0, a1) hf) s.1 s.2 hf) 100000 (x0, h) hf
end Sf_X11_goes
def f_X11_goes (x0 : Nat) (h : hp_H) : Option (hp_H) := gd h x0 11 (l_X11_goes_0 x0 h)
set_option maxRecDepth 20000 in
theorem c_X11_goes (l : Launch) (x0 : Nat) (h : hp_H) (r : hp_H) (hf : f_X11_goes x0 h = some r) : cv l (2) yX11_goes cX11_goes 2 none 11 x0 [] h none r := by
  unfold f_X11_goes at hf
  refine cv_of (lv := [(0, .ref x0)]) hf (by decide +kernel) (Nat.le_of_ble_eq_true rfl) rfl (fun hf p e s m args below meth c G X => ?_)
  exact wq_sub [0] rfl (wl_X11_goes_0 X _ _ hf)
section Sf_X11_spelled
variable {p : Program} {l : Launch} {e : Env} {s : State} {m : MethodId} {args : Array Value} {below : List Frame} {meth : Method} {c : Code} {G : hp_G} {o : Int64 × hp_H}
def f_X11_spelled_84 (x6 : Int64) (h : hp_H) : Option (Int64 × hp_H) := some (x6, h)
set_option maxRecDepth 20000 in
theorem w_X11_spelled_84 (X : wx G p s m args meth c cX11_spelled 8 RX11 (some .long)) (x6 : Int64) (h : hp_H) (hf : f_X11_spelled_84 x6 h = some o) : wq p l e (mt_R (1) 0 0) s m args below meth c (MQ below (mt_Q G (some (.long o.1)) o.2) args s 0 0 (hp_A G)) G 8 0 0 84 [(6, .long x6)] [] h := by
  unfold f_X11_spelled_84 at hf
  refine wk_lload X dX11_spelled_84 0 rfl ?_
  exact wk_lreturn X dX11_spelled_86 hf
def f_X11_spelled_66 (x5 : Int32) (x6 : Int64) (h : hp_H) : Option (Int64 × hp_H) := if x5 = 0 then (f_X11_spelled_84 x6 h) else (f_X11_spelled_84 ((x6 <<< (Int32.toInt64 5 &&& 63)) ||| (Int32.toInt64 (x5 - 96))) h)
set_option maxRecDepth 20000 in
theorem w_X11_spelled_66 (X : wx G p s m args meth c cX11_spelled 8 RX11 (some .long)) (x5 : Int32) (x6 : Int64) (h : hp_H) (hf : f_X11_spelled_66 x5 x6 h = some o) : wq p l e (mt_R (1) 0 0) s m args below meth c (MQ below (mt_Q G (some (.long o.1)) o.2) args s 0 0 (hp_A G)) G 8 0 0 66 [(5, .int x5), (6, .long x6)] [] h := by
  unfold f_X11_spelled_66 at hf
  refine wk_iload X dX11_spelled_66 0 rfl ?_
  refine wk_if_eq X 84 dX11_spelled_68 (by decide) hf (fun hf => ?_) (fun hf => ?_)
  · exact wq_sub [1] rfl (w_X11_spelled_84 X _ _ hf)
  · refine wk_lload X dX11_spelled_71 1 rfl ?_
    refine wk_iconst X dX11_spelled_73 ic_5 ?_
    refine wk_lshl X dX11_spelled_74 ?_
    refine wk_iload X dX11_spelled_75 0 rfl ?_
    refine wk_bipush X dX11_spelled_77 ib_96 ?_
    refine wk_isub X dX11_spelled_79 ?_
    refine wk_i2l X dX11_spelled_80 ?_
    refine wk_lor X dX11_spelled_81 ?_
    refine wk_lstore (lv' := [(6, .long ((x6 <<< (Int32.toInt64 5 &&& 63)) ||| (Int32.toInt64 (x5 - 96)))), (5, .int x5)]) X dX11_spelled_82 (by decide) rfl ?_
    exact wq_sub [0] rfl (w_X11_spelled_84 X _ _ hf)
def f_X11_spelled_48 (x4 : Int32) (x5 : Int32) (x6 : Int64) (h : hp_H) : Option (Int64 × hp_H) := if x4 = 0 then (f_X11_spelled_66 x5 x6 h) else (f_X11_spelled_66 x5 ((x6 <<< (Int32.toInt64 5 &&& 63)) ||| (Int32.toInt64 (x4 - 96))) h)
set_option maxRecDepth 20000 in
theorem w_X11_spelled_48 (X : wx G p s m args meth c cX11_spelled 8 RX11 (some .long)) (x4 : Int32) (x5 : Int32) (x6 : Int64) (h : hp_H) (hf : f_X11_spelled_48 x4 x5 x6 h = some o) : wq p l e (mt_R (1) 0 0) s m args below meth c (MQ below (mt_Q G (some (.long o.1)) o.2) args s 0 0 (hp_A G)) G 8 0 0 48 [(4, .int x4), (5, .int x5), (6, .long x6)] [] h := by
  unfold f_X11_spelled_48 at hf
  refine wk_iload X dX11_spelled_48 0 rfl ?_
  refine wk_if_eq X 66 dX11_spelled_50 (by decide) hf (fun hf => ?_) (fun hf => ?_)
  · exact wq_sub [1, 2] rfl (w_X11_spelled_66 X _ _ _ hf)
  · refine wk_lload X dX11_spelled_53 2 rfl ?_
    refine wk_iconst X dX11_spelled_55 ic_5 ?_
    refine wk_lshl X dX11_spelled_56 ?_
    refine wk_iload X dX11_spelled_57 0 rfl ?_
    refine wk_bipush X dX11_spelled_59 ib_96 ?_
    refine wk_isub X dX11_spelled_61 ?_
    refine wk_i2l X dX11_spelled_62 ?_
    refine wk_lor X dX11_spelled_63 ?_
    refine wk_lstore (lv' := [(6, .long ((x6 <<< (Int32.toInt64 5 &&& 63)) ||| (Int32.toInt64 (x4 - 96)))), (4, .int x4), (5, .int x5)]) X dX11_spelled_64 (by decide) rfl ?_
    exact wq_sub [2, 0] rfl (w_X11_spelled_66 X _ _ _ hf)
def f_X11_spelled_32 (x3 : Int32) (x4 : Int32) (x5 : Int32) (x6 : Int64) (h : hp_H) : Option (Int64 × hp_H) := if x3 = 0 then (f_X11_spelled_48 x4 x5 x6 h) else (f_X11_spelled_48 x4 x5 ((x6 <<< (Int32.toInt64 5 &&& 63)) ||| (Int32.toInt64 (x3 - 96))) h)
set_option maxRecDepth 20000 in
theorem w_X11_spelled_32 (X : wx G p s m args meth c cX11_spelled 8 RX11 (some .long)) (x3 : Int32) (x4 : Int32) (x5 : Int32) (x6 : Int64) (h : hp_H) (hf : f_X11_spelled_32 x3 x4 x5 x6 h = some o) : wq p l e (mt_R (1) 0 0) s m args below meth c (MQ below (mt_Q G (some (.long o.1)) o.2) args s 0 0 (hp_A G)) G 8 0 0 32 [(3, .int x3), (4, .int x4), (5, .int x5), (6, .long x6)] [] h := by
  unfold f_X11_spelled_32 at hf
  refine wk_iload_n X dX11_spelled_32 0 rfl ?_
  refine wk_if_eq X 48 dX11_spelled_33 (by decide) hf (fun hf => ?_) (fun hf => ?_)
  · exact wq_sub [1, 2, 3] rfl (w_X11_spelled_48 X _ _ _ _ hf)
  · refine wk_lload X dX11_spelled_36 3 rfl ?_
    refine wk_iconst X dX11_spelled_38 ic_5 ?_
    refine wk_lshl X dX11_spelled_39 ?_
    refine wk_iload_n X dX11_spelled_40 0 rfl ?_
    refine wk_bipush X dX11_spelled_41 ib_96 ?_
    refine wk_isub X dX11_spelled_43 ?_
    refine wk_i2l X dX11_spelled_44 ?_
    refine wk_lor X dX11_spelled_45 ?_
    refine wk_lstore (lv' := [(6, .long ((x6 <<< (Int32.toInt64 5 &&& 63)) ||| (Int32.toInt64 (x3 - 96)))), (3, .int x3), (4, .int x4), (5, .int x5)]) X dX11_spelled_46 (by decide) rfl ?_
    exact wq_sub [2, 3, 0] rfl (w_X11_spelled_48 X _ _ _ _ hf)
end Sf_X11_spelled
def f_X11_spelled (x0 : Int32) (x1 : Int32) (x2 : Int32) (x3 : Int32) (x4 : Int32) (x5 : Int32) (h : hp_H) : Option (Int64 × hp_H) := if x2 = 0 then (f_X11_spelled_32 x3 x4 x5 ((((Int32.toInt64 x0) - 96) <<< (Int32.toInt64 5 &&& 63)) ||| (Int32.toInt64 (x1 - 96))) h) else (f_X11_spelled_32 x3 x4 x5 ((((((Int32.toInt64 x0) - 96) <<< (Int32.toInt64 5 &&& 63)) ||| (Int32.toInt64 (x1 - 96))) <<< (Int32.toInt64 5 &&& 63)) ||| (Int32.toInt64 (x2 - 96))) h)
set_option maxRecDepth 20000 in
theorem c_X11_spelled (l : Launch) (x0 : Int32) (x1 : Int32) (x2 : Int32) (x3 : Int32) (x4 : Int32) (x5 : Int32) (h : hp_H) (r : Int64 × hp_H) (hf : f_X11_spelled x0 x1 x2 x3 x4 x5 h = some r) : cs l 1 yX11_spelled cX11_spelled 8 (some .long) [.int x0, .int x1, .int x2, .int x3, .int x4, .int x5] h (some (.long r.1)) r.2 := by
  unfold f_X11_spelled at hf
  refine mt_of (lv := [(0, .int x0), (1, .int x1), (2, .int x2), (3, .int x3), (4, .int x4), (5, .int x5)]) (by decide +kernel) (Nat.le_of_ble_eq_true rfl) rfl (fun p e s m args below meth c G X => ?_)
  refine wk_iload_n X dX11_spelled_0 0 rfl ?_
  refine wk_i2l X dX11_spelled_1 ?_
  refine wk_ldc2 X dX11_spelled_2 mt_X11_130 ?_
  refine wk_lsub X dX11_spelled_5 ?_
  refine wk_iconst X dX11_spelled_6 ic_5 ?_
  refine wk_lshl X dX11_spelled_7 ?_
  refine wk_iload_n X dX11_spelled_8 1 rfl ?_
  refine wk_bipush X dX11_spelled_9 ib_96 ?_
  refine wk_isub X dX11_spelled_11 ?_
  refine wk_i2l X dX11_spelled_12 ?_
  refine wk_lor X dX11_spelled_13 ?_
  refine wk_lstore (lv' := [(6, .long ((((Int32.toInt64 x0) - 96) <<< (Int32.toInt64 5 &&& 63)) ||| (Int32.toInt64 (x1 - 96)))), (0, .int x0), (1, .int x1), (2, .int x2), (3, .int x3), (4, .int x4), (5, .int x5)]) X dX11_spelled_14 (by decide) rfl ?_
  refine wk_iload_n X dX11_spelled_16 3 rfl ?_
  refine wk_if_eq X 32 dX11_spelled_17 (by decide) hf (fun hf => ?_) (fun hf => ?_)
  · exact wq_sub [4, 5, 6, 0] rfl (w_X11_spelled_32 X _ _ _ _ _ hf)
  · refine wk_lload X dX11_spelled_20 0 rfl ?_
    refine wk_iconst X dX11_spelled_22 ic_5 ?_
    refine wk_lshl X dX11_spelled_23 ?_
    refine wk_iload_n X dX11_spelled_24 3 rfl ?_
    refine wk_bipush X dX11_spelled_25 ib_96 ?_
    refine wk_isub X dX11_spelled_27 ?_
    refine wk_i2l X dX11_spelled_28 ?_
    refine wk_lor X dX11_spelled_29 ?_
    refine wk_lstore (lv' := [(6, .long ((((((Int32.toInt64 x0) - 96) <<< (Int32.toInt64 5 &&& 63)) ||| (Int32.toInt64 (x1 - 96))) <<< (Int32.toInt64 5 &&& 63)) ||| (Int32.toInt64 (x2 - 96)))), (0, .int x0), (1, .int x1), (2, .int x2), (3, .int x3), (4, .int x4), (5, .int x5)]) X dX11_spelled_30 (by decide) rfl ?_
    exact wq_sub [4, 5, 6, 0] rfl (w_X11_spelled_32 X _ _ _ _ _ hf)
section Sf_X11_letters
variable {p : Program} {l : Launch} {e : Env} {s : State} {m : MethodId} {args : Array Value} {below : List Frame} {meth : Method} {c : Code} {G : hp_G} {o : Int64 × hp_H}
end Sf_X11_letters
def f_X11_letters (x0 : Int32) (h : hp_H) : Option (Int64 × hp_H) := if x0 = 0 then ((f_X11_spelled 115 117 109 0 0 0 h).bind fun r2 => some (r2.1, r2.2)) else (if x0 = 1 then ((f_X11_spelled 111 116 104 101 114 115 h).bind fun r3 => some (r3.1, r3.2)) else (if x0 = 2 then ((f_X11_spelled 109 117 100 0 0 0 h).bind fun r4 => some (r4.1, r4.2)) else (if x0 = 3 then ((f_X11_spelled 98 101 97 116 0 0 h).bind fun r5 => some (r5.1, r5.2)) else (if x0 = 4 then ((f_X11_spelled 109 97 110 121 0 0 h).bind fun r6 => some (r6.1, r6.2)) else (if x0 = 5 then ((f_X11_spelled 108 97 115 116 0 0 h).bind fun r7 => some (r7.1, r7.2)) else (if x0 = 6 then ((f_X11_spelled 98 101 97 116 115 0 h).bind fun r8 => some (r8.1, r8.2)) else (if x0 = 7 then ((f_X11_spelled 109 97 110 0 0 0 h).bind fun r9 => some (r9.1, r9.2)) else (if x0 = 8 then ((f_X11_spelled 114 111 119 0 0 0 h).bind fun r10 => some (r10.1, r10.2)) else (if x0 = 9 then ((f_X11_spelled 115 108 97 99 107 0 h).bind fun r11 => some (r11.1, r11.2)) else (if x0 = 10 then ((f_X11_spelled 104 101 97 114 115 0 h).bind fun r12 => some (r12.1, r12.2)) else (if x0 = 11 then ((f_X11_spelled 97 110 100 0 0 0 h).bind fun r13 => some (r13.1, r13.2)) else (if x0 = 12 then ((f_X11_spelled 111 114 0 0 0 0 h).bind fun r14 => some (r14.1, r14.2)) else ((f_X11_spelled 110 111 116 0 0 0 h).bind fun r1 => some (r1.1, r1.2))))))))))))))
set_option maxRecDepth 20000 in
theorem c_X11_letters (l : Launch) (x0 : Int32) (h : hp_H) (r : Int64 × hp_H) (hf : f_X11_letters x0 h = some r) : cs l 2 yX11_letters cX11_letters 1 (some .long) [.int x0] h (some (.long r.1)) r.2 := by
  unfold f_X11_letters at hf
  refine mt_of (lv := [(0, .int x0)]) (by decide +kernel) (Nat.le_of_ble_eq_true rfl) rfl (fun p e s m args below meth c G X => ?_)
  refine wk_iload_n X dX11_letters_0 0 rfl ?_
  refine wk_ts_in X 68 0 dX11_letters_1 (by decide) (by decide) (by decide) rfl (by decide) hf (fun hf => ?_) (fun n0 hf => ?_)
  · refine wk_bipush X dX11_letters_68 ib_115 ?_
    refine wk_bipush X dX11_letters_70 ib_117 ?_
    refine wk_bipush X dX11_letters_72 ib_109 ?_
    refine wk_iconst X dX11_letters_74 ic_0 ?_
    refine wk_iconst X dX11_letters_75 ic_0 ?_
    refine wk_iconst X dX11_letters_76 ic_0 ?_
    refine wk_callSj X [.int 115, .int 117, .int 109, .int 0, .int 0, .int 0] [] dX11_letters_77 rfl vo_X11_132 rfl (by decide) (Nat.le_of_ble_eq_true rfl) hf (c_X11_spelled l _ _ _ _ _ _ _) (fun r2 hf => ?_)
    exact wk_lreturn X dX11_letters_80 hf
  refine wk_ts_in X 81 1 dX11_letters_1 (by decide) (by decide) (by decide) rfl (by decide) hf (fun hf => ?_) (fun n1 hf => ?_)
  · refine wk_bipush X dX11_letters_81 ib_111 ?_
    refine wk_bipush X dX11_letters_83 ib_116 ?_
    refine wk_bipush X dX11_letters_85 ib_104 ?_
    refine wk_bipush X dX11_letters_87 ib_101 ?_
    refine wk_bipush X dX11_letters_89 ib_114 ?_
    refine wk_bipush X dX11_letters_91 ib_115 ?_
    refine wk_callSj X [.int 111, .int 116, .int 104, .int 101, .int 114, .int 115] [] dX11_letters_93 rfl vo_X11_132 rfl (by decide) (Nat.le_of_ble_eq_true rfl) hf (c_X11_spelled l _ _ _ _ _ _ _) (fun r3 hf => ?_)
    exact wk_lreturn X dX11_letters_96 hf
  refine wk_ts_in X 97 2 dX11_letters_1 (by decide) (by decide) (by decide) rfl (by decide) hf (fun hf => ?_) (fun n2 hf => ?_)
  · refine wk_bipush X dX11_letters_97 ib_109 ?_
    refine wk_bipush X dX11_letters_99 ib_117 ?_
    refine wk_bipush X dX11_letters_101 ib_100 ?_
    refine wk_iconst X dX11_letters_103 ic_0 ?_
    refine wk_iconst X dX11_letters_104 ic_0 ?_
    refine wk_iconst X dX11_letters_105 ic_0 ?_
    refine wk_callSj X [.int 109, .int 117, .int 100, .int 0, .int 0, .int 0] [] dX11_letters_106 rfl vo_X11_132 rfl (by decide) (Nat.le_of_ble_eq_true rfl) hf (c_X11_spelled l _ _ _ _ _ _ _) (fun r4 hf => ?_)
    exact wk_lreturn X dX11_letters_109 hf
  refine wk_ts_in X 110 3 dX11_letters_1 (by decide) (by decide) (by decide) rfl (by decide) hf (fun hf => ?_) (fun n3 hf => ?_)
  · refine wk_bipush X dX11_letters_110 ib_98 ?_
    refine wk_bipush X dX11_letters_112 ib_101 ?_
    refine wk_bipush X dX11_letters_114 ib_97 ?_
    refine wk_bipush X dX11_letters_116 ib_116 ?_
    refine wk_iconst X dX11_letters_118 ic_0 ?_
    refine wk_iconst X dX11_letters_119 ic_0 ?_
    refine wk_callSj X [.int 98, .int 101, .int 97, .int 116, .int 0, .int 0] [] dX11_letters_120 rfl vo_X11_132 rfl (by decide) (Nat.le_of_ble_eq_true rfl) hf (c_X11_spelled l _ _ _ _ _ _ _) (fun r5 hf => ?_)
    exact wk_lreturn X dX11_letters_123 hf
  refine wk_ts_in X 124 4 dX11_letters_1 (by decide) (by decide) (by decide) rfl (by decide) hf (fun hf => ?_) (fun n4 hf => ?_)
  · refine wk_bipush X dX11_letters_124 ib_109 ?_
    refine wk_bipush X dX11_letters_126 ib_97 ?_
    refine wk_bipush X dX11_letters_128 ib_110 ?_
    refine wk_bipush X dX11_letters_130 ib_121 ?_
    refine wk_iconst X dX11_letters_132 ic_0 ?_
    refine wk_iconst X dX11_letters_133 ic_0 ?_
    refine wk_callSj X [.int 109, .int 97, .int 110, .int 121, .int 0, .int 0] [] dX11_letters_134 rfl vo_X11_132 rfl (by decide) (Nat.le_of_ble_eq_true rfl) hf (c_X11_spelled l _ _ _ _ _ _ _) (fun r6 hf => ?_)
    exact wk_lreturn X dX11_letters_137 hf
  refine wk_ts_in X 138 5 dX11_letters_1 (by decide) (by decide) (by decide) rfl (by decide) hf (fun hf => ?_) (fun n5 hf => ?_)
  · refine wk_bipush X dX11_letters_138 ib_108 ?_
    refine wk_bipush X dX11_letters_140 ib_97 ?_
    refine wk_bipush X dX11_letters_142 ib_115 ?_
    refine wk_bipush X dX11_letters_144 ib_116 ?_
    refine wk_iconst X dX11_letters_146 ic_0 ?_
    refine wk_iconst X dX11_letters_147 ic_0 ?_
    refine wk_callSj X [.int 108, .int 97, .int 115, .int 116, .int 0, .int 0] [] dX11_letters_148 rfl vo_X11_132 rfl (by decide) (Nat.le_of_ble_eq_true rfl) hf (c_X11_spelled l _ _ _ _ _ _ _) (fun r7 hf => ?_)
    exact wk_lreturn X dX11_letters_151 hf
  refine wk_ts_in X 152 6 dX11_letters_1 (by decide) (by decide) (by decide) rfl (by decide) hf (fun hf => ?_) (fun n6 hf => ?_)
  · refine wk_bipush X dX11_letters_152 ib_98 ?_
    refine wk_bipush X dX11_letters_154 ib_101 ?_
    refine wk_bipush X dX11_letters_156 ib_97 ?_
    refine wk_bipush X dX11_letters_158 ib_116 ?_
    refine wk_bipush X dX11_letters_160 ib_115 ?_
    refine wk_iconst X dX11_letters_162 ic_0 ?_
    refine wk_callSj X [.int 98, .int 101, .int 97, .int 116, .int 115, .int 0] [] dX11_letters_163 rfl vo_X11_132 rfl (by decide) (Nat.le_of_ble_eq_true rfl) hf (c_X11_spelled l _ _ _ _ _ _ _) (fun r8 hf => ?_)
    exact wk_lreturn X dX11_letters_166 hf
  refine wk_ts_in X 167 7 dX11_letters_1 (by decide) (by decide) (by decide) rfl (by decide) hf (fun hf => ?_) (fun n7 hf => ?_)
  · refine wk_bipush X dX11_letters_167 ib_109 ?_
    refine wk_bipush X dX11_letters_169 ib_97 ?_
    refine wk_bipush X dX11_letters_171 ib_110 ?_
    refine wk_iconst X dX11_letters_173 ic_0 ?_
    refine wk_iconst X dX11_letters_174 ic_0 ?_
    refine wk_iconst X dX11_letters_175 ic_0 ?_
    refine wk_callSj X [.int 109, .int 97, .int 110, .int 0, .int 0, .int 0] [] dX11_letters_176 rfl vo_X11_132 rfl (by decide) (Nat.le_of_ble_eq_true rfl) hf (c_X11_spelled l _ _ _ _ _ _ _) (fun r9 hf => ?_)
    exact wk_lreturn X dX11_letters_179 hf
  refine wk_ts_in X 180 8 dX11_letters_1 (by decide) (by decide) (by decide) rfl (by decide) hf (fun hf => ?_) (fun n8 hf => ?_)
  · refine wk_bipush X dX11_letters_180 ib_114 ?_
    refine wk_bipush X dX11_letters_182 ib_111 ?_
    refine wk_bipush X dX11_letters_184 ib_119 ?_
    refine wk_iconst X dX11_letters_186 ic_0 ?_
    refine wk_iconst X dX11_letters_187 ic_0 ?_
    refine wk_iconst X dX11_letters_188 ic_0 ?_
    refine wk_callSj X [.int 114, .int 111, .int 119, .int 0, .int 0, .int 0] [] dX11_letters_189 rfl vo_X11_132 rfl (by decide) (Nat.le_of_ble_eq_true rfl) hf (c_X11_spelled l _ _ _ _ _ _ _) (fun r10 hf => ?_)
    exact wk_lreturn X dX11_letters_192 hf
  refine wk_ts_in X 193 9 dX11_letters_1 (by decide) (by decide) (by decide) rfl (by decide) hf (fun hf => ?_) (fun n9 hf => ?_)
  · refine wk_bipush X dX11_letters_193 ib_115 ?_
    refine wk_bipush X dX11_letters_195 ib_108 ?_
    refine wk_bipush X dX11_letters_197 ib_97 ?_
    refine wk_bipush X dX11_letters_199 ib_99 ?_
    refine wk_bipush X dX11_letters_201 ib_107 ?_
    refine wk_iconst X dX11_letters_203 ic_0 ?_
    refine wk_callSj X [.int 115, .int 108, .int 97, .int 99, .int 107, .int 0] [] dX11_letters_204 rfl vo_X11_132 rfl (by decide) (Nat.le_of_ble_eq_true rfl) hf (c_X11_spelled l _ _ _ _ _ _ _) (fun r11 hf => ?_)
    exact wk_lreturn X dX11_letters_207 hf
  refine wk_ts_in X 208 10 dX11_letters_1 (by decide) (by decide) (by decide) rfl (by decide) hf (fun hf => ?_) (fun n10 hf => ?_)
  · refine wk_bipush X dX11_letters_208 ib_104 ?_
    refine wk_bipush X dX11_letters_210 ib_101 ?_
    refine wk_bipush X dX11_letters_212 ib_97 ?_
    refine wk_bipush X dX11_letters_214 ib_114 ?_
    refine wk_bipush X dX11_letters_216 ib_115 ?_
    refine wk_iconst X dX11_letters_218 ic_0 ?_
    refine wk_callSj X [.int 104, .int 101, .int 97, .int 114, .int 115, .int 0] [] dX11_letters_219 rfl vo_X11_132 rfl (by decide) (Nat.le_of_ble_eq_true rfl) hf (c_X11_spelled l _ _ _ _ _ _ _) (fun r12 hf => ?_)
    exact wk_lreturn X dX11_letters_222 hf
  refine wk_ts_in X 223 11 dX11_letters_1 (by decide) (by decide) (by decide) rfl (by decide) hf (fun hf => ?_) (fun n11 hf => ?_)
  · refine wk_bipush X dX11_letters_223 ib_97 ?_
    refine wk_bipush X dX11_letters_225 ib_110 ?_
    refine wk_bipush X dX11_letters_227 ib_100 ?_
    refine wk_iconst X dX11_letters_229 ic_0 ?_
    refine wk_iconst X dX11_letters_230 ic_0 ?_
    refine wk_iconst X dX11_letters_231 ic_0 ?_
    refine wk_callSj X [.int 97, .int 110, .int 100, .int 0, .int 0, .int 0] [] dX11_letters_232 rfl vo_X11_132 rfl (by decide) (Nat.le_of_ble_eq_true rfl) hf (c_X11_spelled l _ _ _ _ _ _ _) (fun r13 hf => ?_)
    exact wk_lreturn X dX11_letters_235 hf
  refine wk_ts_in X 236 12 dX11_letters_1 (by decide) (by decide) (by decide) rfl (by decide) hf (fun hf => ?_) (fun n12 hf => ?_)
  · refine wk_bipush X dX11_letters_236 ib_111 ?_
    refine wk_bipush X dX11_letters_238 ib_114 ?_
    refine wk_iconst X dX11_letters_240 ic_0 ?_
    refine wk_iconst X dX11_letters_241 ic_0 ?_
    refine wk_iconst X dX11_letters_242 ic_0 ?_
    refine wk_iconst X dX11_letters_243 ic_0 ?_
    refine wk_callSj X [.int 111, .int 114, .int 0, .int 0, .int 0, .int 0] [] dX11_letters_244 rfl vo_X11_132 rfl (by decide) (Nat.le_of_ble_eq_true rfl) hf (c_X11_spelled l _ _ _ _ _ _ _) (fun r14 hf => ?_)
    exact wk_lreturn X dX11_letters_247 hf
  refine wk_ts_out X 248 dX11_letters_1 (fc_c n0 (fc_c n1 (fc_c n2 (fc_c n3 (fc_c n4 (fc_c n5 (fc_c n6 (fc_c n7 (fc_c n8 (fc_c n9 (fc_c n10 (fc_c n11 (fc_c n12 fc_n))))))))))))) (by decide) (by decide) (by decide) ?_
  refine wk_bipush X dX11_letters_248 ib_110 ?_
  refine wk_bipush X dX11_letters_250 ib_111 ?_
  refine wk_bipush X dX11_letters_252 ib_116 ?_
  refine wk_iconst X dX11_letters_254 ic_0 ?_
  refine wk_iconst X dX11_letters_255 ic_0 ?_
  refine wk_iconst X dX11_letters_256 ic_0 ?_
  refine wk_callSj X [.int 110, .int 111, .int 116, .int 0, .int 0, .int 0] [] dX11_letters_257 rfl vo_X11_132 rfl (by decide) (Nat.le_of_ble_eq_true rfl) hf (c_X11_spelled l _ _ _ _ _ _ _) (fun r1 hf => ?_)
  exact wk_lreturn X dX11_letters_260 hf
section Sf_X11_knownWord
variable {p : Program} {l : Launch} {e : Env} {s : State} {m : MethodId} {args : Array Value} {below : List Frame} {meth : Method} {c : Code} {G : hp_G} {o : Int32 × hp_H}
def f_X11_knownWord_17  (h : hp_H) : Option (Int32 × hp_H) := some ((-1), h)
set_option maxRecDepth 20000 in
theorem w_X11_knownWord_17 (X : wx G p s m args meth c cX11_knownWord 2 RX11 (some .int))  (h : hp_H) (hf : f_X11_knownWord_17 h = some o) : wq p l e (mt_R (3) 0 0) s m args below meth c (MQ below (mt_Q G (some (.int o.1)) o.2) args s 0 0 (hp_A G)) G 2 0 0 17 [] [] h := by
  unfold f_X11_knownWord_17 at hf
  refine wk_iconst X dX11_knownWord_17 ic_m1 ?_
  exact wk_ireturn X dX11_knownWord_18 hf
def f_X11_knownWord_47  (h : hp_H) : Option (Int32 × hp_H) := some ((-1), h)
set_option maxRecDepth 20000 in
theorem w_X11_knownWord_47 (X : wx G p s m args meth c cX11_knownWord 2 RX11 (some .int))  (h : hp_H) (hf : f_X11_knownWord_47 h = some o) : wq p l e (mt_R (3) 0 0) s m args below meth c (MQ below (mt_Q G (some (.int o.1)) o.2) args s 0 0 (hp_A G)) G 2 0 0 47 [] [] h := by
  unfold f_X11_knownWord_47 at hf
  refine wk_iconst X dX11_knownWord_47 ic_m1 ?_
  exact wk_ireturn X dX11_knownWord_48 hf
def f_X11_knownWord_39 (x1 : Int32) (h : hp_H) : Option (Int32 × hp_H) := some (x1, h)
set_option maxRecDepth 20000 in
theorem w_X11_knownWord_39 (X : wx G p s m args meth c cX11_knownWord 2 RX11 (some .int)) (x1 : Int32) (h : hp_H) (hf : f_X11_knownWord_39 x1 h = some o) : wq p l e (mt_R (3) 0 0) s m args below meth c (MQ below (mt_Q G (some (.int o.1)) o.2) args s 0 0 (hp_A G)) G 2 0 0 39 [(1, .int x1)] [] h := by
  unfold f_X11_knownWord_39 at hf
  refine wk_iload_n X dX11_knownWord_39 0 rfl ?_
  exact wk_ireturn X dX11_knownWord_40 hf
def f_X11_knownWord_21 (k21 : Nat → Int32 → hp_H → Option (Int32 × hp_H)) (x0 : Nat) (x1 : Int32) (h : hp_H) : Option (Int32 × hp_H) := if 14 ≤ x1 then (f_X11_knownWord_47 h) else ((f_X11_letters x1 h).bind fun r1 => (rd_J r1.2 x0 11 21).bind fun v2 => if (lg_cmp r1.1 v2) = 0 then (f_X11_knownWord_39 x1 r1.2) else (k21 x0 (x1 + 1) r1.2))
set_option maxRecDepth 20000 in
theorem w_X11_knownWord_21 (X : wx G p s m args meth c cX11_knownWord 2 RX11 (some .int)) (k21 : Nat → Int32 → hp_H → Option (Int32 × hp_H)) (hk21 : ∀ (x0 : Nat) (x1 : Int32) (h : hp_H), k21 x0 x1 h = some o → wq p l e (mt_R (3) 0 0) s m args below meth c (MQ below (mt_Q G (some (.int o.1)) o.2) args s 0 0 (hp_A G)) G 2 0 0 21 [(0, .ref x0), (1, .int x1)] [] h) (x0 : Nat) (x1 : Int32) (h : hp_H) (hf : f_X11_knownWord_21 k21 x0 x1 h = some o) : wq p l e (mt_R (3) 0 0) s m args below meth c (MQ below (mt_Q G (some (.int o.1)) o.2) args s 0 0 (hp_A G)) G 2 0 0 21 [(0, .ref x0), (1, .int x1)] [] h := by
  unfold f_X11_knownWord_21 at hf
  refine wk_iload_n X dX11_knownWord_21 1 rfl ?_
  refine wk_bipush X dX11_knownWord_22 ib_14 ?_
  refine wk_icmp_ge X 47 dX11_knownWord_24 (by decide) hf (fun hf => ?_) (fun hf => ?_)
  · exact wq_sub [] rfl (w_X11_knownWord_47 X _ hf)
  · refine wk_iload_n X dX11_knownWord_27 1 rfl ?_
    refine wk_callSj X [.int x1] [] dX11_knownWord_28 rfl vo_X11_136 rfl (by decide) (Nat.le_of_ble_eq_true rfl) hf (c_X11_letters l _ _) (fun r1 hf => ?_)
    refine wk_aload_n X dX11_knownWord_31 0 rfl ?_
    refine wk_getJ X dX11_knownWord_32 fo_X11_107 hf (fun v2 hf => ?_)
    refine wk_lcmp X dX11_knownWord_35 ?_
    refine wk_if_ne X 41 dX11_knownWord_36 (by decide) hf (fun hf => ?_) (fun hf => ?_)
    · refine wk_iinc (lv' := [(1, .int (x1 + 1)), (0, .ref x0)]) X dX11_knownWord_41 1 rfl ic_1 (by decide) rfl ?_
      refine wk_goto X 21 dX11_knownWord_44 (by decide) ?_
      exact wq_sub [1, 0] rfl (hk21 _ _ _ hf)
    · exact wq_sub [1] rfl (w_X11_knownWord_39 X _ _ hf)
def l_X11_knownWord_21 (x0 : Nat) (x1 : Int32) (h : hp_H) : Option (Int32 × hp_H) := lp (fun k (s : Nat × Int32 × hp_H) => f_X11_knownWord_21  (fun a0 a1 a2 => k (a0, a1, a2)) s.1 s.2.1 s.2.2) 100000 (x0, x1, h)
theorem wl_X11_knownWord_21 (X : wx G p s m args meth c cX11_knownWord 2 RX11 (some .int)) (x0 : Nat) (x1 : Int32) (h : hp_H) (hf : l_X11_knownWord_21 x0 x1 h = some o) : wq p l e (mt_R (3) 0 0) s m args below meth c (MQ below (mt_Q G (some (.int o.1)) o.2) args s 0 0 (hp_A G)) G 2 0 0 21 [(0, .ref x0), (1, .int x1)] [] h :=
  lp_ind (P := fun (s_ : Nat × Int32 × hp_H) => wq p l e (mt_R (3) 0 0) s m args below meth c (MQ below (mt_Q G (some (.int o.1)) o.2) args s 0 0 (hp_A G)) G 2 0 0 21 [(0, .ref s_.1), (1, .int s_.2.1)] [] s_.2.2) (fun k s hk hf => w_X11_knownWord_21 X  (fun a0 a1 a2 => k (a0, a1, a2)) (fun a0 a1 a2 hf => hk (a0, a1, a2) hf) s.1 s.2.1 s.2.2 hf) 100000 (x0, x1, h) hf
end Sf_X11_knownWord
def f_X11_knownWord (x0 : Nat) (h : hp_H) : Option (Int32 × hp_H) := gd h x0 11 ((rd_I h x0 11 16).bind fun v1 => if v1 = 1 then ((rd_I h x0 11 18).bind fun v2 => if v2 ≤ 6 then (l_X11_knownWord_21 x0 0 h) else (f_X11_knownWord_17 h)) else (f_X11_knownWord_17 h))
set_option maxRecDepth 20000 in
theorem c_X11_knownWord (l : Launch) (x0 : Nat) (h : hp_H) (r : Int32 × hp_H) (hf : f_X11_knownWord x0 h = some r) : cv l (3) yX11_knownWord cX11_knownWord 2 (some .int) 11 x0 [] h (some (.int r.1)) r.2 := by
  unfold f_X11_knownWord at hf
  refine cv_of (lv := [(0, .ref x0)]) hf (by decide +kernel) (Nat.le_of_ble_eq_true rfl) rfl (fun hf p e s m args below meth c G X => ?_)
  refine wk_aload_n X dX11_knownWord_0 0 rfl ?_
  refine wk_getI X dX11_knownWord_1 fo_X11_117 hf (fun v1 hf => ?_)
  refine wk_iconst X dX11_knownWord_4 ic_1 ?_
  refine wk_icmp_ne X 17 dX11_knownWord_5 (by decide) hf (fun hf => ?_) (fun hf => ?_)
  · exact wq_sub [] rfl (w_X11_knownWord_17 X _ hf)
  · refine wk_aload_n X dX11_knownWord_8 0 rfl ?_
    refine wk_getI X dX11_knownWord_9 fo_X11_127 hf (fun v2 hf => ?_)
    refine wk_bipush X dX11_knownWord_12 ib_6 ?_
    refine wk_icmp_le X 19 dX11_knownWord_14 (by decide) hf (fun hf => ?_) (fun hf => ?_)
    · refine wk_iconst X dX11_knownWord_19 ic_0 ?_
      refine wk_istore_n (lv' := [(1, .int 0), (0, .ref x0)]) X dX11_knownWord_20 (by decide) rfl ?_
      exact wq_sub [1, 0] rfl (wl_X11_knownWord_21 X _ _ _ hf)
    · exact wq_sub [] rfl (w_X11_knownWord_17 X _ hf)
section Sf_X11_wrong
variable {p : Program} {l : Launch} {e : Env} {s : State} {m : MethodId} {args : Array Value} {below : List Frame} {meth : Method} {c : Code} {G : hp_G} {o : hp_H}
end Sf_X11_wrong
def f_X11_wrong (x0 : Nat) (x1 : Int32) (h : hp_H) : Option (hp_H) := gd h x0 11 ((rd_I h x0 11 11).bind fun v1 => if v1 = 0 then ((wr_I h x0 11 11 x1).bind fun h2 => (rd_I h2 x0 11 17).bind fun v3 => (wr_I h2 x0 11 12 v3).bind fun h4 => some h4) else (some h))
set_option maxRecDepth 20000 in
theorem c_X11_wrong (l : Launch) (x0 : Nat) (x1 : Int32) (h : hp_H) (r : hp_H) (hf : f_X11_wrong x0 x1 h = some r) : cv l (1) yX11_wrong cX11_wrong 2 none 11 x0 [.int x1] h none r := by
  unfold f_X11_wrong at hf
  refine cv_of (lv := [(0, .ref x0), (1, .int x1)]) hf (by decide +kernel) (Nat.le_of_ble_eq_true rfl) rfl (fun hf p e s m args below meth c G X => ?_)
  refine wk_aload_n X dX11_wrong_0 0 rfl ?_
  refine wk_getI X dX11_wrong_1 fo_X11_140 hf (fun v1 hf => ?_)
  refine wk_if_eq X 8 dX11_wrong_4 (by decide) hf (fun hf => ?_) (fun hf => ?_)
  · refine wk_aload_n X dX11_wrong_8 0 rfl ?_
    refine wk_iload_n X dX11_wrong_9 1 rfl ?_
    refine wk_putI X dX11_wrong_10 fo_X11_140 hf (fun h2 hf => ?_)
    refine wk_aload_n X dX11_wrong_13 0 rfl ?_
    refine wk_aload_n X dX11_wrong_14 0 rfl ?_
    refine wk_getI X dX11_wrong_15 fo_X11_104 hf (fun v3 hf => ?_)
    refine wk_putI X dX11_wrong_18 fo_X11_29 hf (fun h4 hf => ?_)
    exact wk_return X dX11_wrong_21 hf
  · exact wk_return X dX11_wrong_7 hf
section Sf_X11_isGood
variable {p : Program} {l : Launch} {e : Env} {s : State} {m : MethodId} {args : Array Value} {below : List Frame} {meth : Method} {c : Code} {G : hp_G} {o : Int32 × hp_H}
def f_X11_isGood_12 (t0 : Int32) (h : hp_H) : Option (Int32 × hp_H) := if t0 = 0 ∨ t0 = 1 then some (t0, h) else none
set_option maxRecDepth 20000 in
theorem w_X11_isGood_12 (X : wx G p s m args meth c cX11_isGood 1 RX11 (some .boolean)) (t0 : Int32) (h : hp_H) (hf : f_X11_isGood_12 t0 h = some o) : wq p l e (mt_R (1) 0 0) s m args below meth c (MQ below (mt_Q G (some (.int o.1)) o.2) args s 0 0 (hp_A G)) G 1 0 0 12 [] [.int t0] h := by
  unfold f_X11_isGood_12 at hf
  exact wk_zreturn X dX11_isGood_12 hf
end Sf_X11_isGood
def f_X11_isGood (x0 : Nat) (h : hp_H) : Option (Int32 × hp_H) := gd h x0 11 ((rd_I h x0 11 11).bind fun v1 => if v1 = 0 then (f_X11_isGood_12 1 h) else (f_X11_isGood_12 0 h))
set_option maxRecDepth 20000 in
theorem c_X11_isGood (l : Launch) (x0 : Nat) (h : hp_H) (r : Int32 × hp_H) (hf : f_X11_isGood x0 h = some r) : cv l (1) yX11_isGood cX11_isGood 1 (some .boolean) 11 x0 [] h (some (.int r.1)) r.2 := by
  unfold f_X11_isGood at hf
  refine cv_of (lv := [(0, .ref x0)]) hf (by decide +kernel) (Nat.le_of_ble_eq_true rfl) rfl (fun hf p e s m args below meth c G X => ?_)
  refine wk_aload_n X dX11_isGood_0 0 rfl ?_
  refine wk_getI X dX11_isGood_1 fo_X11_140 hf (fun v1 hf => ?_)
  refine wk_if_ne X 11 dX11_isGood_4 (by decide) hf (fun hf => ?_) (fun hf => ?_)
  · refine wk_iconst X dX11_isGood_11 ic_0 ?_
    exact wq_sub [] rfl (w_X11_isGood_12 X _ _ hf)
  · refine wk_iconst X dX11_isGood_7 ic_1 ?_
    refine wk_goto X 12 dX11_isGood_8 (by decide) ?_
    exact wq_sub [] rfl (w_X11_isGood_12 X _ _ hf)
section Sf_X11_isSign
variable {p : Program} {l : Launch} {e : Env} {s : State} {m : MethodId} {args : Array Value} {below : List Frame} {meth : Method} {c : Code} {G : hp_G} {o : Int32 × hp_H}
def f_X11_isSign_21 (t0 : Int32) (h : hp_H) : Option (Int32 × hp_H) := if t0 = 0 ∨ t0 = 1 then some (t0, h) else none
set_option maxRecDepth 20000 in
theorem w_X11_isSign_21 (X : wx G p s m args meth c cX11_isSign 2 RX11 (some .boolean)) (t0 : Int32) (h : hp_H) (hf : f_X11_isSign_21 t0 h = some o) : wq p l e (mt_R (1) 0 0) s m args below meth c (MQ below (mt_Q G (some (.int o.1)) o.2) args s 0 0 (hp_A G)) G 2 0 0 21 [] [.int t0] h := by
  unfold f_X11_isSign_21 at hf
  exact wk_zreturn X dX11_isSign_21 hf
def f_X11_isSign_20  (h : hp_H) : Option (Int32 × hp_H) := f_X11_isSign_21 0 h
set_option maxRecDepth 20000 in
theorem w_X11_isSign_20 (X : wx G p s m args meth c cX11_isSign 2 RX11 (some .boolean))  (h : hp_H) (hf : f_X11_isSign_20 h = some o) : wq p l e (mt_R (1) 0 0) s m args below meth c (MQ below (mt_Q G (some (.int o.1)) o.2) args s 0 0 (hp_A G)) G 2 0 0 20 [] [] h := by
  unfold f_X11_isSign_20 at hf
  refine wk_iconst X dX11_isSign_20 ic_0 ?_
  exact wq_sub [] rfl (w_X11_isSign_21 X _ _ hf)
end Sf_X11_isSign
def f_X11_isSign (x0 : Nat) (x1 : Int32) (h : hp_H) : Option (Int32 × hp_H) := gd h x0 11 ((rd_I h x0 11 16).bind fun v1 => if v1 = 3 then ((rd_I h x0 11 20).bind fun v2 => if v2 = x1 then (f_X11_isSign_21 1 h) else (f_X11_isSign_20 h)) else (f_X11_isSign_20 h))
set_option maxRecDepth 20000 in
theorem c_X11_isSign (l : Launch) (x0 : Nat) (x1 : Int32) (h : hp_H) (r : Int32 × hp_H) (hf : f_X11_isSign x0 x1 h = some r) : cv l (1) yX11_isSign cX11_isSign 2 (some .boolean) 11 x0 [.int x1] h (some (.int r.1)) r.2 := by
  unfold f_X11_isSign at hf
  refine cv_of (lv := [(0, .ref x0), (1, .int x1)]) hf (by decide +kernel) (Nat.le_of_ble_eq_true rfl) rfl (fun hf p e s m args below meth c G X => ?_)
  refine wk_aload_n X dX11_isSign_0 0 rfl ?_
  refine wk_getI X dX11_isSign_1 fo_X11_117 hf (fun v1 hf => ?_)
  refine wk_iconst X dX11_isSign_4 ic_3 ?_
  refine wk_icmp_ne X 20 dX11_isSign_5 (by decide) hf (fun hf => ?_) (fun hf => ?_)
  · exact wq_sub [] rfl (w_X11_isSign_20 X _ hf)
  · refine wk_aload_n X dX11_isSign_8 0 rfl ?_
    refine wk_getI X dX11_isSign_9 fo_X11_114 hf (fun v2 hf => ?_)
    refine wk_iload_n X dX11_isSign_12 1 rfl ?_
    refine wk_icmp_ne X 20 dX11_isSign_13 (by decide) hf (fun hf => ?_) (fun hf => ?_)
    · exact wq_sub [] rfl (w_X11_isSign_20 X _ hf)
    · refine wk_iconst X dX11_isSign_16 ic_1 ?_
      refine wk_goto X 21 dX11_isSign_17 (by decide) ?_
      exact wq_sub [] rfl (w_X11_isSign_21 X _ _ hf)
section Sf_X11_need
variable {p : Program} {l : Launch} {e : Env} {s : State} {m : MethodId} {args : Array Value} {below : List Frame} {meth : Method} {c : Code} {G : hp_G} {o : hp_H}
def f_X11_need_24  (h : hp_H) : Option (hp_H) := some h
set_option maxRecDepth 20000 in
theorem w_X11_need_24 (X : wx G p s m args meth c cX11_need 2 RX11 none)  (h : hp_H) (hf : f_X11_need_24 h = some o) : wq p l e (mt_R (3) 0 0) s m args below meth c (MQ below (mt_Q G none o) args s 0 0 (hp_A G)) G 2 0 0 24 [] [] h := by
  unfold f_X11_need_24 at hf
  exact wk_return X dX11_need_24 hf
end Sf_X11_need
def f_X11_need (x0 : Nat) (x1 : Int32) (h : hp_H) : Option (hp_H) := gd h x0 11 ((f_X11_isGood x0 h).bind fun r1 => if r1.1 = 0 then (some r1.2) else (if x1 = 0 then ((f_X11_wrong x0 1 r1.2).bind fun r2 => f_X11_need_24 r2) else ((f_X11_goes x0 r1.2).bind fun r3 => f_X11_need_24 r3)))
set_option maxRecDepth 20000 in
theorem c_X11_need (l : Launch) (x0 : Nat) (x1 : Int32) (h : hp_H) (r : hp_H) (hf : f_X11_need x0 x1 h = some r) : cv l (3) yX11_need cX11_need 2 none 11 x0 [.int x1] h none r := by
  unfold f_X11_need at hf
  refine cv_of (lv := [(0, .ref x0), (1, .int x1)]) hf (by decide +kernel) (Nat.le_of_ble_eq_true rfl) rfl (fun hf p e s m args below meth c G X => ?_)
  refine wk_aload_n X dX11_need_0 0 rfl ?_
  refine wk_callVi X [] [] dX11_need_1 rfl vo_X11_143 rfl (by decide) (Nat.le_of_ble_eq_true rfl) hf (c_X11_isGood l _ _) (fun r1 hf => ?_)
  refine wk_if_ne X 8 dX11_need_4 (by decide) hf (fun hf => ?_) (fun hf => ?_)
  · refine wk_iload_n X dX11_need_8 1 rfl ?_
    refine wk_if_eq X 19 dX11_need_9 (by decide) hf (fun hf => ?_) (fun hf => ?_)
    · refine wk_aload_n X dX11_need_19 0 rfl ?_
      refine wk_iconst X dX11_need_20 ic_1 ?_
      refine wk_callVv X [.int 1] [] dX11_need_21 rfl vo_X11_150 rfl (by decide) (Nat.le_of_ble_eq_true rfl) hf (c_X11_wrong l _ _ _) (fun r2 hf => ?_)
      exact wq_sub [] rfl (w_X11_need_24 X _ hf)
    · refine wk_aload_n X dX11_need_12 0 rfl ?_
      refine wk_callVv X [] [] dX11_need_13 rfl vo_X11_147 rfl (by decide) (Nat.le_of_ble_eq_true rfl) hf (c_X11_goes l _ _) (fun r3 hf => ?_)
      refine wk_goto X 24 dX11_need_16 (by decide) ?_
      exact wq_sub [] rfl (w_X11_need_24 X _ hf)
  · exact wk_return X dX11_need_7 hf
section Sf_X11_number
variable {p : Program} {l : Launch} {e : Env} {s : State} {m : MethodId} {args : Array Value} {below : List Frame} {meth : Method} {c : Code} {G : hp_G} {o : Int32 × hp_H}
def f_X11_number_70 (x3 : Int32) (h : hp_H) : Option (Int32 × hp_H) := some (x3, h)
set_option maxRecDepth 20000 in
theorem w_X11_number_70 (X : wx G p s m args meth c cX11_number 4 RX11 (some .int)) (x3 : Int32) (h : hp_H) (hf : f_X11_number_70 x3 h = some o) : wq p l e (mt_R (3) 0 0) s m args below meth c (MQ below (mt_Q G (some (.int o.1)) o.2) args s 0 0 (hp_A G)) G 4 0 0 70 [(3, .int x3)] [] h := by
  unfold f_X11_number_70 at hf
  refine wk_iload_n X dX11_number_70 0 rfl ?_
  exact wk_ireturn X dX11_number_71 hf
def f_X11_number_54 (x0 : Nat) (h : hp_H) : Option (Int32 × hp_H) := (rd_I h x0 11 19).bind fun v1 => (f_X11_isGood x0 h).bind fun r2 => if r2.1 = 0 then (f_X11_number_70 v1 r2.2) else ((f_X11_goes x0 r2.2).bind fun r3 => f_X11_number_70 v1 r3)
set_option maxRecDepth 20000 in
theorem w_X11_number_54 (X : wx G p s m args meth c cX11_number 4 RX11 (some .int)) (x0 : Nat) (h : hp_H) (hf : f_X11_number_54 x0 h = some o) : wq p l e (mt_R (3) 0 0) s m args below meth c (MQ below (mt_Q G (some (.int o.1)) o.2) args s 0 0 (hp_A G)) G 4 0 0 54 [(0, .ref x0)] [] h := by
  unfold f_X11_number_54 at hf
  refine wk_aload_n X dX11_number_54 0 rfl ?_
  refine wk_getI X dX11_number_55 fo_X11_111 hf (fun v1 hf => ?_)
  refine wk_istore_n (lv' := [(3, .int v1), (0, .ref x0)]) X dX11_number_58 (by decide) rfl ?_
  refine wk_aload_n X dX11_number_59 1 rfl ?_
  refine wk_callVi X [] [] dX11_number_60 rfl vo_X11_143 rfl (by decide) (Nat.le_of_ble_eq_true rfl) hf (c_X11_isGood l _ _) (fun r2 hf => ?_)
  refine wk_if_eq X 70 dX11_number_63 (by decide) hf (fun hf => ?_) (fun hf => ?_)
  · exact wq_sub [0] rfl (w_X11_number_70 X _ _ hf)
  · refine wk_aload_n X dX11_number_66 1 rfl ?_
    refine wk_callVv X [] [] dX11_number_67 rfl vo_X11_147 rfl (by decide) (Nat.le_of_ble_eq_true rfl) hf (c_X11_goes l _ _) (fun r3 hf => ?_)
    exact wq_sub [0] rfl (w_X11_number_70 X _ _ hf)
def f_X11_number_49 (x0 : Nat) (h : hp_H) : Option (Int32 × hp_H) := (f_X11_wrong x0 2 h).bind fun r1 => f_X11_number_54 x0 r1
set_option maxRecDepth 20000 in
theorem w_X11_number_49 (X : wx G p s m args meth c cX11_number 4 RX11 (some .int)) (x0 : Nat) (h : hp_H) (hf : f_X11_number_49 x0 h = some o) : wq p l e (mt_R (3) 0 0) s m args below meth c (MQ below (mt_Q G (some (.int o.1)) o.2) args s 0 0 (hp_A G)) G 4 0 0 49 [(0, .ref x0)] [] h := by
  unfold f_X11_number_49 at hf
  refine wk_aload_n X dX11_number_49 0 rfl ?_
  refine wk_iconst X dX11_number_50 ic_2 ?_
  refine wk_callVv X [.int 2] [] dX11_number_51 rfl vo_X11_150 rfl (by decide) (Nat.le_of_ble_eq_true rfl) hf (c_X11_wrong l _ _ _) (fun r1 hf => ?_)
  exact wq_sub [0] rfl (w_X11_number_54 X _ _ hf)
end Sf_X11_number
def f_X11_number (x0 : Nat) (x1 : Int32) (x2 : Int32) (h : hp_H) : Option (Int32 × hp_H) := gd h x0 11 ((f_X11_isGood x0 h).bind fun r1 => if r1.1 = 0 then (some (0, r1.2)) else ((rd_I r1.2 x0 11 16).bind fun v2 => if v2 = 2 then ((rd_I r1.2 x0 11 18).bind fun v3 => if 4 < v3 then (f_X11_number_49 x0 r1.2) else ((rd_I r1.2 x0 11 19).bind fun v4 => if v4 < x1 then (f_X11_number_49 x0 r1.2) else ((rd_I r1.2 x0 11 19).bind fun v5 => if v5 ≤ x2 then (f_X11_number_54 x0 r1.2) else (f_X11_number_49 x0 r1.2)))) else ((f_X11_wrong x0 1 r1.2).bind fun r6 => f_X11_number_54 x0 r6)))
set_option maxRecDepth 20000 in
theorem c_X11_number (l : Launch) (x0 : Nat) (x1 : Int32) (x2 : Int32) (h : hp_H) (r : Int32 × hp_H) (hf : f_X11_number x0 x1 x2 h = some r) : cv l (3) yX11_number cX11_number 4 (some .int) 11 x0 [.int x1, .int x2] h (some (.int r.1)) r.2 := by
  unfold f_X11_number at hf
  refine cv_of (lv := [(0, .ref x0), (1, .int x1), (2, .int x2)]) hf (by decide +kernel) (Nat.le_of_ble_eq_true rfl) rfl (fun hf p e s m args below meth c G X => ?_)
  refine wk_aload_n X dX11_number_0 0 rfl ?_
  refine wk_callVi X [] [] dX11_number_1 rfl vo_X11_143 rfl (by decide) (Nat.le_of_ble_eq_true rfl) hf (c_X11_isGood l _ _) (fun r1 hf => ?_)
  refine wk_if_ne X 9 dX11_number_4 (by decide) hf (fun hf => ?_) (fun hf => ?_)
  · refine wk_aload_n X dX11_number_9 0 rfl ?_
    refine wk_getI X dX11_number_10 fo_X11_117 hf (fun v2 hf => ?_)
    refine wk_iconst X dX11_number_13 ic_2 ?_
    refine wk_icmp_eq X 25 dX11_number_14 (by decide) hf (fun hf => ?_) (fun hf => ?_)
    · refine wk_aload_n X dX11_number_25 0 rfl ?_
      refine wk_getI X dX11_number_26 fo_X11_127 hf (fun v3 hf => ?_)
      refine wk_iconst X dX11_number_29 ic_4 ?_
      refine wk_icmp_gt X 49 dX11_number_30 (by decide) hf (fun hf => ?_) (fun hf => ?_)
      · exact wq_sub [0] rfl (w_X11_number_49 X _ _ hf)
      · refine wk_aload_n X dX11_number_33 0 rfl ?_
        refine wk_getI X dX11_number_34 fo_X11_111 hf (fun v4 hf => ?_)
        refine wk_iload_n X dX11_number_37 1 rfl ?_
        refine wk_icmp_lt X 49 dX11_number_38 (by decide) hf (fun hf => ?_) (fun hf => ?_)
        · exact wq_sub [0] rfl (w_X11_number_49 X _ _ hf)
        · refine wk_aload_n X dX11_number_41 0 rfl ?_
          refine wk_getI X dX11_number_42 fo_X11_111 hf (fun v5 hf => ?_)
          refine wk_iload_n X dX11_number_45 2 rfl ?_
          refine wk_icmp_le X 54 dX11_number_46 (by decide) hf (fun hf => ?_) (fun hf => ?_)
          · exact wq_sub [0] rfl (w_X11_number_54 X _ _ hf)
          · exact wq_sub [0] rfl (w_X11_number_49 X _ _ hf)
    · refine wk_aload_n X dX11_number_17 0 rfl ?_
      refine wk_iconst X dX11_number_18 ic_1 ?_
      refine wk_callVv X [.int 1] [] dX11_number_19 rfl vo_X11_150 rfl (by decide) (Nat.le_of_ble_eq_true rfl) hf (c_X11_wrong l _ _ _) (fun r6 hf => ?_)
      refine wk_goto X 54 dX11_number_22 (by decide) ?_
      exact wq_sub [0] rfl (w_X11_number_54 X _ _ hf)
  · refine wk_iconst X dX11_number_7 ic_0 ?_
    exact wk_ireturn X dX11_number_8 hf
section Sf_X11_puts
variable {p : Program} {l : Launch} {e : Env} {s : State} {m : MethodId} {args : Array Value} {below : List Frame} {meth : Method} {c : Code} {G : hp_G} {o : hp_H}
end Sf_X11_puts
def f_X11_puts (x0 : Nat) (x1 : Int32) (h : hp_H) : Option (hp_H) := gd h x0 11 ((rd_R h x0 11 33).bind fun v1 => (rd_I h x0 11 28).bind fun v2 => (wr_A h v1 v2 x1).bind fun h3 => (rd_I h3 x0 11 28).bind fun v4 => (wr_I h3 x0 11 28 (v4 + 1)).bind fun h5 => some h5)
set_option maxRecDepth 20000 in
theorem c_X11_puts (l : Launch) (x0 : Nat) (x1 : Int32) (h : hp_H) (r : hp_H) (hf : f_X11_puts x0 x1 h = some r) : cv l (1) yX11_puts cX11_puts 2 none 11 x0 [.int x1] h none r := by
  unfold f_X11_puts at hf
  refine cv_of (lv := [(0, .ref x0), (1, .int x1)]) hf (by decide +kernel) (Nat.le_of_ble_eq_true rfl) rfl (fun hf p e s m args below meth c G X => ?_)
  refine wk_aload_n X dX11_puts_0 0 rfl ?_
  refine wk_getR X dX11_puts_1 fo_X11_41 hf (fun v1 hf => ?_)
  refine wk_aload_n X dX11_puts_4 0 rfl ?_
  refine wk_getI X dX11_puts_5 fo_X11_153 hf (fun v2 hf => ?_)
  refine wk_iload_n X dX11_puts_8 1 rfl ?_
  refine wk_iast X dX11_puts_9 hf (fun h3 hf => ?_)
  refine wk_aload_n X dX11_puts_10 0 rfl ?_
  refine wk_dup X dX11_puts_11 rfl ?_
  refine wk_getI X dX11_puts_12 fo_X11_153 hf (fun v4 hf => ?_)
  refine wk_iconst X dX11_puts_15 ic_1 ?_
  refine wk_iadd X dX11_puts_16 ?_
  refine wk_putI X dX11_puts_17 fo_X11_153 hf (fun h5 hf => ?_)
  exact wk_return X dX11_puts_20 hf
section Sf_X11_isOpen
variable {p : Program} {l : Launch} {e : Env} {s : State} {m : MethodId} {args : Array Value} {below : List Frame} {meth : Method} {c : Code} {G : hp_G} {o : Int32 × hp_H}
def f_X11_isOpen_11 (t0 : Int32) (h : hp_H) : Option (Int32 × hp_H) := if t0 = 0 ∨ t0 = 1 then some (t0, h) else none
set_option maxRecDepth 20000 in
theorem w_X11_isOpen_11 (X : wx G p s m args meth c cX11_isOpen 1 RX11 (some .boolean)) (t0 : Int32) (h : hp_H) (hf : f_X11_isOpen_11 t0 h = some o) : wq p l e (mt_R (1) 0 0) s m args below meth c (MQ below (mt_Q G (some (.int o.1)) o.2) args s 0 0 (hp_A G)) G 1 0 0 11 [] [.int t0] h := by
  unfold f_X11_isOpen_11 at hf
  exact wk_zreturn X dX11_isOpen_11 hf
end Sf_X11_isOpen
def f_X11_isOpen (x0 : Int32) (h : hp_H) : Option (Int32 × hp_H) := if x0 < 14 then (f_X11_isOpen_11 0 h) else (f_X11_isOpen_11 1 h)
set_option maxRecDepth 20000 in
theorem c_X11_isOpen (l : Launch) (x0 : Int32) (h : hp_H) (r : Int32 × hp_H) (hf : f_X11_isOpen x0 h = some r) : cs l 1 yX11_isOpen cX11_isOpen 1 (some .boolean) [.int x0] h (some (.int r.1)) r.2 := by
  unfold f_X11_isOpen at hf
  refine mt_of (lv := [(0, .int x0)]) (by decide +kernel) (Nat.le_of_ble_eq_true rfl) rfl (fun p e s m args below meth c G X => ?_)
  refine wk_iload_n X dX11_isOpen_0 0 rfl ?_
  refine wk_bipush X dX11_isOpen_1 ib_14 ?_
  refine wk_icmp_lt X 10 dX11_isOpen_3 (by decide) hf (fun hf => ?_) (fun hf => ?_)
  · refine wk_iconst X dX11_isOpen_10 ic_0 ?_
    exact wq_sub [] rfl (w_X11_isOpen_11 X _ _ hf)
  · refine wk_iconst X dX11_isOpen_6 ic_1 ?_
    refine wk_goto X 11 dX11_isOpen_7 (by decide) ?_
    exact wq_sub [] rfl (w_X11_isOpen_11 X _ _ hf)
section Sf_X11_strength
variable {p : Program} {l : Launch} {e : Env} {s : State} {m : MethodId} {args : Array Value} {below : List Frame} {meth : Method} {c : Code} {G : hp_G} {o : Int32 × hp_H}
def f_X11_strength_61 (t0 : Int32) (h : hp_H) : Option (Int32 × hp_H) := some (t0, h)
set_option maxRecDepth 20000 in
theorem w_X11_strength_61 (X : wx G p s m args meth c cX11_strength 1 RX11 (some .int)) (t0 : Int32) (h : hp_H) (hf : f_X11_strength_61 t0 h = some o) : wq p l e (mt_R (1) 0 0) s m args below meth c (MQ below (mt_Q G (some (.int o.1)) o.2) args s 0 0 (hp_A G)) G 1 0 0 61 [] [.int t0] h := by
  unfold f_X11_strength_61 at hf
  exact wk_ireturn X dX11_strength_61 hf
def f_X11_strength_39  (h : hp_H) : Option (Int32 × hp_H) := f_X11_strength_61 4 h
set_option maxRecDepth 20000 in
theorem w_X11_strength_39 (X : wx G p s m args meth c cX11_strength 1 RX11 (some .int))  (h : hp_H) (hf : f_X11_strength_39 h = some o) : wq p l e (mt_R (1) 0 0) s m args below meth c (MQ below (mt_Q G (some (.int o.1)) o.2) args s 0 0 (hp_A G)) G 1 0 0 39 [] [] h := by
  unfold f_X11_strength_39 at hf
  refine wk_iconst X dX11_strength_39 ic_4 ?_
  refine wk_goto X 61 dX11_strength_40 (by decide) ?_
  exact wq_sub [] rfl (w_X11_strength_61 X _ _ hf)
def f_X11_strength_55  (h : hp_H) : Option (Int32 × hp_H) := f_X11_strength_61 5 h
set_option maxRecDepth 20000 in
theorem w_X11_strength_55 (X : wx G p s m args meth c cX11_strength 1 RX11 (some .int))  (h : hp_H) (hf : f_X11_strength_55 h = some o) : wq p l e (mt_R (1) 0 0) s m args below meth c (MQ below (mt_Q G (some (.int o.1)) o.2) args s 0 0 (hp_A G)) G 1 0 0 55 [] [] h := by
  unfold f_X11_strength_55 at hf
  refine wk_iconst X dX11_strength_55 ic_5 ?_
  refine wk_goto X 61 dX11_strength_56 (by decide) ?_
  exact wq_sub [] rfl (w_X11_strength_61 X _ _ hf)
end Sf_X11_strength
def f_X11_strength (x0 : Int32) (h : hp_H) : Option (Int32 × hp_H) := if x0 = 5 then (f_X11_strength_61 1 h) else (if x0 = 4 then (f_X11_strength_61 2 h) else (if x0 = 3 then (f_X11_strength_61 3 h) else (if x0 = 6 then (f_X11_strength_39 h) else (if x0 = 7 then (f_X11_strength_39 h) else (if x0 = 8 then (f_X11_strength_55 h) else (if x0 = 9 then (f_X11_strength_55 h) else (f_X11_strength_61 6 h)))))))
set_option maxRecDepth 20000 in
theorem c_X11_strength (l : Launch) (x0 : Int32) (h : hp_H) (r : Int32 × hp_H) (hf : f_X11_strength x0 h = some r) : cs l 1 yX11_strength cX11_strength 1 (some .int) [.int x0] h (some (.int r.1)) r.2 := by
  unfold f_X11_strength at hf
  refine mt_of (lv := [(0, .int x0)]) (by decide +kernel) (Nat.le_of_ble_eq_true rfl) rfl (fun p e s m args below meth c G X => ?_)
  refine wk_iload_n X dX11_strength_0 0 rfl ?_
  refine wk_iconst X dX11_strength_1 ic_5 ?_
  refine wk_icmp_ne X 9 dX11_strength_2 (by decide) hf (fun hf => ?_) (fun hf => ?_)
  · refine wk_iload_n X dX11_strength_9 0 rfl ?_
    refine wk_iconst X dX11_strength_10 ic_4 ?_
    refine wk_icmp_ne X 18 dX11_strength_11 (by decide) hf (fun hf => ?_) (fun hf => ?_)
    · refine wk_iload_n X dX11_strength_18 0 rfl ?_
      refine wk_iconst X dX11_strength_19 ic_3 ?_
      refine wk_icmp_ne X 27 dX11_strength_20 (by decide) hf (fun hf => ?_) (fun hf => ?_)
      · refine wk_iload_n X dX11_strength_27 0 rfl ?_
        refine wk_bipush X dX11_strength_28 ib_6 ?_
        refine wk_icmp_eq X 39 dX11_strength_30 (by decide) hf (fun hf => ?_) (fun hf => ?_)
        · exact wq_sub [] rfl (w_X11_strength_39 X _ hf)
        · refine wk_iload_n X dX11_strength_33 0 rfl ?_
          refine wk_bipush X dX11_strength_34 ib_7 ?_
          refine wk_icmp_ne X 43 dX11_strength_36 (by decide) hf (fun hf => ?_) (fun hf => ?_)
          · refine wk_iload_n X dX11_strength_43 0 rfl ?_
            refine wk_bipush X dX11_strength_44 ib_8 ?_
            refine wk_icmp_eq X 55 dX11_strength_46 (by decide) hf (fun hf => ?_) (fun hf => ?_)
            · exact wq_sub [] rfl (w_X11_strength_55 X _ hf)
            · refine wk_iload_n X dX11_strength_49 0 rfl ?_
              refine wk_bipush X dX11_strength_50 ib_9 ?_
              refine wk_icmp_ne X 59 dX11_strength_52 (by decide) hf (fun hf => ?_) (fun hf => ?_)
              · refine wk_bipush X dX11_strength_59 ib_6 ?_
                exact wq_sub [] rfl (w_X11_strength_61 X _ _ hf)
              · exact wq_sub [] rfl (w_X11_strength_55 X _ hf)
          · exact wq_sub [] rfl (w_X11_strength_39 X _ hf)
      · refine wk_iconst X dX11_strength_23 ic_3 ?_
        refine wk_goto X 61 dX11_strength_24 (by decide) ?_
        exact wq_sub [] rfl (w_X11_strength_61 X _ _ hf)
    · refine wk_iconst X dX11_strength_14 ic_2 ?_
      refine wk_goto X 61 dX11_strength_15 (by decide) ?_
      exact wq_sub [] rfl (w_X11_strength_61 X _ _ hf)
  · refine wk_iconst X dX11_strength_5 ic_1 ?_
    refine wk_goto X 61 dX11_strength_6 (by decide) ?_
    exact wq_sub [] rfl (w_X11_strength_61 X _ _ hf)
section Sf_X11_drops
variable {p : Program} {l : Launch} {e : Env} {s : State} {m : MethodId} {args : Array Value} {below : List Frame} {meth : Method} {c : Code} {G : hp_G} {o : hp_H}
def f_X11_drops_68  (h : hp_H) : Option (hp_H) := some h
set_option maxRecDepth 20000 in
theorem w_X11_drops_68 (X : wx G p s m args meth c cX11_drops 2 RX11 none)  (h : hp_H) (hf : f_X11_drops_68 h = some o) : wq p l e (mt_R (2) 0 0) s m args below meth c (MQ below (mt_Q G none o) args s 0 0 (hp_A G)) G 2 0 0 68 [] [] h := by
  unfold f_X11_drops_68 at hf
  exact wk_return X dX11_drops_68 hf
def f_X11_drops_0 (k0 : Nat → Int32 → hp_H → Option (hp_H)) (x0 : Nat) (x1 : Int32) (h : hp_H) : Option (hp_H) := (rd_I h x0 11 29).bind fun v1 => if v1 ≤ 0 then (f_X11_drops_68 h) else ((rd_R h x0 11 34).bind fun v2 => (rd_I h x0 11 29).bind fun v3 => (rd_A h 0 v2 (v3 - 1)).bind fun v4 => (f_X11_isOpen v4 h).bind fun r5 => if r5.1 = 0 then ((rd_R r5.2 x0 11 34).bind fun v6 => (rd_I r5.2 x0 11 29).bind fun v7 => (rd_A r5.2 0 v6 (v7 - 1)).bind fun v8 => (f_X11_strength v8 r5.2).bind fun r9 => if r9.1 < x1 then (f_X11_drops_68 r9.2) else ((rd_I r9.2 x0 11 29).bind fun v10 => (wr_I r9.2 x0 11 29 (v10 - 1)).bind fun h11 => (rd_R h11 x0 11 34).bind fun v12 => (rd_I h11 x0 11 29).bind fun v13 => (rd_A h11 0 v12 v13).bind fun v14 => (f_X11_puts x0 v14 h11).bind fun r15 => k0 x0 x1 r15)) else (f_X11_drops_68 r5.2))
set_option maxRecDepth 20000 in
theorem w_X11_drops_0 (X : wx G p s m args meth c cX11_drops 2 RX11 none) (k0 : Nat → Int32 → hp_H → Option (hp_H)) (hk0 : ∀ (x0 : Nat) (x1 : Int32) (h : hp_H), k0 x0 x1 h = some o → wq p l e (mt_R (2) 0 0) s m args below meth c (MQ below (mt_Q G none o) args s 0 0 (hp_A G)) G 2 0 0 0 [(0, .ref x0), (1, .int x1)] [] h) (x0 : Nat) (x1 : Int32) (h : hp_H) (hf : f_X11_drops_0 k0 x0 x1 h = some o) : wq p l e (mt_R (2) 0 0) s m args below meth c (MQ below (mt_Q G none o) args s 0 0 (hp_A G)) G 2 0 0 0 [(0, .ref x0), (1, .int x1)] [] h := by
  unfold f_X11_drops_0 at hf
  refine wk_aload_n X dX11_drops_0 0 rfl ?_
  refine wk_getI X dX11_drops_1 fo_X11_156 hf (fun v1 hf => ?_)
  refine wk_if_le X 68 dX11_drops_4 (by decide) hf (fun hf => ?_) (fun hf => ?_)
  · exact wq_sub [] rfl (w_X11_drops_68 X _ hf)
  · refine wk_aload_n X dX11_drops_7 0 rfl ?_
    refine wk_getR X dX11_drops_8 fo_X11_44 hf (fun v2 hf => ?_)
    refine wk_aload_n X dX11_drops_11 0 rfl ?_
    refine wk_getI X dX11_drops_12 fo_X11_156 hf (fun v3 hf => ?_)
    refine wk_iconst X dX11_drops_15 ic_1 ?_
    refine wk_isub X dX11_drops_16 ?_
    refine wk_iald X dX11_drops_17 hf (fun v4 hf => ?_)
    refine wk_callSi X [.int v4] [] dX11_drops_18 rfl vo_X11_159 rfl (by decide) (Nat.le_of_ble_eq_true rfl) hf (c_X11_isOpen l _ _) (fun r5 hf => ?_)
    refine wk_if_ne X 68 dX11_drops_21 (by decide) hf (fun hf => ?_) (fun hf => ?_)
    · exact wq_sub [] rfl (w_X11_drops_68 X _ hf)
    · refine wk_aload_n X dX11_drops_24 0 rfl ?_
      refine wk_getR X dX11_drops_25 fo_X11_44 hf (fun v6 hf => ?_)
      refine wk_aload_n X dX11_drops_28 0 rfl ?_
      refine wk_getI X dX11_drops_29 fo_X11_156 hf (fun v7 hf => ?_)
      refine wk_iconst X dX11_drops_32 ic_1 ?_
      refine wk_isub X dX11_drops_33 ?_
      refine wk_iald X dX11_drops_34 hf (fun v8 hf => ?_)
      refine wk_callSi X [.int v8] [] dX11_drops_35 rfl vo_X11_162 rfl (by decide) (Nat.le_of_ble_eq_true rfl) hf (c_X11_strength l _ _) (fun r9 hf => ?_)
      refine wk_iload_n X dX11_drops_38 1 rfl ?_
      refine wk_icmp_lt X 68 dX11_drops_39 (by decide) hf (fun hf => ?_) (fun hf => ?_)
      · exact wq_sub [] rfl (w_X11_drops_68 X _ hf)
      · refine wk_aload_n X dX11_drops_42 0 rfl ?_
        refine wk_dup X dX11_drops_43 rfl ?_
        refine wk_getI X dX11_drops_44 fo_X11_156 hf (fun v10 hf => ?_)
        refine wk_iconst X dX11_drops_47 ic_1 ?_
        refine wk_isub X dX11_drops_48 ?_
        refine wk_putI X dX11_drops_49 fo_X11_156 hf (fun h11 hf => ?_)
        refine wk_aload_n X dX11_drops_52 0 rfl ?_
        refine wk_aload_n X dX11_drops_53 0 rfl ?_
        refine wk_getR X dX11_drops_54 fo_X11_44 hf (fun v12 hf => ?_)
        refine wk_aload_n X dX11_drops_57 0 rfl ?_
        refine wk_getI X dX11_drops_58 fo_X11_156 hf (fun v13 hf => ?_)
        refine wk_iald X dX11_drops_61 hf (fun v14 hf => ?_)
        refine wk_callVv X [.int v14] [] dX11_drops_62 rfl vo_X11_165 rfl (by decide) (Nat.le_of_ble_eq_true rfl) hf (c_X11_puts l _ _ _) (fun r15 hf => ?_)
        refine wk_goto X 0 dX11_drops_65 (by decide) ?_
        exact wq_sub [0, 1] rfl (hk0 _ _ _ hf)
def l_X11_drops_0 (x0 : Nat) (x1 : Int32) (h : hp_H) : Option (hp_H) := lp (fun k (s : Nat × Int32 × hp_H) => f_X11_drops_0  (fun a0 a1 a2 => k (a0, a1, a2)) s.1 s.2.1 s.2.2) 100000 (x0, x1, h)
theorem wl_X11_drops_0 (X : wx G p s m args meth c cX11_drops 2 RX11 none) (x0 : Nat) (x1 : Int32) (h : hp_H) (hf : l_X11_drops_0 x0 x1 h = some o) : wq p l e (mt_R (2) 0 0) s m args below meth c (MQ below (mt_Q G none o) args s 0 0 (hp_A G)) G 2 0 0 0 [(0, .ref x0), (1, .int x1)] [] h :=
  lp_ind (P := fun (s_ : Nat × Int32 × hp_H) => wq p l e (mt_R (2) 0 0) s m args below meth c (MQ below (mt_Q G none o) args s 0 0 (hp_A G)) G 2 0 0 0 [(0, .ref s_.1), (1, .int s_.2.1)] [] s_.2.2) (fun k s hk hf => w_X11_drops_0 X  (fun a0 a1 a2 => k (a0, a1, a2)) (fun a0 a1 a2 hf => hk (a0, a1, a2) hf) s.1 s.2.1 s.2.2 hf) 100000 (x0, x1, h) hf
end Sf_X11_drops
def f_X11_drops (x0 : Nat) (x1 : Int32) (h : hp_H) : Option (hp_H) := gd h x0 11 (l_X11_drops_0 x0 x1 h)
set_option maxRecDepth 20000 in
theorem c_X11_drops (l : Launch) (x0 : Nat) (x1 : Int32) (h : hp_H) (r : hp_H) (hf : f_X11_drops x0 x1 h = some r) : cv l (2) yX11_drops cX11_drops 2 none 11 x0 [.int x1] h none r := by
  unfold f_X11_drops at hf
  refine cv_of (lv := [(0, .ref x0), (1, .int x1)]) hf (by decide +kernel) (Nat.le_of_ble_eq_true rfl) rfl (fun hf p e s m args below meth c G X => ?_)
  exact wq_sub [0, 1] rfl (wl_X11_drops_0 X _ _ _ hf)
section Sf_X11_waitsFor
variable {p : Program} {l : Launch} {e : Env} {s : State} {m : MethodId} {args : Array Value} {below : List Frame} {meth : Method} {c : Code} {G : hp_G} {o : hp_H}
end Sf_X11_waitsFor
def f_X11_waitsFor (x0 : Nat) (x1 : Int32) (h : hp_H) : Option (hp_H) := gd h x0 11 ((rd_R h x0 11 34).bind fun v1 => (rd_I h x0 11 29).bind fun v2 => (wr_A h v1 v2 x1).bind fun h3 => (rd_I h3 x0 11 29).bind fun v4 => (wr_I h3 x0 11 29 (v4 + 1)).bind fun h5 => some h5)
set_option maxRecDepth 20000 in
theorem c_X11_waitsFor (l : Launch) (x0 : Nat) (x1 : Int32) (h : hp_H) (r : hp_H) (hf : f_X11_waitsFor x0 x1 h = some r) : cv l (1) yX11_waitsFor cX11_waitsFor 2 none 11 x0 [.int x1] h none r := by
  unfold f_X11_waitsFor at hf
  refine cv_of (lv := [(0, .ref x0), (1, .int x1)]) hf (by decide +kernel) (Nat.le_of_ble_eq_true rfl) rfl (fun hf p e s m args below meth c G X => ?_)
  refine wk_aload_n X dX11_waitsFor_0 0 rfl ?_
  refine wk_getR X dX11_waitsFor_1 fo_X11_44 hf (fun v1 hf => ?_)
  refine wk_aload_n X dX11_waitsFor_4 0 rfl ?_
  refine wk_getI X dX11_waitsFor_5 fo_X11_156 hf (fun v2 hf => ?_)
  refine wk_iload_n X dX11_waitsFor_8 1 rfl ?_
  refine wk_iast X dX11_waitsFor_9 hf (fun h3 hf => ?_)
  refine wk_aload_n X dX11_waitsFor_10 0 rfl ?_
  refine wk_dup X dX11_waitsFor_11 rfl ?_
  refine wk_getI X dX11_waitsFor_12 fo_X11_156 hf (fun v4 hf => ?_)
  refine wk_iconst X dX11_waitsFor_15 ic_1 ?_
  refine wk_iadd X dX11_waitsFor_16 ?_
  refine wk_putI X dX11_waitsFor_17 fo_X11_156 hf (fun h5 hf => ?_)
  exact wk_return X dX11_waitsFor_20 hf
section Sf_X11_part
variable {p : Program} {l : Launch} {e : Env} {s : State} {m : MethodId} {args : Array Value} {below : List Frame} {meth : Method} {c : Code} {G : hp_G} {o : hp_H}
def f_X11_part_101  (h : hp_H) : Option (hp_H) := some h
set_option maxRecDepth 20000 in
theorem w_X11_part_101 (X : wx G p s m args meth c cX11_part 2 RX11 none)  (h : hp_H) (hf : f_X11_part_101 h = some o) : wq p l e (mt_R (4) 0 0) s m args below meth c (MQ below (mt_Q G none o) args s 0 0 (hp_A G)) G 2 0 0 101 [] [] h := by
  unfold f_X11_part_101 at hf
  exact wk_return X dX11_part_101 hf
def f_X11_part_90 (x0 : Nat) (h : hp_H) : Option (hp_H) := (f_X11_isGood x0 h).bind fun r1 => if r1.1 = 0 then (f_X11_part_101 r1.2) else ((f_X11_goes x0 r1.2).bind fun r2 => f_X11_part_101 r2)
set_option maxRecDepth 20000 in
theorem w_X11_part_90 (X : wx G p s m args meth c cX11_part 2 RX11 none) (x0 : Nat) (h : hp_H) (hf : f_X11_part_90 x0 h = some o) : wq p l e (mt_R (4) 0 0) s m args below meth c (MQ below (mt_Q G none o) args s 0 0 (hp_A G)) G 2 0 0 90 [(0, .ref x0)] [] h := by
  unfold f_X11_part_90 at hf
  refine wk_aload_n X dX11_part_90 0 rfl ?_
  refine wk_callVi X [] [] dX11_part_91 rfl vo_X11_143 rfl (by decide) (Nat.le_of_ble_eq_true rfl) hf (c_X11_isGood l _ _) (fun r1 hf => ?_)
  refine wk_if_eq X 101 dX11_part_94 (by decide) hf (fun hf => ?_) (fun hf => ?_)
  · exact wq_sub [] rfl (w_X11_part_101 X _ hf)
  · refine wk_aload_n X dX11_part_97 0 rfl ?_
    refine wk_callVv X [] [] dX11_part_98 rfl vo_X11_147 rfl (by decide) (Nat.le_of_ble_eq_true rfl) hf (c_X11_goes l _ _) (fun r2 hf => ?_)
    exact wq_sub [] rfl (w_X11_part_101 X _ hf)
def f_X11_part_72 (x0 : Nat) (x1 : Int32) (h : hp_H) : Option (hp_H) := (f_X11_puts x0 2 h).bind fun r1 => (f_X11_puts x0 x1 r1).bind fun r2 => f_X11_part_90 x0 r2
set_option maxRecDepth 20000 in
theorem w_X11_part_72 (X : wx G p s m args meth c cX11_part 2 RX11 none) (x0 : Nat) (x1 : Int32) (h : hp_H) (hf : f_X11_part_72 x0 x1 h = some o) : wq p l e (mt_R (4) 0 0) s m args below meth c (MQ below (mt_Q G none o) args s 0 0 (hp_A G)) G 2 0 0 72 [(0, .ref x0), (1, .int x1)] [] h := by
  unfold f_X11_part_72 at hf
  refine wk_aload_n X dX11_part_72 0 rfl ?_
  refine wk_iconst X dX11_part_73 ic_2 ?_
  refine wk_callVv X [.int 2] [] dX11_part_74 rfl vo_X11_165 rfl (by decide) (Nat.le_of_ble_eq_true rfl) hf (c_X11_puts l _ _ _) (fun r1 hf => ?_)
  refine wk_aload_n X dX11_part_77 0 rfl ?_
  refine wk_iload_n X dX11_part_78 1 rfl ?_
  refine wk_callVv X [.int x1] [] dX11_part_79 rfl vo_X11_165 rfl (by decide) (Nat.le_of_ble_eq_true rfl) hf (c_X11_puts l _ _ _) (fun r2 hf => ?_)
  refine wk_goto X 90 dX11_part_82 (by decide) ?_
  exact wq_sub [0] rfl (w_X11_part_90 X _ _ hf)
def f_X11_part_67 (x0 : Nat) (x1 : Int32) (h : hp_H) : Option (hp_H) := (f_X11_wrong x0 3 h).bind fun r1 => f_X11_part_72 x0 x1 r1
set_option maxRecDepth 20000 in
theorem w_X11_part_67 (X : wx G p s m args meth c cX11_part 2 RX11 none) (x0 : Nat) (x1 : Int32) (h : hp_H) (hf : f_X11_part_67 x0 x1 h = some o) : wq p l e (mt_R (4) 0 0) s m args below meth c (MQ below (mt_Q G none o) args s 0 0 (hp_A G)) G 2 0 0 67 [(0, .ref x0), (1, .int x1)] [] h := by
  unfold f_X11_part_67 at hf
  refine wk_aload_n X dX11_part_67 0 rfl ?_
  refine wk_iconst X dX11_part_68 ic_3 ?_
  refine wk_callVv X [.int 3] [] dX11_part_69 rfl vo_X11_150 rfl (by decide) (Nat.le_of_ble_eq_true rfl) hf (c_X11_wrong l _ _ _) (fun r1 hf => ?_)
  exact wq_sub [0, 1] rfl (w_X11_part_72 X _ _ _ hf)
def f_X11_part_29 (x0 : Nat) (h : hp_H) : Option (hp_H) := (f_X11_puts x0 1 h).bind fun r1 => (rd_I r1 x0 11 19).bind fun v2 => (f_X11_puts x0 v2 r1).bind fun r3 => f_X11_part_90 x0 r3
set_option maxRecDepth 20000 in
theorem w_X11_part_29 (X : wx G p s m args meth c cX11_part 2 RX11 none) (x0 : Nat) (h : hp_H) (hf : f_X11_part_29 x0 h = some o) : wq p l e (mt_R (4) 0 0) s m args below meth c (MQ below (mt_Q G none o) args s 0 0 (hp_A G)) G 2 0 0 29 [(0, .ref x0)] [] h := by
  unfold f_X11_part_29 at hf
  refine wk_aload_n X dX11_part_29 0 rfl ?_
  refine wk_iconst X dX11_part_30 ic_1 ?_
  refine wk_callVv X [.int 1] [] dX11_part_31 rfl vo_X11_165 rfl (by decide) (Nat.le_of_ble_eq_true rfl) hf (c_X11_puts l _ _ _) (fun r1 hf => ?_)
  refine wk_aload_n X dX11_part_34 0 rfl ?_
  refine wk_aload_n X dX11_part_35 0 rfl ?_
  refine wk_getI X dX11_part_36 fo_X11_111 hf (fun v2 hf => ?_)
  refine wk_callVv X [.int v2] [] dX11_part_39 rfl vo_X11_165 rfl (by decide) (Nat.le_of_ble_eq_true rfl) hf (c_X11_puts l _ _ _) (fun r3 hf => ?_)
  refine wk_goto X 90 dX11_part_42 (by decide) ?_
  exact wq_sub [0] rfl (w_X11_part_90 X _ _ hf)
end Sf_X11_part
def f_X11_part (x0 : Nat) (h : hp_H) : Option (hp_H) := gd h x0 11 ((f_X11_isGood x0 h).bind fun r1 => if r1.1 = 0 then (some r1.2) else ((rd_I r1.2 x0 11 16).bind fun v2 => if v2 = 2 then ((rd_I r1.2 x0 11 18).bind fun v6 => if v6 ≤ 4 then (f_X11_part_29 x0 r1.2) else ((f_X11_wrong x0 2 r1.2).bind fun r7 => f_X11_part_29 x0 r7)) else ((rd_I r1.2 x0 11 16).bind fun v3 => if v3 = 1 then ((f_X11_knownWord x0 r1.2).bind fun r5 => if r5.1 < 0 then (f_X11_part_67 x0 r5.1 r5.2) else (if r5.1 ≤ 5 then (f_X11_part_72 x0 r5.1 r5.2) else (f_X11_part_67 x0 r5.1 r5.2))) else ((f_X11_wrong x0 1 r1.2).bind fun r4 => f_X11_part_90 x0 r4))))
set_option maxRecDepth 20000 in
theorem c_X11_part (l : Launch) (x0 : Nat) (h : hp_H) (r : hp_H) (hf : f_X11_part x0 h = some r) : cv l (4) yX11_part cX11_part 2 none 11 x0 [] h none r := by
  unfold f_X11_part at hf
  refine cv_of (lv := [(0, .ref x0)]) hf (by decide +kernel) (Nat.le_of_ble_eq_true rfl) rfl (fun hf p e s m args below meth c G X => ?_)
  refine wk_aload_n X dX11_part_0 0 rfl ?_
  refine wk_callVi X [] [] dX11_part_1 rfl vo_X11_143 rfl (by decide) (Nat.le_of_ble_eq_true rfl) hf (c_X11_isGood l _ _) (fun r1 hf => ?_)
  refine wk_if_ne X 8 dX11_part_4 (by decide) hf (fun hf => ?_) (fun hf => ?_)
  · refine wk_aload_n X dX11_part_8 0 rfl ?_
    refine wk_getI X dX11_part_9 fo_X11_117 hf (fun v2 hf => ?_)
    refine wk_iconst X dX11_part_12 ic_2 ?_
    refine wk_icmp_ne X 45 dX11_part_13 (by decide) hf (fun hf => ?_) (fun hf => ?_)
    · refine wk_aload_n X dX11_part_45 0 rfl ?_
      refine wk_getI X dX11_part_46 fo_X11_117 hf (fun v3 hf => ?_)
      refine wk_iconst X dX11_part_49 ic_1 ?_
      refine wk_icmp_ne X 85 dX11_part_50 (by decide) hf (fun hf => ?_) (fun hf => ?_)
      · refine wk_aload_n X dX11_part_85 0 rfl ?_
        refine wk_iconst X dX11_part_86 ic_1 ?_
        refine wk_callVv X [.int 1] [] dX11_part_87 rfl vo_X11_150 rfl (by decide) (Nat.le_of_ble_eq_true rfl) hf (c_X11_wrong l _ _ _) (fun r4 hf => ?_)
        exact wq_sub [0] rfl (w_X11_part_90 X _ _ hf)
      · refine wk_aload_n X dX11_part_53 0 rfl ?_
        refine wk_callVi X [] [] dX11_part_54 rfl vo_X11_168 rfl (by decide) (Nat.le_of_ble_eq_true rfl) hf (c_X11_knownWord l _ _) (fun r5 hf => ?_)
        refine wk_istore_n (lv' := [(1, .int r5.1), (0, .ref x0)]) X dX11_part_57 (by decide) rfl ?_
        refine wk_iload_n X dX11_part_58 0 rfl ?_
        refine wk_if_lt X 67 dX11_part_59 (by decide) hf (fun hf => ?_) (fun hf => ?_)
        · exact wq_sub [1, 0] rfl (w_X11_part_67 X _ _ _ hf)
        · refine wk_iload_n X dX11_part_62 0 rfl ?_
          refine wk_iconst X dX11_part_63 ic_5 ?_
          refine wk_icmp_le X 72 dX11_part_64 (by decide) hf (fun hf => ?_) (fun hf => ?_)
          · exact wq_sub [1, 0] rfl (w_X11_part_72 X _ _ _ hf)
          · exact wq_sub [1, 0] rfl (w_X11_part_67 X _ _ _ hf)
    · refine wk_aload_n X dX11_part_16 0 rfl ?_
      refine wk_getI X dX11_part_17 fo_X11_127 hf (fun v6 hf => ?_)
      refine wk_iconst X dX11_part_20 ic_4 ?_
      refine wk_icmp_le X 29 dX11_part_21 (by decide) hf (fun hf => ?_) (fun hf => ?_)
      · exact wq_sub [0] rfl (w_X11_part_29 X _ _ hf)
      · refine wk_aload_n X dX11_part_24 0 rfl ?_
        refine wk_iconst X dX11_part_25 ic_2 ?_
        refine wk_callVv X [.int 2] [] dX11_part_26 rfl vo_X11_150 rfl (by decide) (Nat.le_of_ble_eq_true rfl) hf (c_X11_wrong l _ _ _) (fun r7 hf => ?_)
        exact wq_sub [0] rfl (w_X11_part_29 X _ _ hf)
  · exact wk_return X dX11_part_7 hf
section Sf_X11_deeper
variable {p : Program} {l : Launch} {e : Env} {s : State} {m : MethodId} {args : Array Value} {below : List Frame} {meth : Method} {c : Code} {G : hp_G} {o : hp_H}
def f_X11_deeper_61 (t0 : Nat) (t1 : Int32) (h : hp_H) : Option (hp_H) := (f_X11_wrong t0 t1 h).bind fun r1 => some r1
set_option maxRecDepth 20000 in
theorem w_X11_deeper_61 (X : wx G p s m args meth c cX11_deeper 1 RX11 none) (t0 : Nat) (t1 : Int32) (h : hp_H) (hf : f_X11_deeper_61 t0 t1 h = some o) : wq p l e (mt_R (2) 0 0) s m args below meth c (MQ below (mt_Q G none o) args s 0 0 (hp_A G)) G 1 0 0 61 [] [.int t1, .ref t0] h := by
  unfold f_X11_deeper_61 at hf
  refine wk_callVv X [.int t1] [] dX11_deeper_61 rfl vo_X11_150 rfl (by decide) (Nat.le_of_ble_eq_true rfl) hf (c_X11_wrong l _ _ _) (fun r1 hf => ?_)
  exact wk_return X dX11_deeper_64 hf
def f_X11_deeper_56 (t0 : Nat) (h : hp_H) : Option (hp_H) := f_X11_deeper_61 t0 2 h
set_option maxRecDepth 20000 in
theorem w_X11_deeper_56 (X : wx G p s m args meth c cX11_deeper 1 RX11 none) (t0 : Nat) (h : hp_H) (hf : f_X11_deeper_56 t0 h = some o) : wq p l e (mt_R (2) 0 0) s m args below meth c (MQ below (mt_Q G none o) args s 0 0 (hp_A G)) G 1 0 0 56 [] [.ref t0] h := by
  unfold f_X11_deeper_56 at hf
  refine wk_iconst X dX11_deeper_56 ic_2 ?_
  refine wk_goto X 61 dX11_deeper_57 (by decide) ?_
  exact wq_sub [] rfl (w_X11_deeper_61 X _ _ _ hf)
end Sf_X11_deeper
def f_X11_deeper (x0 : Nat) (h : hp_H) : Option (hp_H) := gd h x0 11 ((rd_I h x0 11 30).bind fun v1 => if 6 ≤ v1 then ((rd_I h x0 11 16).bind fun v2 => if v2 = 2 then (f_X11_deeper_56 x0 h) else ((rd_I h x0 11 16).bind fun v3 => if v3 = 1 then (f_X11_deeper_56 x0 h) else ((f_X11_isSign x0 40 h).bind fun r4 => if r4.1 = 0 then (f_X11_deeper_61 x0 1 r4.2) else (f_X11_deeper_56 x0 r4.2)))) else ((rd_I h x0 11 30).bind fun v5 => (wr_I h x0 11 30 (v5 + 1)).bind fun h6 => (rd_R h6 x0 11 35).bind fun v7 => (rd_I h6 x0 11 30).bind fun v8 => (wr_AZ h6 v7 v8 0).bind fun h9 => some h9))
set_option maxRecDepth 20000 in
theorem c_X11_deeper (l : Launch) (x0 : Nat) (h : hp_H) (r : hp_H) (hf : f_X11_deeper x0 h = some r) : cv l (2) yX11_deeper cX11_deeper 1 none 11 x0 [] h none r := by
  unfold f_X11_deeper at hf
  refine cv_of (lv := [(0, .ref x0)]) hf (by decide +kernel) (Nat.le_of_ble_eq_true rfl) rfl (fun hf p e s m args below meth c G X => ?_)
  refine wk_aload_n X dX11_deeper_0 0 rfl ?_
  refine wk_getI X dX11_deeper_1 fo_X11_172 hf (fun v1 hf => ?_)
  refine wk_bipush X dX11_deeper_4 ib_6 ?_
  refine wk_icmp_ge X 30 dX11_deeper_6 (by decide) hf (fun hf => ?_) (fun hf => ?_)
  · refine wk_aload_n X dX11_deeper_30 0 rfl ?_
    refine wk_aload_n X dX11_deeper_31 0 rfl ?_
    refine wk_getI X dX11_deeper_32 fo_X11_117 hf (fun v2 hf => ?_)
    refine wk_iconst X dX11_deeper_35 ic_2 ?_
    refine wk_icmp_eq X 56 dX11_deeper_36 (by decide) hf (fun hf => ?_) (fun hf => ?_)
    · exact wq_sub [] rfl (w_X11_deeper_56 X _ _ hf)
    · refine wk_aload_n X dX11_deeper_39 0 rfl ?_
      refine wk_getI X dX11_deeper_40 fo_X11_117 hf (fun v3 hf => ?_)
      refine wk_iconst X dX11_deeper_43 ic_1 ?_
      refine wk_icmp_eq X 56 dX11_deeper_44 (by decide) hf (fun hf => ?_) (fun hf => ?_)
      · exact wq_sub [] rfl (w_X11_deeper_56 X _ _ hf)
      · refine wk_aload_n X dX11_deeper_47 0 rfl ?_
        refine wk_bipush X dX11_deeper_48 ib_40 ?_
        refine wk_callVi X [.int 40] [.ref x0] dX11_deeper_50 rfl vo_X11_175 rfl (by decide) (Nat.le_of_ble_eq_true rfl) hf (c_X11_isSign l _ _ _) (fun r4 hf => ?_)
        refine wk_if_eq X 60 dX11_deeper_53 (by decide) hf (fun hf => ?_) (fun hf => ?_)
        · refine wk_iconst X dX11_deeper_60 ic_1 ?_
          exact wq_sub [] rfl (w_X11_deeper_61 X _ _ _ hf)
        · exact wq_sub [] rfl (w_X11_deeper_56 X _ _ hf)
  · refine wk_aload_n X dX11_deeper_9 0 rfl ?_
    refine wk_dup X dX11_deeper_10 rfl ?_
    refine wk_getI X dX11_deeper_11 fo_X11_172 hf (fun v5 hf => ?_)
    refine wk_iconst X dX11_deeper_14 ic_1 ?_
    refine wk_iadd X dX11_deeper_15 ?_
    refine wk_putI X dX11_deeper_16 fo_X11_172 hf (fun h6 hf => ?_)
    refine wk_aload_n X dX11_deeper_19 0 rfl ?_
    refine wk_getR X dX11_deeper_20 fo_X11_47 hf (fun v7 hf => ?_)
    refine wk_aload_n X dX11_deeper_23 0 rfl ?_
    refine wk_getI X dX11_deeper_24 fo_X11_172 hf (fun v8 hf => ?_)
    refine wk_iconst X dX11_deeper_27 ic_0 ?_
    refine wk_zast X dX11_deeper_28 hf (fun h9 hf => ?_)
    exact wk_return X dX11_deeper_29 hf
section Sf_X11_operand
variable {p : Program} {l : Launch} {e : Env} {s : State} {m : MethodId} {args : Array Value} {below : List Frame} {meth : Method} {c : Code} {G : hp_G} {o : hp_H}
def f_X11_operand_120 (x0 : Nat) (h : hp_H) : Option (hp_H) := (f_X11_part x0 h).bind fun r1 => some r1
set_option maxRecDepth 20000 in
theorem w_X11_operand_120 (X : wx G p s m args meth c cX11_operand 5 RX11 none) (x0 : Nat) (h : hp_H) (hf : f_X11_operand_120 x0 h = some o) : wq p l e (mt_R (5) 0 0) s m args below meth c (MQ below (mt_Q G none o) args s 0 0 (hp_A G)) G 5 0 0 120 [(0, .ref x0)] [] h := by
  unfold f_X11_operand_120 at hf
  refine wk_aload_n X dX11_operand_120 0 rfl ?_
  refine wk_callVv X [] [] dX11_operand_121 rfl vo_X11_184 rfl (by decide) (Nat.le_of_ble_eq_true rfl) hf (c_X11_part l _ _) (fun r1 hf => ?_)
  exact wk_return X dX11_operand_124 hf
def f_X11_operand_117 (k4 : Nat → Int32 → Int32 → hp_H → Option (hp_H)) (x0 : Nat) (x2 : Int32) (x3 : Int32) (h : hp_H) : Option (hp_H) := k4 x0 x2 x3 h
set_option maxRecDepth 20000 in
theorem w_X11_operand_117 (X : wx G p s m args meth c cX11_operand 5 RX11 none) (k4 : Nat → Int32 → Int32 → hp_H → Option (hp_H)) (hk4 : ∀ (x0 : Nat) (x2 : Int32) (x3 : Int32) (h : hp_H), k4 x0 x2 x3 h = some o → wq p l e (mt_R (5) 0 0) s m args below meth c (MQ below (mt_Q G none o) args s 0 0 (hp_A G)) G 5 0 0 4 [(0, .ref x0), (2, .int x2), (3, .int x3)] [] h) (x0 : Nat) (x2 : Int32) (x3 : Int32) (h : hp_H) (hf : f_X11_operand_117 k4 x0 x2 x3 h = some o) : wq p l e (mt_R (5) 0 0) s m args below meth c (MQ below (mt_Q G none o) args s 0 0 (hp_A G)) G 5 0 0 117 [(0, .ref x0), (2, .int x2), (3, .int x3)] [] h := by
  unfold f_X11_operand_117 at hf
  refine wk_goto X 4 dX11_operand_117 (by decide) ?_
  exact wq_sub [0, 1, 2] rfl (hk4 _ _ _ _ hf)
def f_X11_operand_96 (k4 : Nat → Int32 → Int32 → hp_H → Option (hp_H)) (x0 : Nat) (x2 : Int32) (t0 : Int32) (h : hp_H) : Option (hp_H) := if t0 = 0 then (f_X11_operand_117 k4 x0 x2 t0 h) else ((f_X11_waitsFor x0 14 h).bind fun r1 => (f_X11_goes x0 r1).bind fun r2 => (f_X11_deeper x0 r2).bind fun r3 => f_X11_operand_117 k4 x0 1 t0 r3)
set_option maxRecDepth 20000 in
theorem w_X11_operand_96 (X : wx G p s m args meth c cX11_operand 5 RX11 none) (k4 : Nat → Int32 → Int32 → hp_H → Option (hp_H)) (hk4 : ∀ (x0 : Nat) (x2 : Int32) (x3 : Int32) (h : hp_H), k4 x0 x2 x3 h = some o → wq p l e (mt_R (5) 0 0) s m args below meth c (MQ below (mt_Q G none o) args s 0 0 (hp_A G)) G 5 0 0 4 [(0, .ref x0), (2, .int x2), (3, .int x3)] [] h) (x0 : Nat) (x2 : Int32) (t0 : Int32) (h : hp_H) (hf : f_X11_operand_96 k4 x0 x2 t0 h = some o) : wq p l e (mt_R (5) 0 0) s m args below meth c (MQ below (mt_Q G none o) args s 0 0 (hp_A G)) G 5 0 0 96 [(0, .ref x0), (2, .int x2)] [.int t0] h := by
  unfold f_X11_operand_96 at hf
  refine wk_istore_n (lv' := [(3, .int t0), (0, .ref x0), (2, .int x2)]) X dX11_operand_96 (by decide) rfl ?_
  refine wk_iload_n X dX11_operand_97 0 rfl ?_
  refine wk_if_eq X 117 dX11_operand_98 (by decide) hf (fun hf => ?_) (fun hf => ?_)
  · exact wq_sub [1, 2, 0] rfl (w_X11_operand_117 X k4 hk4 _ _ _ _ hf)
  · refine wk_aload_n X dX11_operand_101 1 rfl ?_
    refine wk_bipush X dX11_operand_102 ib_14 ?_
    refine wk_callVv X [.int 14] [] dX11_operand_104 rfl vo_X11_178 rfl (by decide) (Nat.le_of_ble_eq_true rfl) hf (c_X11_waitsFor l _ _ _) (fun r1 hf => ?_)
    refine wk_aload_n X dX11_operand_107 1 rfl ?_
    refine wk_callVv X [] [] dX11_operand_108 rfl vo_X11_147 rfl (by decide) (Nat.le_of_ble_eq_true rfl) hf (c_X11_goes l _ _) (fun r2 hf => ?_)
    refine wk_aload_n X dX11_operand_111 1 rfl ?_
    refine wk_callVv X [] [] dX11_operand_112 rfl vo_X11_181 rfl (by decide) (Nat.le_of_ble_eq_true rfl) hf (c_X11_deeper l _ _) (fun r3 hf => ?_)
    refine wk_iconst X dX11_operand_115 ic_1 ?_
    refine wk_istore_n (lv' := [(2, .int 1), (3, .int t0), (0, .ref x0)]) X dX11_operand_116 (by decide) rfl ?_
    exact wq_sub [2, 0, 1] rfl (w_X11_operand_117 X k4 hk4 _ _ _ _ hf)
def f_X11_operand_95 (k4 : Nat → Int32 → Int32 → hp_H → Option (hp_H)) (x0 : Nat) (x2 : Int32) (h : hp_H) : Option (hp_H) := f_X11_operand_96 k4 x0 x2 0 h
set_option maxRecDepth 20000 in
theorem w_X11_operand_95 (X : wx G p s m args meth c cX11_operand 5 RX11 none) (k4 : Nat → Int32 → Int32 → hp_H → Option (hp_H)) (hk4 : ∀ (x0 : Nat) (x2 : Int32) (x3 : Int32) (h : hp_H), k4 x0 x2 x3 h = some o → wq p l e (mt_R (5) 0 0) s m args below meth c (MQ below (mt_Q G none o) args s 0 0 (hp_A G)) G 5 0 0 4 [(0, .ref x0), (2, .int x2), (3, .int x3)] [] h) (x0 : Nat) (x2 : Int32) (h : hp_H) (hf : f_X11_operand_95 k4 x0 x2 h = some o) : wq p l e (mt_R (5) 0 0) s m args below meth c (MQ below (mt_Q G none o) args s 0 0 (hp_A G)) G 5 0 0 95 [(0, .ref x0), (2, .int x2)] [] h := by
  unfold f_X11_operand_95 at hf
  refine wk_iconst X dX11_operand_95 ic_0 ?_
  exact wq_sub [0, 1] rfl (w_X11_operand_96 X k4 hk4 _ _ _ _ hf)
def f_X11_operand_75 (k4 : Nat → Int32 → Int32 → hp_H → Option (hp_H)) (x0 : Nat) (x2 : Int32) (h : hp_H) : Option (hp_H) := (f_X11_isGood x0 h).bind fun r1 => if r1.1 = 0 then (f_X11_operand_95 k4 x0 x2 r1.2) else ((f_X11_isSign x0 40 r1.2).bind fun r2 => if r2.1 = 0 then (f_X11_operand_95 k4 x0 x2 r2.2) else (f_X11_operand_96 k4 x0 x2 1 r2.2))
set_option maxRecDepth 20000 in
theorem w_X11_operand_75 (X : wx G p s m args meth c cX11_operand 5 RX11 none) (k4 : Nat → Int32 → Int32 → hp_H → Option (hp_H)) (hk4 : ∀ (x0 : Nat) (x2 : Int32) (x3 : Int32) (h : hp_H), k4 x0 x2 x3 h = some o → wq p l e (mt_R (5) 0 0) s m args below meth c (MQ below (mt_Q G none o) args s 0 0 (hp_A G)) G 5 0 0 4 [(0, .ref x0), (2, .int x2), (3, .int x3)] [] h) (x0 : Nat) (x2 : Int32) (h : hp_H) (hf : f_X11_operand_75 k4 x0 x2 h = some o) : wq p l e (mt_R (5) 0 0) s m args below meth c (MQ below (mt_Q G none o) args s 0 0 (hp_A G)) G 5 0 0 75 [(0, .ref x0), (2, .int x2)] [] h := by
  unfold f_X11_operand_75 at hf
  refine wk_aload_n X dX11_operand_75 0 rfl ?_
  refine wk_callVi X [] [] dX11_operand_76 rfl vo_X11_143 rfl (by decide) (Nat.le_of_ble_eq_true rfl) hf (c_X11_isGood l _ _) (fun r1 hf => ?_)
  refine wk_if_eq X 95 dX11_operand_79 (by decide) hf (fun hf => ?_) (fun hf => ?_)
  · exact wq_sub [0, 1] rfl (w_X11_operand_95 X k4 hk4 _ _ _ hf)
  · refine wk_aload_n X dX11_operand_82 0 rfl ?_
    refine wk_bipush X dX11_operand_83 ib_40 ?_
    refine wk_callVi X [.int 40] [] dX11_operand_85 rfl vo_X11_175 rfl (by decide) (Nat.le_of_ble_eq_true rfl) hf (c_X11_isSign l _ _ _) (fun r2 hf => ?_)
    refine wk_if_eq X 95 dX11_operand_88 (by decide) hf (fun hf => ?_) (fun hf => ?_)
    · exact wq_sub [0, 1] rfl (w_X11_operand_95 X k4 hk4 _ _ _ hf)
    · refine wk_iconst X dX11_operand_91 ic_1 ?_
      refine wk_goto X 96 dX11_operand_92 (by decide) ?_
      exact wq_sub [0, 1] rfl (w_X11_operand_96 X k4 hk4 _ _ _ _ hf)
def f_X11_operand_50 (k4 : Nat → Int32 → Int32 → hp_H → Option (hp_H)) (k18 : Nat → Int32 → Int32 → hp_H → Option (hp_H)) (x0 : Nat) (x2 : Int32) (x4 : Int32) (h : hp_H) : Option (hp_H) := (f_X11_isGood x0 h).bind fun r1 => if r1.1 = 0 then (k18 x0 x2 (x4 + 1) r1.2) else ((f_X11_waitsFor x0 3 r1.2).bind fun r2 => (f_X11_goes x0 r2).bind fun r3 => k18 x0 x2 (x4 + 1) r3)
set_option maxRecDepth 20000 in
theorem w_X11_operand_50 (X : wx G p s m args meth c cX11_operand 5 RX11 none) (k4 : Nat → Int32 → Int32 → hp_H → Option (hp_H)) (hk4 : ∀ (x0 : Nat) (x2 : Int32) (x3 : Int32) (h : hp_H), k4 x0 x2 x3 h = some o → wq p l e (mt_R (5) 0 0) s m args below meth c (MQ below (mt_Q G none o) args s 0 0 (hp_A G)) G 5 0 0 4 [(0, .ref x0), (2, .int x2), (3, .int x3)] [] h) (k18 : Nat → Int32 → Int32 → hp_H → Option (hp_H)) (hk18 : ∀ (x0 : Nat) (x2 : Int32) (x4 : Int32) (h : hp_H), k18 x0 x2 x4 h = some o → wq p l e (mt_R (5) 0 0) s m args below meth c (MQ below (mt_Q G none o) args s 0 0 (hp_A G)) G 5 0 0 18 [(0, .ref x0), (2, .int x2), (4, .int x4)] [] h) (x0 : Nat) (x2 : Int32) (x4 : Int32) (h : hp_H) (hf : f_X11_operand_50 k4 k18 x0 x2 x4 h = some o) : wq p l e (mt_R (5) 0 0) s m args below meth c (MQ below (mt_Q G none o) args s 0 0 (hp_A G)) G 5 0 0 50 [(0, .ref x0), (2, .int x2), (4, .int x4)] [] h := by
  unfold f_X11_operand_50 at hf
  refine wk_iinc (lv' := [(4, .int (x4 + 1)), (0, .ref x0), (2, .int x2)]) X dX11_operand_50 2 rfl ic_1 (by decide) rfl ?_
  refine wk_aload_n X dX11_operand_53 1 rfl ?_
  refine wk_callVi X [] [] dX11_operand_54 rfl vo_X11_143 rfl (by decide) (Nat.le_of_ble_eq_true rfl) hf (c_X11_isGood l _ _) (fun r1 hf => ?_)
  refine wk_if_ne X 63 dX11_operand_57 (by decide) hf (fun hf => ?_) (fun hf => ?_)
  · refine wk_aload_n X dX11_operand_63 1 rfl ?_
    refine wk_iconst X dX11_operand_64 ic_3 ?_
    refine wk_callVv X [.int 3] [] dX11_operand_65 rfl vo_X11_178 rfl (by decide) (Nat.le_of_ble_eq_true rfl) hf (c_X11_waitsFor l _ _ _) (fun r2 hf => ?_)
    refine wk_aload_n X dX11_operand_68 1 rfl ?_
    refine wk_callVv X [] [] dX11_operand_69 rfl vo_X11_147 rfl (by decide) (Nat.le_of_ble_eq_true rfl) hf (c_X11_goes l _ _) (fun r3 hf => ?_)
    refine wk_goto X 18 dX11_operand_72 (by decide) ?_
    exact wq_sub [1, 2, 0] rfl (hk18 _ _ _ _ hf)
  · refine wk_goto X 18 dX11_operand_60 (by decide) ?_
    exact wq_sub [1, 2, 0] rfl (hk18 _ _ _ _ hf)
def f_X11_operand_18 (k4 : Nat → Int32 → Int32 → hp_H → Option (hp_H)) (k18 : Nat → Int32 → Int32 → hp_H → Option (hp_H)) (x0 : Nat) (x2 : Int32) (x4 : Int32) (h : hp_H) : Option (hp_H) := (f_X11_isGood x0 h).bind fun r1 => if r1.1 = 0 then (f_X11_operand_75 k4 x0 x2 r1.2) else (if x2 = 0 then (f_X11_operand_75 k4 x0 x2 r1.2) else ((f_X11_knownWord x0 r1.2).bind fun r2 => if r2.1 = 13 then (if x4 = 6 then ((f_X11_wrong x0 2 r2.2).bind fun r3 => f_X11_operand_50 k4 k18 x0 x2 x4 r3) else (f_X11_operand_50 k4 k18 x0 x2 x4 r2.2)) else (f_X11_operand_75 k4 x0 x2 r2.2)))
set_option maxRecDepth 20000 in
theorem w_X11_operand_18 (X : wx G p s m args meth c cX11_operand 5 RX11 none) (k4 : Nat → Int32 → Int32 → hp_H → Option (hp_H)) (hk4 : ∀ (x0 : Nat) (x2 : Int32) (x3 : Int32) (h : hp_H), k4 x0 x2 x3 h = some o → wq p l e (mt_R (5) 0 0) s m args below meth c (MQ below (mt_Q G none o) args s 0 0 (hp_A G)) G 5 0 0 4 [(0, .ref x0), (2, .int x2), (3, .int x3)] [] h) (k18 : Nat → Int32 → Int32 → hp_H → Option (hp_H)) (hk18 : ∀ (x0 : Nat) (x2 : Int32) (x4 : Int32) (h : hp_H), k18 x0 x2 x4 h = some o → wq p l e (mt_R (5) 0 0) s m args below meth c (MQ below (mt_Q G none o) args s 0 0 (hp_A G)) G 5 0 0 18 [(0, .ref x0), (2, .int x2), (4, .int x4)] [] h) (x0 : Nat) (x2 : Int32) (x4 : Int32) (h : hp_H) (hf : f_X11_operand_18 k4 k18 x0 x2 x4 h = some o) : wq p l e (mt_R (5) 0 0) s m args below meth c (MQ below (mt_Q G none o) args s 0 0 (hp_A G)) G 5 0 0 18 [(0, .ref x0), (2, .int x2), (4, .int x4)] [] h := by
  unfold f_X11_operand_18 at hf
  refine wk_aload_n X dX11_operand_18 0 rfl ?_
  refine wk_callVi X [] [] dX11_operand_19 rfl vo_X11_143 rfl (by decide) (Nat.le_of_ble_eq_true rfl) hf (c_X11_isGood l _ _) (fun r1 hf => ?_)
  refine wk_if_eq X 75 dX11_operand_22 (by decide) hf (fun hf => ?_) (fun hf => ?_)
  · exact wq_sub [0, 1] rfl (w_X11_operand_75 X k4 hk4 _ _ _ hf)
  · refine wk_iload_n X dX11_operand_25 1 rfl ?_
    refine wk_if_eq X 75 dX11_operand_26 (by decide) hf (fun hf => ?_) (fun hf => ?_)
    · exact wq_sub [0, 1] rfl (w_X11_operand_75 X k4 hk4 _ _ _ hf)
    · refine wk_aload_n X dX11_operand_29 0 rfl ?_
      refine wk_callVi X [] [] dX11_operand_30 rfl vo_X11_168 rfl (by decide) (Nat.le_of_ble_eq_true rfl) hf (c_X11_knownWord l _ _) (fun r2 hf => ?_)
      refine wk_bipush X dX11_operand_33 ib_13 ?_
      refine wk_icmp_ne X 75 dX11_operand_35 (by decide) hf (fun hf => ?_) (fun hf => ?_)
      · exact wq_sub [0, 1] rfl (w_X11_operand_75 X k4 hk4 _ _ _ hf)
      · refine wk_iload X dX11_operand_38 2 rfl ?_
        refine wk_bipush X dX11_operand_40 ib_6 ?_
        refine wk_icmp_ne X 50 dX11_operand_42 (by decide) hf (fun hf => ?_) (fun hf => ?_)
        · exact wq_sub [0, 1, 2] rfl (w_X11_operand_50 X k4 hk4 k18 hk18 _ _ _ _ hf)
        · refine wk_aload_n X dX11_operand_45 0 rfl ?_
          refine wk_iconst X dX11_operand_46 ic_2 ?_
          refine wk_callVv X [.int 2] [] dX11_operand_47 rfl vo_X11_150 rfl (by decide) (Nat.le_of_ble_eq_true rfl) hf (c_X11_wrong l _ _ _) (fun r3 hf => ?_)
          exact wq_sub [0, 1, 2] rfl (w_X11_operand_50 X k4 hk4 k18 hk18 _ _ _ _ hf)
def l_X11_operand_18 (k4 : Nat → Int32 → Int32 → hp_H → Option (hp_H)) (x0 : Nat) (x2 : Int32) (x4 : Int32) (h : hp_H) : Option (hp_H) := lp (fun k (s : Nat × Int32 × Int32 × hp_H) => f_X11_operand_18 k4 (fun a0 a1 a2 a3 => k (a0, a1, a2, a3)) s.1 s.2.1 s.2.2.1 s.2.2.2) 100000 (x0, x2, x4, h)
theorem wl_X11_operand_18 (X : wx G p s m args meth c cX11_operand 5 RX11 none) (k4 : Nat → Int32 → Int32 → hp_H → Option (hp_H)) (hk4 : ∀ (x0 : Nat) (x2 : Int32) (x3 : Int32) (h : hp_H), k4 x0 x2 x3 h = some o → wq p l e (mt_R (5) 0 0) s m args below meth c (MQ below (mt_Q G none o) args s 0 0 (hp_A G)) G 5 0 0 4 [(0, .ref x0), (2, .int x2), (3, .int x3)] [] h) (x0 : Nat) (x2 : Int32) (x4 : Int32) (h : hp_H) (hf : l_X11_operand_18 k4 x0 x2 x4 h = some o) : wq p l e (mt_R (5) 0 0) s m args below meth c (MQ below (mt_Q G none o) args s 0 0 (hp_A G)) G 5 0 0 18 [(0, .ref x0), (2, .int x2), (4, .int x4)] [] h :=
  lp_ind (P := fun (s_ : Nat × Int32 × Int32 × hp_H) => wq p l e (mt_R (5) 0 0) s m args below meth c (MQ below (mt_Q G none o) args s 0 0 (hp_A G)) G 5 0 0 18 [(0, .ref s_.1), (2, .int s_.2.1), (4, .int s_.2.2.1)] [] s_.2.2.2) (fun k s hk hf => w_X11_operand_18 X k4 hk4 (fun a0 a1 a2 a3 => k (a0, a1, a2, a3)) (fun a0 a1 a2 a3 hf => hk (a0, a1, a2, a3) hf) s.1 s.2.1 s.2.2.1 s.2.2.2 hf) 100000 (x0, x2, x4, h) hf
def f_X11_operand_4 (k4 : Nat → Int32 → Int32 → hp_H → Option (hp_H)) (x0 : Nat) (x2 : Int32) (x3 : Int32) (h : hp_H) : Option (hp_H) := if x3 = 0 then (f_X11_operand_120 x0 h) else ((f_X11_isGood x0 h).bind fun r1 => if r1.1 = 0 then (f_X11_operand_120 x0 r1.2) else (l_X11_operand_18 k4 x0 x2 0 r1.2))
set_option maxRecDepth 20000 in
theorem w_X11_operand_4 (X : wx G p s m args meth c cX11_operand 5 RX11 none) (k4 : Nat → Int32 → Int32 → hp_H → Option (hp_H)) (hk4 : ∀ (x0 : Nat) (x2 : Int32) (x3 : Int32) (h : hp_H), k4 x0 x2 x3 h = some o → wq p l e (mt_R (5) 0 0) s m args below meth c (MQ below (mt_Q G none o) args s 0 0 (hp_A G)) G 5 0 0 4 [(0, .ref x0), (2, .int x2), (3, .int x3)] [] h) (x0 : Nat) (x2 : Int32) (x3 : Int32) (h : hp_H) (hf : f_X11_operand_4 k4 x0 x2 x3 h = some o) : wq p l e (mt_R (5) 0 0) s m args below meth c (MQ below (mt_Q G none o) args s 0 0 (hp_A G)) G 5 0 0 4 [(0, .ref x0), (2, .int x2), (3, .int x3)] [] h := by
  unfold f_X11_operand_4 at hf
  refine wk_iload_n X dX11_operand_4 2 rfl ?_
  refine wk_if_eq X 120 dX11_operand_5 (by decide) hf (fun hf => ?_) (fun hf => ?_)
  · exact wq_sub [0] rfl (w_X11_operand_120 X _ _ hf)
  · refine wk_aload_n X dX11_operand_8 0 rfl ?_
    refine wk_callVi X [] [] dX11_operand_9 rfl vo_X11_143 rfl (by decide) (Nat.le_of_ble_eq_true rfl) hf (c_X11_isGood l _ _) (fun r1 hf => ?_)
    refine wk_if_eq X 120 dX11_operand_12 (by decide) hf (fun hf => ?_) (fun hf => ?_)
    · exact wq_sub [0] rfl (w_X11_operand_120 X _ _ hf)
    · refine wk_iconst X dX11_operand_15 ic_0 ?_
      refine wk_istore (lv' := [(4, .int 0), (0, .ref x0), (2, .int x2), (3, .int x3)]) X dX11_operand_16 (by decide) rfl ?_
      exact wq_sub [1, 2, 0] rfl (wl_X11_operand_18 X k4 hk4 _ _ _ _ hf)
def l_X11_operand_4 (x0 : Nat) (x2 : Int32) (x3 : Int32) (h : hp_H) : Option (hp_H) := lp (fun k (s : Nat × Int32 × Int32 × hp_H) => f_X11_operand_4  (fun a0 a1 a2 a3 => k (a0, a1, a2, a3)) s.1 s.2.1 s.2.2.1 s.2.2.2) 100000 (x0, x2, x3, h)
theorem wl_X11_operand_4 (X : wx G p s m args meth c cX11_operand 5 RX11 none) (x0 : Nat) (x2 : Int32) (x3 : Int32) (h : hp_H) (hf : l_X11_operand_4 x0 x2 x3 h = some o) : wq p l e (mt_R (5) 0 0) s m args below meth c (MQ below (mt_Q G none o) args s 0 0 (hp_A G)) G 5 0 0 4 [(0, .ref x0), (2, .int x2), (3, .int x3)] [] h :=
  lp_ind (P := fun (s_ : Nat × Int32 × Int32 × hp_H) => wq p l e (mt_R (5) 0 0) s m args below meth c (MQ below (mt_Q G none o) args s 0 0 (hp_A G)) G 5 0 0 4 [(0, .ref s_.1), (2, .int s_.2.1), (3, .int s_.2.2.1)] [] s_.2.2.2) (fun k s hk hf => w_X11_operand_4 X  (fun a0 a1 a2 a3 => k (a0, a1, a2, a3)) (fun a0 a1 a2 a3 hf => hk (a0, a1, a2, a3) hf) s.1 s.2.1 s.2.2.1 s.2.2.2 hf) 100000 (x0, x2, x3, h) hf
end Sf_X11_operand
def f_X11_operand (x0 : Nat) (x1 : Int32) (h : hp_H) : Option (hp_H) := gd h x0 11 (l_X11_operand_4 x0 x1 1 h)
set_option maxRecDepth 20000 in
theorem c_X11_operand (l : Launch) (x0 : Nat) (x1 : Int32) (h : hp_H) (r : hp_H) (hf : f_X11_operand x0 x1 h = some r) : cv l (5) yX11_operand cX11_operand 5 none 11 x0 [.int x1] h none r := by
  unfold f_X11_operand at hf
  refine cv_of (lv := [(0, .ref x0), (1, .int x1)]) hf (by decide +kernel) (Nat.le_of_ble_eq_true rfl) rfl (fun hf p e s m args below meth c G X => ?_)
  refine wk_iload_n X dX11_operand_0 1 rfl ?_
  refine wk_istore_n (lv' := [(2, .int x1), (0, .ref x0), (1, .int x1)]) X dX11_operand_1 (by decide) rfl ?_
  refine wk_iconst X dX11_operand_2 ic_1 ?_
  refine wk_istore_n (lv' := [(3, .int 1), (2, .int x1), (0, .ref x0), (1, .int x1)]) X dX11_operand_3 (by decide) rfl ?_
  exact wq_sub [2, 1, 0] rfl (wl_X11_operand_4 X _ _ _ _ hf)
section Sf_X11_isOpened
variable {p : Program} {l : Launch} {e : Env} {s : State} {m : MethodId} {args : Array Value} {below : List Frame} {meth : Method} {c : Code} {G : hp_G} {o : Int32 × hp_H}
def f_X11_isOpened_38 (t0 : Int32) (h : hp_H) : Option (Int32 × hp_H) := if t0 = 0 ∨ t0 = 1 then some (t0, h) else none
set_option maxRecDepth 20000 in
theorem w_X11_isOpened_38 (X : wx G p s m args meth c cX11_isOpened 2 RX11 (some .boolean)) (t0 : Int32) (h : hp_H) (hf : f_X11_isOpened_38 t0 h = some o) : wq p l e (mt_R (2) 0 0) s m args below meth c (MQ below (mt_Q G (some (.int o.1)) o.2) args s 0 0 (hp_A G)) G 2 0 0 38 [] [.int t0] h := by
  unfold f_X11_isOpened_38 at hf
  exact wk_zreturn X dX11_isOpened_38 hf
def f_X11_isOpened_29 (x1 : Int32) (h : hp_H) : Option (Int32 × hp_H) := if x1 < 0 then (f_X11_isOpened_38 0 h) else (f_X11_isOpened_38 1 h)
set_option maxRecDepth 20000 in
theorem w_X11_isOpened_29 (X : wx G p s m args meth c cX11_isOpened 2 RX11 (some .boolean)) (x1 : Int32) (h : hp_H) (hf : f_X11_isOpened_29 x1 h = some o) : wq p l e (mt_R (2) 0 0) s m args below meth c (MQ below (mt_Q G (some (.int o.1)) o.2) args s 0 0 (hp_A G)) G 2 0 0 29 [(1, .int x1)] [] h := by
  unfold f_X11_isOpened_29 at hf
  refine wk_iload_n X dX11_isOpened_29 0 rfl ?_
  refine wk_if_lt X 37 dX11_isOpened_30 (by decide) hf (fun hf => ?_) (fun hf => ?_)
  · refine wk_iconst X dX11_isOpened_37 ic_0 ?_
    exact wq_sub [] rfl (w_X11_isOpened_38 X _ _ hf)
  · refine wk_iconst X dX11_isOpened_33 ic_1 ?_
    refine wk_goto X 38 dX11_isOpened_34 (by decide) ?_
    exact wq_sub [] rfl (w_X11_isOpened_38 X _ _ hf)
def f_X11_isOpened_7 (k7 : Nat → Int32 → hp_H → Option (Int32 × hp_H)) (x0 : Nat) (x1 : Int32) (h : hp_H) : Option (Int32 × hp_H) := if x1 < 0 then (f_X11_isOpened_29 x1 h) else ((rd_R h x0 11 34).bind fun v1 => (rd_A h 0 v1 x1).bind fun v2 => (f_X11_isOpen v2 h).bind fun r3 => if r3.1 = 0 then (k7 x0 (x1 + (-1)) r3.2) else (f_X11_isOpened_29 x1 r3.2))
set_option maxRecDepth 20000 in
theorem w_X11_isOpened_7 (X : wx G p s m args meth c cX11_isOpened 2 RX11 (some .boolean)) (k7 : Nat → Int32 → hp_H → Option (Int32 × hp_H)) (hk7 : ∀ (x0 : Nat) (x1 : Int32) (h : hp_H), k7 x0 x1 h = some o → wq p l e (mt_R (2) 0 0) s m args below meth c (MQ below (mt_Q G (some (.int o.1)) o.2) args s 0 0 (hp_A G)) G 2 0 0 7 [(0, .ref x0), (1, .int x1)] [] h) (x0 : Nat) (x1 : Int32) (h : hp_H) (hf : f_X11_isOpened_7 k7 x0 x1 h = some o) : wq p l e (mt_R (2) 0 0) s m args below meth c (MQ below (mt_Q G (some (.int o.1)) o.2) args s 0 0 (hp_A G)) G 2 0 0 7 [(0, .ref x0), (1, .int x1)] [] h := by
  unfold f_X11_isOpened_7 at hf
  refine wk_iload_n X dX11_isOpened_7 1 rfl ?_
  refine wk_if_lt X 29 dX11_isOpened_8 (by decide) hf (fun hf => ?_) (fun hf => ?_)
  · exact wq_sub [1] rfl (w_X11_isOpened_29 X _ _ hf)
  · refine wk_aload_n X dX11_isOpened_11 0 rfl ?_
    refine wk_getR X dX11_isOpened_12 fo_X11_44 hf (fun v1 hf => ?_)
    refine wk_iload_n X dX11_isOpened_15 1 rfl ?_
    refine wk_iald X dX11_isOpened_16 hf (fun v2 hf => ?_)
    refine wk_callSi X [.int v2] [] dX11_isOpened_17 rfl vo_X11_159 rfl (by decide) (Nat.le_of_ble_eq_true rfl) hf (c_X11_isOpen l _ _) (fun r3 hf => ?_)
    refine wk_if_ne X 29 dX11_isOpened_20 (by decide) hf (fun hf => ?_) (fun hf => ?_)
    · exact wq_sub [1] rfl (w_X11_isOpened_29 X _ _ hf)
    · refine wk_iinc (lv' := [(1, .int (x1 + (-1))), (0, .ref x0)]) X dX11_isOpened_23 1 rfl ic_m1 (by decide) rfl ?_
      refine wk_goto X 7 dX11_isOpened_26 (by decide) ?_
      exact wq_sub [1, 0] rfl (hk7 _ _ _ hf)
def l_X11_isOpened_7 (x0 : Nat) (x1 : Int32) (h : hp_H) : Option (Int32 × hp_H) := lp (fun k (s : Nat × Int32 × hp_H) => f_X11_isOpened_7  (fun a0 a1 a2 => k (a0, a1, a2)) s.1 s.2.1 s.2.2) 100000 (x0, x1, h)
theorem wl_X11_isOpened_7 (X : wx G p s m args meth c cX11_isOpened 2 RX11 (some .boolean)) (x0 : Nat) (x1 : Int32) (h : hp_H) (hf : l_X11_isOpened_7 x0 x1 h = some o) : wq p l e (mt_R (2) 0 0) s m args below meth c (MQ below (mt_Q G (some (.int o.1)) o.2) args s 0 0 (hp_A G)) G 2 0 0 7 [(0, .ref x0), (1, .int x1)] [] h :=
  lp_ind (P := fun (s_ : Nat × Int32 × hp_H) => wq p l e (mt_R (2) 0 0) s m args below meth c (MQ below (mt_Q G (some (.int o.1)) o.2) args s 0 0 (hp_A G)) G 2 0 0 7 [(0, .ref s_.1), (1, .int s_.2.1)] [] s_.2.2) (fun k s hk hf => w_X11_isOpened_7 X  (fun a0 a1 a2 => k (a0, a1, a2)) (fun a0 a1 a2 hf => hk (a0, a1, a2) hf) s.1 s.2.1 s.2.2 hf) 100000 (x0, x1, h) hf
end Sf_X11_isOpened
def f_X11_isOpened (x0 : Nat) (h : hp_H) : Option (Int32 × hp_H) := gd h x0 11 ((rd_I h x0 11 29).bind fun v1 => l_X11_isOpened_7 x0 (v1 - 1) h)
set_option maxRecDepth 20000 in
theorem c_X11_isOpened (l : Launch) (x0 : Nat) (h : hp_H) (r : Int32 × hp_H) (hf : f_X11_isOpened x0 h = some r) : cv l (2) yX11_isOpened cX11_isOpened 2 (some .boolean) 11 x0 [] h (some (.int r.1)) r.2 := by
  unfold f_X11_isOpened at hf
  refine cv_of (lv := [(0, .ref x0)]) hf (by decide +kernel) (Nat.le_of_ble_eq_true rfl) rfl (fun hf p e s m args below meth c G X => ?_)
  refine wk_aload_n X dX11_isOpened_0 0 rfl ?_
  refine wk_getI X dX11_isOpened_1 fo_X11_156 hf (fun v1 hf => ?_)
  refine wk_iconst X dX11_isOpened_4 ic_1 ?_
  refine wk_isub X dX11_isOpened_5 ?_
  refine wk_istore_n (lv' := [(1, .int (v1 - 1)), (0, .ref x0)]) X dX11_isOpened_6 (by decide) rfl ?_
  exact wq_sub [1, 0] rfl (wl_X11_isOpened_7 X _ _ _ hf)
section Sf_X11_closes
variable {p : Program} {l : Launch} {e : Env} {s : State} {m : MethodId} {args : Array Value} {below : List Frame} {meth : Method} {c : Code} {G : hp_G} {o : hp_H}
end Sf_X11_closes
def f_X11_closes (x0 : Nat) (h : hp_H) : Option (hp_H) := gd h x0 11 ((f_X11_drops x0 0 h).bind fun r1 => (rd_I r1 x0 11 29).bind fun v2 => (wr_I r1 x0 11 29 (v2 - 1)).bind fun h3 => (rd_I h3 x0 11 30).bind fun v4 => (wr_I h3 x0 11 30 (v4 - 1)).bind fun h5 => (f_X11_goes x0 h5).bind fun r6 => some r6)
set_option maxRecDepth 20000 in
theorem c_X11_closes (l : Launch) (x0 : Nat) (h : hp_H) (r : hp_H) (hf : f_X11_closes x0 h = some r) : cv l (3) yX11_closes cX11_closes 1 none 11 x0 [] h none r := by
  unfold f_X11_closes at hf
  refine cv_of (lv := [(0, .ref x0)]) hf (by decide +kernel) (Nat.le_of_ble_eq_true rfl) rfl (fun hf p e s m args below meth c G X => ?_)
  refine wk_aload_n X dX11_closes_0 0 rfl ?_
  refine wk_iconst X dX11_closes_1 ic_0 ?_
  refine wk_callVv X [.int 0] [] dX11_closes_2 rfl vo_X11_187 rfl (by decide) (Nat.le_of_ble_eq_true rfl) hf (c_X11_drops l _ _ _) (fun r1 hf => ?_)
  refine wk_aload_n X dX11_closes_5 0 rfl ?_
  refine wk_dup X dX11_closes_6 rfl ?_
  refine wk_getI X dX11_closes_7 fo_X11_156 hf (fun v2 hf => ?_)
  refine wk_iconst X dX11_closes_10 ic_1 ?_
  refine wk_isub X dX11_closes_11 ?_
  refine wk_putI X dX11_closes_12 fo_X11_156 hf (fun h3 hf => ?_)
  refine wk_aload_n X dX11_closes_15 0 rfl ?_
  refine wk_dup X dX11_closes_16 rfl ?_
  refine wk_getI X dX11_closes_17 fo_X11_172 hf (fun v4 hf => ?_)
  refine wk_iconst X dX11_closes_20 ic_1 ?_
  refine wk_isub X dX11_closes_21 ?_
  refine wk_putI X dX11_closes_22 fo_X11_172 hf (fun h5 hf => ?_)
  refine wk_aload_n X dX11_closes_25 0 rfl ?_
  refine wk_callVv X [] [] dX11_closes_26 rfl vo_X11_147 rfl (by decide) (Nat.le_of_ble_eq_true rfl) hf (c_X11_goes l _ _) (fun r6 hf => ?_)
  exact wk_return X dX11_closes_29 hf
section Sf_X11_expression
variable {p : Program} {l : Launch} {e : Env} {s : State} {m : MethodId} {args : Array Value} {below : List Frame} {meth : Method} {c : Code} {G : hp_G} {o : hp_H}
def f_X11_expression_345 (x0 : Nat) (h : hp_H) : Option (hp_H) := (f_X11_drops x0 0 h).bind fun r1 => (f_X11_puts x0 0 r1).bind fun r2 => some r2
set_option maxRecDepth 20000 in
theorem w_X11_expression_345 (X : wx G p s m args meth c cX11_expression 3 RX11 none) (x0 : Nat) (h : hp_H) (hf : f_X11_expression_345 x0 h = some o) : wq p l e (mt_R (6) 0 0) s m args below meth c (MQ below (mt_Q G none o) args s 0 0 (hp_A G)) G 3 0 0 345 [(0, .ref x0)] [] h := by
  unfold f_X11_expression_345 at hf
  refine wk_aload_n X dX11_expression_345 0 rfl ?_
  refine wk_iconst X dX11_expression_346 ic_0 ?_
  refine wk_callVv X [.int 0] [] dX11_expression_347 rfl vo_X11_187 rfl (by decide) (Nat.le_of_ble_eq_true rfl) hf (c_X11_drops l _ _ _) (fun r1 hf => ?_)
  refine wk_aload_n X dX11_expression_350 0 rfl ?_
  refine wk_iconst X dX11_expression_351 ic_0 ?_
  refine wk_callVv X [.int 0] [] dX11_expression_352 rfl vo_X11_165 rfl (by decide) (Nat.le_of_ble_eq_true rfl) hf (c_X11_puts l _ _ _) (fun r2 hf => ?_)
  exact wk_return X dX11_expression_355 hf
def f_X11_expression_325 (x0 : Nat) (h : hp_H) : Option (hp_H) := (f_X11_isGood x0 h).bind fun r1 => if r1.1 = 0 then (f_X11_expression_345 x0 r1.2) else ((rd_I r1.2 x0 11 30).bind fun v2 => if v2 ≤ 1 then (f_X11_expression_345 x0 r1.2) else ((f_X11_wrong x0 1 r1.2).bind fun r3 => f_X11_expression_345 x0 r3))
set_option maxRecDepth 20000 in
theorem w_X11_expression_325 (X : wx G p s m args meth c cX11_expression 3 RX11 none) (x0 : Nat) (h : hp_H) (hf : f_X11_expression_325 x0 h = some o) : wq p l e (mt_R (6) 0 0) s m args below meth c (MQ below (mt_Q G none o) args s 0 0 (hp_A G)) G 3 0 0 325 [(0, .ref x0)] [] h := by
  unfold f_X11_expression_325 at hf
  refine wk_aload_n X dX11_expression_325 0 rfl ?_
  refine wk_callVi X [] [] dX11_expression_326 rfl vo_X11_143 rfl (by decide) (Nat.le_of_ble_eq_true rfl) hf (c_X11_isGood l _ _) (fun r1 hf => ?_)
  refine wk_if_eq X 345 dX11_expression_329 (by decide) hf (fun hf => ?_) (fun hf => ?_)
  · exact wq_sub [0] rfl (w_X11_expression_345 X _ _ hf)
  · refine wk_aload_n X dX11_expression_332 0 rfl ?_
    refine wk_getI X dX11_expression_333 fo_X11_172 hf (fun v2 hf => ?_)
    refine wk_iconst X dX11_expression_336 ic_1 ?_
    refine wk_icmp_le X 345 dX11_expression_337 (by decide) hf (fun hf => ?_) (fun hf => ?_)
    · exact wq_sub [0] rfl (w_X11_expression_345 X _ _ hf)
    · refine wk_aload_n X dX11_expression_340 0 rfl ?_
      refine wk_iconst X dX11_expression_341 ic_1 ?_
      refine wk_callVv X [.int 1] [] dX11_expression_342 rfl vo_X11_150 rfl (by decide) (Nat.le_of_ble_eq_true rfl) hf (c_X11_wrong l _ _ _) (fun r3 hf => ?_)
      exact wq_sub [0] rfl (w_X11_expression_345 X _ _ hf)
def f_X11_expression_322 (k29 : Nat → Int32 → hp_H → Option (hp_H)) (x0 : Nat) (x1 : Int32) (h : hp_H) : Option (hp_H) := k29 x0 x1 h
set_option maxRecDepth 20000 in
theorem w_X11_expression_322 (X : wx G p s m args meth c cX11_expression 3 RX11 none) (k29 : Nat → Int32 → hp_H → Option (hp_H)) (hk29 : ∀ (x0 : Nat) (x1 : Int32) (h : hp_H), k29 x0 x1 h = some o → wq p l e (mt_R (6) 0 0) s m args below meth c (MQ below (mt_Q G none o) args s 0 0 (hp_A G)) G 3 0 0 29 [(0, .ref x0), (1, .int x1)] [] h) (x0 : Nat) (x1 : Int32) (h : hp_H) (hf : f_X11_expression_322 k29 x0 x1 h = some o) : wq p l e (mt_R (6) 0 0) s m args below meth c (MQ below (mt_Q G none o) args s 0 0 (hp_A G)) G 3 0 0 322 [(0, .ref x0), (1, .int x1)] [] h := by
  unfold f_X11_expression_322 at hf
  refine wk_goto X 29 dX11_expression_322 (by decide) ?_
  exact wq_sub [0, 1] rfl (hk29 _ _ _ hf)
def f_X11_expression_84 (k29 : Nat → Int32 → hp_H → Option (hp_H)) (x0 : Nat) (x1 : Int32) (t0 : Nat) (t1 : Int32) (h : hp_H) : Option (hp_H) := (f_X11_waitsFor t0 t1 h).bind fun r1 => (rd_R r1 x0 11 35).bind fun v2 => (rd_I r1 x0 11 30).bind fun v3 => (wr_AZ r1 v2 v3 0).bind fun h4 => (f_X11_goes x0 h4).bind fun r5 => (f_X11_operand x0 1 r5).bind fun r6 => f_X11_expression_322 k29 x0 x1 r6
set_option maxRecDepth 20000 in
theorem w_X11_expression_84 (X : wx G p s m args meth c cX11_expression 3 RX11 none) (k29 : Nat → Int32 → hp_H → Option (hp_H)) (hk29 : ∀ (x0 : Nat) (x1 : Int32) (h : hp_H), k29 x0 x1 h = some o → wq p l e (mt_R (6) 0 0) s m args below meth c (MQ below (mt_Q G none o) args s 0 0 (hp_A G)) G 3 0 0 29 [(0, .ref x0), (1, .int x1)] [] h) (x0 : Nat) (x1 : Int32) (t0 : Nat) (t1 : Int32) (h : hp_H) (hf : f_X11_expression_84 k29 x0 x1 t0 t1 h = some o) : wq p l e (mt_R (6) 0 0) s m args below meth c (MQ below (mt_Q G none o) args s 0 0 (hp_A G)) G 3 0 0 84 [(0, .ref x0), (1, .int x1)] [.int t1, .ref t0] h := by
  unfold f_X11_expression_84 at hf
  refine wk_callVv X [.int t1] [] dX11_expression_84 rfl vo_X11_178 rfl (by decide) (Nat.le_of_ble_eq_true rfl) hf (c_X11_waitsFor l _ _ _) (fun r1 hf => ?_)
  refine wk_aload_n X dX11_expression_87 0 rfl ?_
  refine wk_getR X dX11_expression_88 fo_X11_47 hf (fun v2 hf => ?_)
  refine wk_aload_n X dX11_expression_91 0 rfl ?_
  refine wk_getI X dX11_expression_92 fo_X11_172 hf (fun v3 hf => ?_)
  refine wk_iconst X dX11_expression_95 ic_0 ?_
  refine wk_zast X dX11_expression_96 hf (fun h4 hf => ?_)
  refine wk_aload_n X dX11_expression_97 0 rfl ?_
  refine wk_callVv X [] [] dX11_expression_98 rfl vo_X11_147 rfl (by decide) (Nat.le_of_ble_eq_true rfl) hf (c_X11_goes l _ _) (fun r5 hf => ?_)
  refine wk_aload_n X dX11_expression_101 0 rfl ?_
  refine wk_iconst X dX11_expression_102 ic_1 ?_
  refine wk_callVv X [.int 1] [] dX11_expression_103 rfl vo_X11_190 rfl (by decide) (Nat.le_of_ble_eq_true rfl) hf (c_X11_operand l _ _ _) (fun r6 hf => ?_)
  refine wk_goto X 322 dX11_expression_106 (by decide) ?_
  exact wq_sub [0, 1] rfl (w_X11_expression_322 X k29 hk29 _ _ _ hf)
def f_X11_expression_69 (k29 : Nat → Int32 → hp_H → Option (hp_H)) (x0 : Nat) (x1 : Int32) (x2 : Int32) (t0 : Nat) (t1 : Int32) (h : hp_H) : Option (hp_H) := (f_X11_drops t0 t1 h).bind fun r1 => if x2 = 11 then (f_X11_expression_84 k29 x0 x1 x0 4 r1) else (f_X11_expression_84 k29 x0 x1 x0 5 r1)
set_option maxRecDepth 20000 in
theorem w_X11_expression_69 (X : wx G p s m args meth c cX11_expression 3 RX11 none) (k29 : Nat → Int32 → hp_H → Option (hp_H)) (hk29 : ∀ (x0 : Nat) (x1 : Int32) (h : hp_H), k29 x0 x1 h = some o → wq p l e (mt_R (6) 0 0) s m args below meth c (MQ below (mt_Q G none o) args s 0 0 (hp_A G)) G 3 0 0 29 [(0, .ref x0), (1, .int x1)] [] h) (x0 : Nat) (x1 : Int32) (x2 : Int32) (t0 : Nat) (t1 : Int32) (h : hp_H) (hf : f_X11_expression_69 k29 x0 x1 x2 t0 t1 h = some o) : wq p l e (mt_R (6) 0 0) s m args below meth c (MQ below (mt_Q G none o) args s 0 0 (hp_A G)) G 3 0 0 69 [(0, .ref x0), (1, .int x1), (2, .int x2)] [.int t1, .ref t0] h := by
  unfold f_X11_expression_69 at hf
  refine wk_callVv X [.int t1] [] dX11_expression_69 rfl vo_X11_187 rfl (by decide) (Nat.le_of_ble_eq_true rfl) hf (c_X11_drops l _ _ _) (fun r1 hf => ?_)
  refine wk_aload_n X dX11_expression_72 0 rfl ?_
  refine wk_iload_n X dX11_expression_73 2 rfl ?_
  refine wk_bipush X dX11_expression_74 ib_11 ?_
  refine wk_icmp_ne X 83 dX11_expression_76 (by decide) hf (fun hf => ?_) (fun hf => ?_)
  · refine wk_iconst X dX11_expression_83 ic_5 ?_
    exact wq_sub [0, 1] rfl (w_X11_expression_84 X k29 hk29 _ _ _ _ _ hf)
  · refine wk_iconst X dX11_expression_79 ic_4 ?_
    refine wk_goto X 84 dX11_expression_80 (by decide) ?_
    exact wq_sub [0, 1] rfl (w_X11_expression_84 X k29 hk29 _ _ _ _ _ hf)
def f_X11_expression_57 (k29 : Nat → Int32 → hp_H → Option (hp_H)) (x0 : Nat) (x1 : Int32) (x2 : Int32) (h : hp_H) : Option (hp_H) := if x2 = 11 then (f_X11_expression_69 k29 x0 x1 x2 x0 2 h) else (f_X11_expression_69 k29 x0 x1 x2 x0 1 h)
set_option maxRecDepth 20000 in
theorem w_X11_expression_57 (X : wx G p s m args meth c cX11_expression 3 RX11 none) (k29 : Nat → Int32 → hp_H → Option (hp_H)) (hk29 : ∀ (x0 : Nat) (x1 : Int32) (h : hp_H), k29 x0 x1 h = some o → wq p l e (mt_R (6) 0 0) s m args below meth c (MQ below (mt_Q G none o) args s 0 0 (hp_A G)) G 3 0 0 29 [(0, .ref x0), (1, .int x1)] [] h) (x0 : Nat) (x1 : Int32) (x2 : Int32) (h : hp_H) (hf : f_X11_expression_57 k29 x0 x1 x2 h = some o) : wq p l e (mt_R (6) 0 0) s m args below meth c (MQ below (mt_Q G none o) args s 0 0 (hp_A G)) G 3 0 0 57 [(0, .ref x0), (1, .int x1), (2, .int x2)] [] h := by
  unfold f_X11_expression_57 at hf
  refine wk_aload_n X dX11_expression_57 0 rfl ?_
  refine wk_iload_n X dX11_expression_58 2 rfl ?_
  refine wk_bipush X dX11_expression_59 ib_11 ?_
  refine wk_icmp_ne X 68 dX11_expression_61 (by decide) hf (fun hf => ?_) (fun hf => ?_)
  · refine wk_iconst X dX11_expression_68 ic_1 ?_
    exact wq_sub [0, 1, 2] rfl (w_X11_expression_69 X k29 hk29 _ _ _ _ _ _ hf)
  · refine wk_iconst X dX11_expression_64 ic_2 ?_
    refine wk_goto X 69 dX11_expression_65 (by decide) ?_
    exact wq_sub [0, 1, 2] rfl (w_X11_expression_69 X k29 hk29 _ _ _ _ _ _ hf)
def f_X11_expression_226 (k29 : Nat → Int32 → hp_H → Option (hp_H)) (x0 : Nat) (x1 : Int32) (t0 : Nat) (t1 : Int32) (h : hp_H) : Option (hp_H) := (f_X11_waitsFor t0 t1 h).bind fun r1 => (f_X11_goes x0 r1).bind fun r2 => (f_X11_operand x0 0 r2).bind fun r3 => f_X11_expression_322 k29 x0 x1 r3
set_option maxRecDepth 20000 in
theorem w_X11_expression_226 (X : wx G p s m args meth c cX11_expression 3 RX11 none) (k29 : Nat → Int32 → hp_H → Option (hp_H)) (hk29 : ∀ (x0 : Nat) (x1 : Int32) (h : hp_H), k29 x0 x1 h = some o → wq p l e (mt_R (6) 0 0) s m args below meth c (MQ below (mt_Q G none o) args s 0 0 (hp_A G)) G 3 0 0 29 [(0, .ref x0), (1, .int x1)] [] h) (x0 : Nat) (x1 : Int32) (t0 : Nat) (t1 : Int32) (h : hp_H) (hf : f_X11_expression_226 k29 x0 x1 t0 t1 h = some o) : wq p l e (mt_R (6) 0 0) s m args below meth c (MQ below (mt_Q G none o) args s 0 0 (hp_A G)) G 3 0 0 226 [(0, .ref x0), (1, .int x1)] [.int t1, .ref t0] h := by
  unfold f_X11_expression_226 at hf
  refine wk_callVv X [.int t1] [] dX11_expression_226 rfl vo_X11_178 rfl (by decide) (Nat.le_of_ble_eq_true rfl) hf (c_X11_waitsFor l _ _ _) (fun r1 hf => ?_)
  refine wk_aload_n X dX11_expression_229 0 rfl ?_
  refine wk_callVv X [] [] dX11_expression_230 rfl vo_X11_147 rfl (by decide) (Nat.le_of_ble_eq_true rfl) hf (c_X11_goes l _ _) (fun r2 hf => ?_)
  refine wk_aload_n X dX11_expression_233 0 rfl ?_
  refine wk_iconst X dX11_expression_234 ic_0 ?_
  refine wk_callVv X [.int 0] [] dX11_expression_235 rfl vo_X11_190 rfl (by decide) (Nat.le_of_ble_eq_true rfl) hf (c_X11_operand l _ _ _) (fun r3 hf => ?_)
  refine wk_goto X 322 dX11_expression_238 (by decide) ?_
  exact wq_sub [0, 1] rfl (w_X11_expression_322 X k29 hk29 _ _ _ hf)
def f_X11_expression_204 (k29 : Nat → Int32 → hp_H → Option (hp_H)) (x0 : Nat) (x1 : Int32) (h : hp_H) : Option (hp_H) := (f_X11_drops x0 5 h).bind fun r1 => (f_X11_isSign x0 43 r1).bind fun r2 => if r2.1 = 0 then (f_X11_expression_226 k29 x0 x1 x0 9 r2.2) else (f_X11_expression_226 k29 x0 x1 x0 8 r2.2)
set_option maxRecDepth 20000 in
theorem w_X11_expression_204 (X : wx G p s m args meth c cX11_expression 3 RX11 none) (k29 : Nat → Int32 → hp_H → Option (hp_H)) (hk29 : ∀ (x0 : Nat) (x1 : Int32) (h : hp_H), k29 x0 x1 h = some o → wq p l e (mt_R (6) 0 0) s m args below meth c (MQ below (mt_Q G none o) args s 0 0 (hp_A G)) G 3 0 0 29 [(0, .ref x0), (1, .int x1)] [] h) (x0 : Nat) (x1 : Int32) (h : hp_H) (hf : f_X11_expression_204 k29 x0 x1 h = some o) : wq p l e (mt_R (6) 0 0) s m args below meth c (MQ below (mt_Q G none o) args s 0 0 (hp_A G)) G 3 0 0 204 [(0, .ref x0), (1, .int x1)] [] h := by
  unfold f_X11_expression_204 at hf
  refine wk_aload_n X dX11_expression_204 0 rfl ?_
  refine wk_iconst X dX11_expression_205 ic_5 ?_
  refine wk_callVv X [.int 5] [] dX11_expression_206 rfl vo_X11_187 rfl (by decide) (Nat.le_of_ble_eq_true rfl) hf (c_X11_drops l _ _ _) (fun r1 hf => ?_)
  refine wk_aload_n X dX11_expression_209 0 rfl ?_
  refine wk_aload_n X dX11_expression_210 0 rfl ?_
  refine wk_bipush X dX11_expression_211 ib_43 ?_
  refine wk_callVi X [.int 43] [.ref x0] dX11_expression_213 rfl vo_X11_175 rfl (by decide) (Nat.le_of_ble_eq_true rfl) hf (c_X11_isSign l _ _ _) (fun r2 hf => ?_)
  refine wk_if_eq X 224 dX11_expression_216 (by decide) hf (fun hf => ?_) (fun hf => ?_)
  · refine wk_bipush X dX11_expression_224 ib_9 ?_
    exact wq_sub [0, 1] rfl (w_X11_expression_226 X k29 hk29 _ _ _ _ _ hf)
  · refine wk_bipush X dX11_expression_219 ib_8 ?_
    refine wk_goto X 226 dX11_expression_221 (by decide) ?_
    exact wq_sub [0, 1] rfl (w_X11_expression_226 X k29 hk29 _ _ _ _ _ hf)
def f_X11_expression_282 (k29 : Nat → Int32 → hp_H → Option (hp_H)) (x0 : Nat) (x1 : Int32) (t0 : Nat) (t1 : Int32) (h : hp_H) : Option (hp_H) := (f_X11_waitsFor t0 t1 h).bind fun r1 => (f_X11_goes x0 r1).bind fun r2 => (f_X11_operand x0 0 r2).bind fun r3 => f_X11_expression_322 k29 x0 x1 r3
set_option maxRecDepth 20000 in
theorem w_X11_expression_282 (X : wx G p s m args meth c cX11_expression 3 RX11 none) (k29 : Nat → Int32 → hp_H → Option (hp_H)) (hk29 : ∀ (x0 : Nat) (x1 : Int32) (h : hp_H), k29 x0 x1 h = some o → wq p l e (mt_R (6) 0 0) s m args below meth c (MQ below (mt_Q G none o) args s 0 0 (hp_A G)) G 3 0 0 29 [(0, .ref x0), (1, .int x1)] [] h) (x0 : Nat) (x1 : Int32) (t0 : Nat) (t1 : Int32) (h : hp_H) (hf : f_X11_expression_282 k29 x0 x1 t0 t1 h = some o) : wq p l e (mt_R (6) 0 0) s m args below meth c (MQ below (mt_Q G none o) args s 0 0 (hp_A G)) G 3 0 0 282 [(0, .ref x0), (1, .int x1)] [.int t1, .ref t0] h := by
  unfold f_X11_expression_282 at hf
  refine wk_callVv X [.int t1] [] dX11_expression_282 rfl vo_X11_178 rfl (by decide) (Nat.le_of_ble_eq_true rfl) hf (c_X11_waitsFor l _ _ _) (fun r1 hf => ?_)
  refine wk_aload_n X dX11_expression_285 0 rfl ?_
  refine wk_callVv X [] [] dX11_expression_286 rfl vo_X11_147 rfl (by decide) (Nat.le_of_ble_eq_true rfl) hf (c_X11_goes l _ _) (fun r2 hf => ?_)
  refine wk_aload_n X dX11_expression_289 0 rfl ?_
  refine wk_iconst X dX11_expression_290 ic_0 ?_
  refine wk_callVv X [.int 0] [] dX11_expression_291 rfl vo_X11_190 rfl (by decide) (Nat.le_of_ble_eq_true rfl) hf (c_X11_operand l _ _ _) (fun r3 hf => ?_)
  refine wk_goto X 322 dX11_expression_294 (by decide) ?_
  exact wq_sub [0, 1] rfl (w_X11_expression_322 X k29 hk29 _ _ _ hf)
def f_X11_expression_259 (k29 : Nat → Int32 → hp_H → Option (hp_H)) (x0 : Nat) (x1 : Int32) (h : hp_H) : Option (hp_H) := (f_X11_drops x0 6 h).bind fun r1 => (f_X11_isSign x0 42 r1).bind fun r2 => if r2.1 = 0 then (f_X11_expression_282 k29 x0 x1 x0 11 r2.2) else (f_X11_expression_282 k29 x0 x1 x0 10 r2.2)
set_option maxRecDepth 20000 in
theorem w_X11_expression_259 (X : wx G p s m args meth c cX11_expression 3 RX11 none) (k29 : Nat → Int32 → hp_H → Option (hp_H)) (hk29 : ∀ (x0 : Nat) (x1 : Int32) (h : hp_H), k29 x0 x1 h = some o → wq p l e (mt_R (6) 0 0) s m args below meth c (MQ below (mt_Q G none o) args s 0 0 (hp_A G)) G 3 0 0 29 [(0, .ref x0), (1, .int x1)] [] h) (x0 : Nat) (x1 : Int32) (h : hp_H) (hf : f_X11_expression_259 k29 x0 x1 h = some o) : wq p l e (mt_R (6) 0 0) s m args below meth c (MQ below (mt_Q G none o) args s 0 0 (hp_A G)) G 3 0 0 259 [(0, .ref x0), (1, .int x1)] [] h := by
  unfold f_X11_expression_259 at hf
  refine wk_aload_n X dX11_expression_259 0 rfl ?_
  refine wk_bipush X dX11_expression_260 ib_6 ?_
  refine wk_callVv X [.int 6] [] dX11_expression_262 rfl vo_X11_187 rfl (by decide) (Nat.le_of_ble_eq_true rfl) hf (c_X11_drops l _ _ _) (fun r1 hf => ?_)
  refine wk_aload_n X dX11_expression_265 0 rfl ?_
  refine wk_aload_n X dX11_expression_266 0 rfl ?_
  refine wk_bipush X dX11_expression_267 ib_42 ?_
  refine wk_callVi X [.int 42] [.ref x0] dX11_expression_269 rfl vo_X11_175 rfl (by decide) (Nat.le_of_ble_eq_true rfl) hf (c_X11_isSign l _ _ _) (fun r2 hf => ?_)
  refine wk_if_eq X 280 dX11_expression_272 (by decide) hf (fun hf => ?_) (fun hf => ?_)
  · refine wk_bipush X dX11_expression_280 ib_11 ?_
    exact wq_sub [0, 1] rfl (w_X11_expression_282 X k29 hk29 _ _ _ _ _ hf)
  · refine wk_bipush X dX11_expression_275 ib_10 ?_
    refine wk_goto X 282 dX11_expression_277 (by decide) ?_
    exact wq_sub [0, 1] rfl (w_X11_expression_282 X k29 hk29 _ _ _ _ _ hf)
def f_X11_expression_320 (k29 : Nat → Int32 → hp_H → Option (hp_H)) (x0 : Nat) (h : hp_H) : Option (hp_H) := f_X11_expression_322 k29 x0 0 h
set_option maxRecDepth 20000 in
theorem w_X11_expression_320 (X : wx G p s m args meth c cX11_expression 3 RX11 none) (k29 : Nat → Int32 → hp_H → Option (hp_H)) (hk29 : ∀ (x0 : Nat) (x1 : Int32) (h : hp_H), k29 x0 x1 h = some o → wq p l e (mt_R (6) 0 0) s m args below meth c (MQ below (mt_Q G none o) args s 0 0 (hp_A G)) G 3 0 0 29 [(0, .ref x0), (1, .int x1)] [] h) (x0 : Nat) (h : hp_H) (hf : f_X11_expression_320 k29 x0 h = some o) : wq p l e (mt_R (6) 0 0) s m args below meth c (MQ below (mt_Q G none o) args s 0 0 (hp_A G)) G 3 0 0 320 [(0, .ref x0)] [] h := by
  unfold f_X11_expression_320 at hf
  refine wk_iconst X dX11_expression_320 ic_0 ?_
  refine wk_istore_n (lv' := [(1, .int 0), (0, .ref x0)]) X dX11_expression_321 (by decide) rfl ?_
  exact wq_sub [1, 0] rfl (w_X11_expression_322 X k29 hk29 _ _ _ hf)
def f_X11_expression_186 (k29 : Nat → Int32 → hp_H → Option (hp_H)) (x0 : Nat) (x1 : Int32) (h : hp_H) : Option (hp_H) := (f_X11_isSign x0 43 h).bind fun r1 => if r1.1 = 0 then ((f_X11_isSign x0 45 r1.2).bind fun r2 => if r2.1 = 0 then ((f_X11_isSign x0 42 r2.2).bind fun r3 => if r3.1 = 0 then ((f_X11_isSign x0 47 r3.2).bind fun r4 => if r4.1 = 0 then ((f_X11_isSign x0 41 r4.2).bind fun r5 => if r5.1 = 0 then (f_X11_expression_320 k29 x0 r5.2) else ((f_X11_isOpened x0 r5.2).bind fun r6 => if r6.1 = 0 then (f_X11_expression_320 k29 x0 r6.2) else ((f_X11_closes x0 r6.2).bind fun r7 => f_X11_expression_322 k29 x0 x1 r7))) else (f_X11_expression_259 k29 x0 x1 r4.2)) else (f_X11_expression_259 k29 x0 x1 r3.2)) else (f_X11_expression_204 k29 x0 x1 r2.2)) else (f_X11_expression_204 k29 x0 x1 r1.2)
set_option maxRecDepth 20000 in
theorem w_X11_expression_186 (X : wx G p s m args meth c cX11_expression 3 RX11 none) (k29 : Nat → Int32 → hp_H → Option (hp_H)) (hk29 : ∀ (x0 : Nat) (x1 : Int32) (h : hp_H), k29 x0 x1 h = some o → wq p l e (mt_R (6) 0 0) s m args below meth c (MQ below (mt_Q G none o) args s 0 0 (hp_A G)) G 3 0 0 29 [(0, .ref x0), (1, .int x1)] [] h) (x0 : Nat) (x1 : Int32) (h : hp_H) (hf : f_X11_expression_186 k29 x0 x1 h = some o) : wq p l e (mt_R (6) 0 0) s m args below meth c (MQ below (mt_Q G none o) args s 0 0 (hp_A G)) G 3 0 0 186 [(0, .ref x0), (1, .int x1)] [] h := by
  unfold f_X11_expression_186 at hf
  refine wk_aload_n X dX11_expression_186 0 rfl ?_
  refine wk_bipush X dX11_expression_187 ib_43 ?_
  refine wk_callVi X [.int 43] [] dX11_expression_189 rfl vo_X11_175 rfl (by decide) (Nat.le_of_ble_eq_true rfl) hf (c_X11_isSign l _ _ _) (fun r1 hf => ?_)
  refine wk_if_ne X 204 dX11_expression_192 (by decide) hf (fun hf => ?_) (fun hf => ?_)
  · exact wq_sub [0, 1] rfl (w_X11_expression_204 X k29 hk29 _ _ _ hf)
  · refine wk_aload_n X dX11_expression_195 0 rfl ?_
    refine wk_bipush X dX11_expression_196 ib_45 ?_
    refine wk_callVi X [.int 45] [] dX11_expression_198 rfl vo_X11_175 rfl (by decide) (Nat.le_of_ble_eq_true rfl) hf (c_X11_isSign l _ _ _) (fun r2 hf => ?_)
    refine wk_if_eq X 241 dX11_expression_201 (by decide) hf (fun hf => ?_) (fun hf => ?_)
    · refine wk_aload_n X dX11_expression_241 0 rfl ?_
      refine wk_bipush X dX11_expression_242 ib_42 ?_
      refine wk_callVi X [.int 42] [] dX11_expression_244 rfl vo_X11_175 rfl (by decide) (Nat.le_of_ble_eq_true rfl) hf (c_X11_isSign l _ _ _) (fun r3 hf => ?_)
      refine wk_if_ne X 259 dX11_expression_247 (by decide) hf (fun hf => ?_) (fun hf => ?_)
      · exact wq_sub [0, 1] rfl (w_X11_expression_259 X k29 hk29 _ _ _ hf)
      · refine wk_aload_n X dX11_expression_250 0 rfl ?_
        refine wk_bipush X dX11_expression_251 ib_47 ?_
        refine wk_callVi X [.int 47] [] dX11_expression_253 rfl vo_X11_175 rfl (by decide) (Nat.le_of_ble_eq_true rfl) hf (c_X11_isSign l _ _ _) (fun r4 hf => ?_)
        refine wk_if_eq X 297 dX11_expression_256 (by decide) hf (fun hf => ?_) (fun hf => ?_)
        · refine wk_aload_n X dX11_expression_297 0 rfl ?_
          refine wk_bipush X dX11_expression_298 ib_41 ?_
          refine wk_callVi X [.int 41] [] dX11_expression_300 rfl vo_X11_175 rfl (by decide) (Nat.le_of_ble_eq_true rfl) hf (c_X11_isSign l _ _ _) (fun r5 hf => ?_)
          refine wk_if_eq X 320 dX11_expression_303 (by decide) hf (fun hf => ?_) (fun hf => ?_)
          · exact wq_sub [0] rfl (w_X11_expression_320 X k29 hk29 _ _ hf)
          · refine wk_aload_n X dX11_expression_306 0 rfl ?_
            refine wk_callVi X [] [] dX11_expression_307 rfl vo_X11_194 rfl (by decide) (Nat.le_of_ble_eq_true rfl) hf (c_X11_isOpened l _ _) (fun r6 hf => ?_)
            refine wk_if_eq X 320 dX11_expression_310 (by decide) hf (fun hf => ?_) (fun hf => ?_)
            · exact wq_sub [0] rfl (w_X11_expression_320 X k29 hk29 _ _ hf)
            · refine wk_aload_n X dX11_expression_313 0 rfl ?_
              refine wk_callVv X [] [] dX11_expression_314 rfl vo_X11_197 rfl (by decide) (Nat.le_of_ble_eq_true rfl) hf (c_X11_closes l _ _) (fun r7 hf => ?_)
              refine wk_goto X 322 dX11_expression_317 (by decide) ?_
              exact wq_sub [0, 1] rfl (w_X11_expression_322 X k29 hk29 _ _ _ hf)
        · exact wq_sub [0, 1] rfl (w_X11_expression_259 X k29 hk29 _ _ _ hf)
    · exact wq_sub [0, 1] rfl (w_X11_expression_204 X k29 hk29 _ _ _ hf)
def f_X11_expression_161 (k29 : Nat → Int32 → hp_H → Option (hp_H)) (x0 : Nat) (x1 : Int32) (t0 : Nat) (t1 : Int32) (h : hp_H) : Option (hp_H) := (f_X11_waitsFor t0 t1 h).bind fun r1 => (rd_R r1 x0 11 35).bind fun v2 => (rd_I r1 x0 11 30).bind fun v3 => (wr_AZ r1 v2 v3 1).bind fun h4 => (f_X11_goes x0 h4).bind fun r5 => (f_X11_operand x0 0 r5).bind fun r6 => f_X11_expression_322 k29 x0 x1 r6
set_option maxRecDepth 20000 in
theorem w_X11_expression_161 (X : wx G p s m args meth c cX11_expression 3 RX11 none) (k29 : Nat → Int32 → hp_H → Option (hp_H)) (hk29 : ∀ (x0 : Nat) (x1 : Int32) (h : hp_H), k29 x0 x1 h = some o → wq p l e (mt_R (6) 0 0) s m args below meth c (MQ below (mt_Q G none o) args s 0 0 (hp_A G)) G 3 0 0 29 [(0, .ref x0), (1, .int x1)] [] h) (x0 : Nat) (x1 : Int32) (t0 : Nat) (t1 : Int32) (h : hp_H) (hf : f_X11_expression_161 k29 x0 x1 t0 t1 h = some o) : wq p l e (mt_R (6) 0 0) s m args below meth c (MQ below (mt_Q G none o) args s 0 0 (hp_A G)) G 3 0 0 161 [(0, .ref x0), (1, .int x1)] [.int t1, .ref t0] h := by
  unfold f_X11_expression_161 at hf
  refine wk_callVv X [.int t1] [] dX11_expression_161 rfl vo_X11_178 rfl (by decide) (Nat.le_of_ble_eq_true rfl) hf (c_X11_waitsFor l _ _ _) (fun r1 hf => ?_)
  refine wk_aload_n X dX11_expression_164 0 rfl ?_
  refine wk_getR X dX11_expression_165 fo_X11_47 hf (fun v2 hf => ?_)
  refine wk_aload_n X dX11_expression_168 0 rfl ?_
  refine wk_getI X dX11_expression_169 fo_X11_172 hf (fun v3 hf => ?_)
  refine wk_iconst X dX11_expression_172 ic_1 ?_
  refine wk_zast X dX11_expression_173 hf (fun h4 hf => ?_)
  refine wk_aload_n X dX11_expression_174 0 rfl ?_
  refine wk_callVv X [] [] dX11_expression_175 rfl vo_X11_147 rfl (by decide) (Nat.le_of_ble_eq_true rfl) hf (c_X11_goes l _ _) (fun r5 hf => ?_)
  refine wk_aload_n X dX11_expression_178 0 rfl ?_
  refine wk_iconst X dX11_expression_179 ic_0 ?_
  refine wk_callVv X [.int 0] [] dX11_expression_180 rfl vo_X11_190 rfl (by decide) (Nat.le_of_ble_eq_true rfl) hf (c_X11_operand l _ _ _) (fun r6 hf => ?_)
  refine wk_goto X 322 dX11_expression_183 (by decide) ?_
  exact wq_sub [0, 1] rfl (w_X11_expression_322 X k29 hk29 _ _ _ hf)
def f_X11_expression_127 (k29 : Nat → Int32 → hp_H → Option (hp_H)) (x0 : Nat) (x1 : Int32) (h : hp_H) : Option (hp_H) := (rd_R h x0 11 35).bind fun v1 => (rd_I h x0 11 30).bind fun v2 => (rd_A h 1 v1 v2).bind fun v3 => if v3 = 0 then ((f_X11_drops x0 4 h).bind fun r4 => (f_X11_isSign x0 60 r4).bind fun r5 => if r5.1 = 0 then (f_X11_expression_161 k29 x0 x1 x0 7 r5.2) else (f_X11_expression_161 k29 x0 x1 x0 6 r5.2)) else (f_X11_expression_186 k29 x0 x1 h)
set_option maxRecDepth 20000 in
theorem w_X11_expression_127 (X : wx G p s m args meth c cX11_expression 3 RX11 none) (k29 : Nat → Int32 → hp_H → Option (hp_H)) (hk29 : ∀ (x0 : Nat) (x1 : Int32) (h : hp_H), k29 x0 x1 h = some o → wq p l e (mt_R (6) 0 0) s m args below meth c (MQ below (mt_Q G none o) args s 0 0 (hp_A G)) G 3 0 0 29 [(0, .ref x0), (1, .int x1)] [] h) (x0 : Nat) (x1 : Int32) (h : hp_H) (hf : f_X11_expression_127 k29 x0 x1 h = some o) : wq p l e (mt_R (6) 0 0) s m args below meth c (MQ below (mt_Q G none o) args s 0 0 (hp_A G)) G 3 0 0 127 [(0, .ref x0), (1, .int x1)] [] h := by
  unfold f_X11_expression_127 at hf
  refine wk_aload_n X dX11_expression_127 0 rfl ?_
  refine wk_getR X dX11_expression_128 fo_X11_47 hf (fun v1 hf => ?_)
  refine wk_aload_n X dX11_expression_131 0 rfl ?_
  refine wk_getI X dX11_expression_132 fo_X11_172 hf (fun v2 hf => ?_)
  refine wk_zald X dX11_expression_135 hf (fun v3 hf => ?_)
  refine wk_if_ne X 186 dX11_expression_136 (by decide) hf (fun hf => ?_) (fun hf => ?_)
  · exact wq_sub [0, 1] rfl (w_X11_expression_186 X k29 hk29 _ _ _ hf)
  · refine wk_aload_n X dX11_expression_139 0 rfl ?_
    refine wk_iconst X dX11_expression_140 ic_4 ?_
    refine wk_callVv X [.int 4] [] dX11_expression_141 rfl vo_X11_187 rfl (by decide) (Nat.le_of_ble_eq_true rfl) hf (c_X11_drops l _ _ _) (fun r4 hf => ?_)
    refine wk_aload_n X dX11_expression_144 0 rfl ?_
    refine wk_aload_n X dX11_expression_145 0 rfl ?_
    refine wk_bipush X dX11_expression_146 ib_60 ?_
    refine wk_callVi X [.int 60] [.ref x0] dX11_expression_148 rfl vo_X11_175 rfl (by decide) (Nat.le_of_ble_eq_true rfl) hf (c_X11_isSign l _ _ _) (fun r5 hf => ?_)
    refine wk_if_eq X 159 dX11_expression_151 (by decide) hf (fun hf => ?_) (fun hf => ?_)
    · refine wk_bipush X dX11_expression_159 ib_7 ?_
      exact wq_sub [0, 1] rfl (w_X11_expression_161 X k29 hk29 _ _ _ _ _ hf)
    · refine wk_bipush X dX11_expression_154 ib_6 ?_
      refine wk_goto X 161 dX11_expression_156 (by decide) ?_
      exact wq_sub [0, 1] rfl (w_X11_expression_161 X k29 hk29 _ _ _ _ _ hf)
def f_X11_expression_29 (k29 : Nat → Int32 → hp_H → Option (hp_H)) (x0 : Nat) (x1 : Int32) (h : hp_H) : Option (hp_H) := if x1 = 0 then (f_X11_expression_325 x0 h) else ((f_X11_isGood x0 h).bind fun r1 => if r1.1 = 0 then (f_X11_expression_325 x0 r1.2) else ((f_X11_knownWord x0 r1.2).bind fun r2 => if r2.1 = 11 then (f_X11_expression_57 k29 x0 x1 r2.1 r2.2) else (if r2.1 = 12 then (f_X11_expression_57 k29 x0 x1 r2.1 r2.2) else ((f_X11_isSign x0 60 r2.2).bind fun r3 => if r3.1 = 0 then ((f_X11_isSign x0 61 r3.2).bind fun r4 => if r4.1 = 0 then (f_X11_expression_186 k29 x0 x1 r4.2) else (f_X11_expression_127 k29 x0 x1 r4.2)) else (f_X11_expression_127 k29 x0 x1 r3.2)))))
set_option maxRecDepth 20000 in
theorem w_X11_expression_29 (X : wx G p s m args meth c cX11_expression 3 RX11 none) (k29 : Nat → Int32 → hp_H → Option (hp_H)) (hk29 : ∀ (x0 : Nat) (x1 : Int32) (h : hp_H), k29 x0 x1 h = some o → wq p l e (mt_R (6) 0 0) s m args below meth c (MQ below (mt_Q G none o) args s 0 0 (hp_A G)) G 3 0 0 29 [(0, .ref x0), (1, .int x1)] [] h) (x0 : Nat) (x1 : Int32) (h : hp_H) (hf : f_X11_expression_29 k29 x0 x1 h = some o) : wq p l e (mt_R (6) 0 0) s m args below meth c (MQ below (mt_Q G none o) args s 0 0 (hp_A G)) G 3 0 0 29 [(0, .ref x0), (1, .int x1)] [] h := by
  unfold f_X11_expression_29 at hf
  refine wk_iload_n X dX11_expression_29 1 rfl ?_
  refine wk_if_eq X 325 dX11_expression_30 (by decide) hf (fun hf => ?_) (fun hf => ?_)
  · exact wq_sub [0] rfl (w_X11_expression_325 X _ _ hf)
  · refine wk_aload_n X dX11_expression_33 0 rfl ?_
    refine wk_callVi X [] [] dX11_expression_34 rfl vo_X11_143 rfl (by decide) (Nat.le_of_ble_eq_true rfl) hf (c_X11_isGood l _ _) (fun r1 hf => ?_)
    refine wk_if_eq X 325 dX11_expression_37 (by decide) hf (fun hf => ?_) (fun hf => ?_)
    · exact wq_sub [0] rfl (w_X11_expression_325 X _ _ hf)
    · refine wk_aload_n X dX11_expression_40 0 rfl ?_
      refine wk_callVi X [] [] dX11_expression_41 rfl vo_X11_168 rfl (by decide) (Nat.le_of_ble_eq_true rfl) hf (c_X11_knownWord l _ _) (fun r2 hf => ?_)
      refine wk_istore_n (lv' := [(2, .int r2.1), (0, .ref x0), (1, .int x1)]) X dX11_expression_44 (by decide) rfl ?_
      refine wk_iload_n X dX11_expression_45 0 rfl ?_
      refine wk_bipush X dX11_expression_46 ib_11 ?_
      refine wk_icmp_eq X 57 dX11_expression_48 (by decide) hf (fun hf => ?_) (fun hf => ?_)
      · exact wq_sub [1, 2, 0] rfl (w_X11_expression_57 X k29 hk29 _ _ _ _ hf)
      · refine wk_iload_n X dX11_expression_51 0 rfl ?_
        refine wk_bipush X dX11_expression_52 ib_12 ?_
        refine wk_icmp_ne X 109 dX11_expression_54 (by decide) hf (fun hf => ?_) (fun hf => ?_)
        · refine wk_aload_n X dX11_expression_109 1 rfl ?_
          refine wk_bipush X dX11_expression_110 ib_60 ?_
          refine wk_callVi X [.int 60] [] dX11_expression_112 rfl vo_X11_175 rfl (by decide) (Nat.le_of_ble_eq_true rfl) hf (c_X11_isSign l _ _ _) (fun r3 hf => ?_)
          refine wk_if_ne X 127 dX11_expression_115 (by decide) hf (fun hf => ?_) (fun hf => ?_)
          · exact wq_sub [1, 2] rfl (w_X11_expression_127 X k29 hk29 _ _ _ hf)
          · refine wk_aload_n X dX11_expression_118 1 rfl ?_
            refine wk_bipush X dX11_expression_119 ib_61 ?_
            refine wk_callVi X [.int 61] [] dX11_expression_121 rfl vo_X11_175 rfl (by decide) (Nat.le_of_ble_eq_true rfl) hf (c_X11_isSign l _ _ _) (fun r4 hf => ?_)
            refine wk_if_eq X 186 dX11_expression_124 (by decide) hf (fun hf => ?_) (fun hf => ?_)
            · exact wq_sub [1, 2] rfl (w_X11_expression_186 X k29 hk29 _ _ _ hf)
            · exact wq_sub [1, 2] rfl (w_X11_expression_127 X k29 hk29 _ _ _ hf)
        · exact wq_sub [1, 2, 0] rfl (w_X11_expression_57 X k29 hk29 _ _ _ _ hf)
def l_X11_expression_29 (x0 : Nat) (x1 : Int32) (h : hp_H) : Option (hp_H) := lp (fun k (s : Nat × Int32 × hp_H) => f_X11_expression_29  (fun a0 a1 a2 => k (a0, a1, a2)) s.1 s.2.1 s.2.2) 100000 (x0, x1, h)
theorem wl_X11_expression_29 (X : wx G p s m args meth c cX11_expression 3 RX11 none) (x0 : Nat) (x1 : Int32) (h : hp_H) (hf : l_X11_expression_29 x0 x1 h = some o) : wq p l e (mt_R (6) 0 0) s m args below meth c (MQ below (mt_Q G none o) args s 0 0 (hp_A G)) G 3 0 0 29 [(0, .ref x0), (1, .int x1)] [] h :=
  lp_ind (P := fun (s_ : Nat × Int32 × hp_H) => wq p l e (mt_R (6) 0 0) s m args below meth c (MQ below (mt_Q G none o) args s 0 0 (hp_A G)) G 3 0 0 29 [(0, .ref s_.1), (1, .int s_.2.1)] [] s_.2.2) (fun k s hk hf => w_X11_expression_29 X  (fun a0 a1 a2 => k (a0, a1, a2)) (fun a0 a1 a2 hf => hk (a0, a1, a2) hf) s.1 s.2.1 s.2.2 hf) 100000 (x0, x1, h) hf
end Sf_X11_expression
def f_X11_expression (x0 : Nat) (h : hp_H) : Option (hp_H) := gd h x0 11 ((f_X11_isGood x0 h).bind fun r1 => if r1.1 = 0 then (some r1.2) else ((wr_I r1.2 x0 11 29 0).bind fun h2 => (wr_I h2 x0 11 30 0).bind fun h3 => (f_X11_deeper x0 h3).bind fun r4 => (f_X11_operand x0 1 r4).bind fun r5 => l_X11_expression_29 x0 1 r5))
set_option maxRecDepth 20000 in
theorem c_X11_expression (l : Launch) (x0 : Nat) (h : hp_H) (r : hp_H) (hf : f_X11_expression x0 h = some r) : cv l (6) yX11_expression cX11_expression 3 none 11 x0 [] h none r := by
  unfold f_X11_expression at hf
  refine cv_of (lv := [(0, .ref x0)]) hf (by decide +kernel) (Nat.le_of_ble_eq_true rfl) rfl (fun hf p e s m args below meth c G X => ?_)
  refine wk_aload_n X dX11_expression_0 0 rfl ?_
  refine wk_callVi X [] [] dX11_expression_1 rfl vo_X11_143 rfl (by decide) (Nat.le_of_ble_eq_true rfl) hf (c_X11_isGood l _ _) (fun r1 hf => ?_)
  refine wk_if_ne X 8 dX11_expression_4 (by decide) hf (fun hf => ?_) (fun hf => ?_)
  · refine wk_aload_n X dX11_expression_8 0 rfl ?_
    refine wk_iconst X dX11_expression_9 ic_0 ?_
    refine wk_putI X dX11_expression_10 fo_X11_156 hf (fun h2 hf => ?_)
    refine wk_aload_n X dX11_expression_13 0 rfl ?_
    refine wk_iconst X dX11_expression_14 ic_0 ?_
    refine wk_putI X dX11_expression_15 fo_X11_172 hf (fun h3 hf => ?_)
    refine wk_aload_n X dX11_expression_18 0 rfl ?_
    refine wk_callVv X [] [] dX11_expression_19 rfl vo_X11_181 rfl (by decide) (Nat.le_of_ble_eq_true rfl) hf (c_X11_deeper l _ _) (fun r4 hf => ?_)
    refine wk_aload_n X dX11_expression_22 0 rfl ?_
    refine wk_iconst X dX11_expression_23 ic_1 ?_
    refine wk_callVv X [.int 1] [] dX11_expression_24 rfl vo_X11_190 rfl (by decide) (Nat.le_of_ble_eq_true rfl) hf (c_X11_operand l _ _ _) (fun r5 hf => ?_)
    refine wk_iconst X dX11_expression_27 ic_1 ?_
    refine wk_istore_n (lv' := [(1, .int 1), (0, .ref x0)]) X dX11_expression_28 (by decide) rfl ?_
    exact wq_sub [1, 0] rfl (wl_X11_expression_29 X _ _ _ hf)
  · exact wk_return X dX11_expression_7 hf
section Sf_X11_begins
variable {p : Program} {l : Launch} {e : Env} {s : State} {m : MethodId} {args : Array Value} {below : List Frame} {meth : Method} {c : Code} {G : hp_G} {o : Int32 × hp_H}
def f_X11_begins_18 (x0 : Nat) (h : hp_H) : Option (Int32 × hp_H) := (f_X11_isGood x0 h).bind fun r1 => if r1.1 = 0 then (if 0 = 0 ∨ 0 = 1 then some (0, r1.2) else none) else ((f_X11_goes x0 r1.2).bind fun r2 => if 1 = 0 ∨ 1 = 1 then some (1, r2) else none)
set_option maxRecDepth 20000 in
theorem w_X11_begins_18 (X : wx G p s m args meth c cX11_begins 3 RX11 (some .boolean)) (x0 : Nat) (h : hp_H) (hf : f_X11_begins_18 x0 h = some o) : wq p l e (mt_R (3) 0 0) s m args below meth c (MQ below (mt_Q G (some (.int o.1)) o.2) args s 0 0 (hp_A G)) G 3 0 0 18 [(0, .ref x0)] [] h := by
  unfold f_X11_begins_18 at hf
  refine wk_aload_n X dX11_begins_18 0 rfl ?_
  refine wk_callVi X [] [] dX11_begins_19 rfl vo_X11_143 rfl (by decide) (Nat.le_of_ble_eq_true rfl) hf (c_X11_isGood l _ _) (fun r1 hf => ?_)
  refine wk_if_ne X 27 dX11_begins_22 (by decide) hf (fun hf => ?_) (fun hf => ?_)
  · refine wk_aload_n X dX11_begins_27 0 rfl ?_
    refine wk_callVv X [] [] dX11_begins_28 rfl vo_X11_147 rfl (by decide) (Nat.le_of_ble_eq_true rfl) hf (c_X11_goes l _ _) (fun r2 hf => ?_)
    refine wk_iconst X dX11_begins_31 ic_1 ?_
    exact wk_zreturn X dX11_begins_32 hf
  · refine wk_iconst X dX11_begins_25 ic_0 ?_
    exact wk_zreturn X dX11_begins_26 hf
def f_X11_begins_9 (x0 : Nat) (x2 : Int32) (h : hp_H) : Option (Int32 × hp_H) := if x2 = 0 then (f_X11_begins_18 x0 h) else ((f_X11_wrong x0 5 h).bind fun r1 => f_X11_begins_18 x0 r1)
set_option maxRecDepth 20000 in
theorem w_X11_begins_9 (X : wx G p s m args meth c cX11_begins 3 RX11 (some .boolean)) (x0 : Nat) (x2 : Int32) (h : hp_H) (hf : f_X11_begins_9 x0 x2 h = some o) : wq p l e (mt_R (3) 0 0) s m args below meth c (MQ below (mt_Q G (some (.int o.1)) o.2) args s 0 0 (hp_A G)) G 3 0 0 9 [(0, .ref x0), (2, .int x2)] [] h := by
  unfold f_X11_begins_9 at hf
  refine wk_iload_n X dX11_begins_9 1 rfl ?_
  refine wk_if_eq X 18 dX11_begins_10 (by decide) hf (fun hf => ?_) (fun hf => ?_)
  · exact wq_sub [0] rfl (w_X11_begins_18 X _ _ hf)
  · refine wk_aload_n X dX11_begins_13 0 rfl ?_
    refine wk_iconst X dX11_begins_14 ic_5 ?_
    refine wk_callVv X [.int 5] [] dX11_begins_15 rfl vo_X11_150 rfl (by decide) (Nat.le_of_ble_eq_true rfl) hf (c_X11_wrong l _ _ _) (fun r1 hf => ?_)
    exact wq_sub [0] rfl (w_X11_begins_18 X _ _ hf)
end Sf_X11_begins
def f_X11_begins (x0 : Nat) (x1 : Int32) (x2 : Int32) (h : hp_H) : Option (Int32 × hp_H) := gd h x0 11 (if x1 = 0 then (f_X11_begins_9 x0 x2 h) else ((f_X11_wrong x0 2 h).bind fun r1 => f_X11_begins_9 x0 x2 r1))
set_option maxRecDepth 20000 in
theorem c_X11_begins (l : Launch) (x0 : Nat) (x1 : Int32) (x2 : Int32) (h : hp_H) (r : Int32 × hp_H) (hf : f_X11_begins x0 x1 x2 h = some r) : cv l (3) yX11_begins cX11_begins 3 (some .boolean) 11 x0 [.int x1, .int x2] h (some (.int r.1)) r.2 := by
  unfold f_X11_begins at hf
  refine cv_of (lv := [(0, .ref x0), (1, .int x1), (2, .int x2)]) hf (by decide +kernel) (Nat.le_of_ble_eq_true rfl) rfl (fun hf p e s m args below meth c G X => ?_)
  refine wk_iload_n X dX11_begins_0 1 rfl ?_
  refine wk_if_eq X 9 dX11_begins_1 (by decide) hf (fun hf => ?_) (fun hf => ?_)
  · exact wq_sub [0, 2] rfl (w_X11_begins_9 X _ _ _ hf)
  · refine wk_aload_n X dX11_begins_4 0 rfl ?_
    refine wk_iconst X dX11_begins_5 ic_2 ?_
    refine wk_callVv X [.int 2] [] dX11_begins_6 rfl vo_X11_150 rfl (by decide) (Nat.le_of_ble_eq_true rfl) hf (c_X11_wrong l _ _ _) (fun r1 hf => ?_)
    exact wq_sub [0, 2] rfl (w_X11_begins_9 X _ _ _ hf)
section Sf_X11_readsMan
variable {p : Program} {l : Launch} {e : Env} {s : State} {m : MethodId} {args : Array Value} {below : List Frame} {meth : Method} {c : Code} {G : hp_G} {o : hp_H}
def f_X11_readsMan_64  (h : hp_H) : Option (hp_H) := some h
set_option maxRecDepth 20000 in
theorem w_X11_readsMan_64 (X : wx G p s m args meth c cX11_readsMan 2 RX11 none)  (h : hp_H) (hf : f_X11_readsMan_64 h = some o) : wq p l e (mt_R (4) 0 0) s m args below meth c (MQ below (mt_Q G none o) args s 0 0 (hp_A G)) G 2 0 0 64 [] [] h := by
  unfold f_X11_readsMan_64 at hf
  exact wk_return X dX11_readsMan_64 hf
end Sf_X11_readsMan
def f_X11_readsMan (x0 : Nat) (h : hp_H) : Option (hp_H) := gd h x0 11 ((rd_I h x0 11 23).bind fun v1 => (rd_R h x0 11 32).bind fun v2 => (f_X11_number x0 0 4095 h).bind fun r3 => (wr_A r3.2 v2 (1 + v1) r3.1).bind fun h4 => (rd_R h4 x0 11 32).bind fun v5 => (f_X11_number x0 1 9 h4).bind fun r6 => (wr_A r6.2 v5 (9 + v1) r6.1).bind fun h7 => (rd_R h7 x0 11 32).bind fun v8 => (wr_A h7 v8 (17 + v1) 0).bind fun h9 => (f_X11_isGood x0 h9).bind fun r10 => if r10.1 = 0 then (f_X11_readsMan_64 r10.2) else ((rd_I r10.2 x0 11 23).bind fun v11 => (wr_I r10.2 x0 11 23 (v11 + 1)).bind fun h12 => f_X11_readsMan_64 h12))
set_option maxRecDepth 20000 in
theorem c_X11_readsMan (l : Launch) (x0 : Nat) (h : hp_H) (r : hp_H) (hf : f_X11_readsMan x0 h = some r) : cv l (4) yX11_readsMan cX11_readsMan 2 none 11 x0 [] h none r := by
  unfold f_X11_readsMan at hf
  refine cv_of (lv := [(0, .ref x0)]) hf (by decide +kernel) (Nat.le_of_ble_eq_true rfl) rfl (fun hf p e s m args below meth c G X => ?_)
  refine wk_aload_n X dX11_readsMan_0 0 rfl ?_
  refine wk_getI X dX11_readsMan_1 fo_X11_200 hf (fun v1 hf => ?_)
  refine wk_istore_n (lv' := [(1, .int v1), (0, .ref x0)]) X dX11_readsMan_4 (by decide) rfl ?_
  refine wk_aload_n X dX11_readsMan_5 1 rfl ?_
  refine wk_getR X dX11_readsMan_6 fo_X11_38 hf (fun v2 hf => ?_)
  refine wk_iconst X dX11_readsMan_9 ic_1 ?_
  refine wk_iload_n X dX11_readsMan_10 0 rfl ?_
  refine wk_iadd X dX11_readsMan_11 ?_
  refine wk_aload_n X dX11_readsMan_12 1 rfl ?_
  refine wk_iconst X dX11_readsMan_13 ic_0 ?_
  refine wk_sipush X dX11_readsMan_14 is_4095 ?_
  refine wk_callVi X [.int 0, .int 4095] [.int (1 + v1), .ref v2] dX11_readsMan_17 rfl vo_X11_203 rfl (by decide) (Nat.le_of_ble_eq_true rfl) hf (c_X11_number l _ _ _ _) (fun r3 hf => ?_)
  refine wk_iast X dX11_readsMan_20 hf (fun h4 hf => ?_)
  refine wk_aload_n X dX11_readsMan_21 1 rfl ?_
  refine wk_getR X dX11_readsMan_22 fo_X11_38 hf (fun v5 hf => ?_)
  refine wk_bipush X dX11_readsMan_25 ib_9 ?_
  refine wk_iload_n X dX11_readsMan_27 0 rfl ?_
  refine wk_iadd X dX11_readsMan_28 ?_
  refine wk_aload_n X dX11_readsMan_29 1 rfl ?_
  refine wk_iconst X dX11_readsMan_30 ic_1 ?_
  refine wk_bipush X dX11_readsMan_31 ib_9 ?_
  refine wk_callVi X [.int 1, .int 9] [.int (9 + v1), .ref v5] dX11_readsMan_33 rfl vo_X11_203 rfl (by decide) (Nat.le_of_ble_eq_true rfl) hf (c_X11_number l _ _ _ _) (fun r6 hf => ?_)
  refine wk_iast X dX11_readsMan_36 hf (fun h7 hf => ?_)
  refine wk_aload_n X dX11_readsMan_37 1 rfl ?_
  refine wk_getR X dX11_readsMan_38 fo_X11_38 hf (fun v8 hf => ?_)
  refine wk_bipush X dX11_readsMan_41 ib_17 ?_
  refine wk_iload_n X dX11_readsMan_43 0 rfl ?_
  refine wk_iadd X dX11_readsMan_44 ?_
  refine wk_iconst X dX11_readsMan_45 ic_0 ?_
  refine wk_iast X dX11_readsMan_46 hf (fun h9 hf => ?_)
  refine wk_aload_n X dX11_readsMan_47 1 rfl ?_
  refine wk_callVi X [] [] dX11_readsMan_48 rfl vo_X11_143 rfl (by decide) (Nat.le_of_ble_eq_true rfl) hf (c_X11_isGood l _ _) (fun r10 hf => ?_)
  refine wk_if_eq X 64 dX11_readsMan_51 (by decide) hf (fun hf => ?_) (fun hf => ?_)
  · exact wq_sub [] rfl (w_X11_readsMan_64 X _ hf)
  · refine wk_aload_n X dX11_readsMan_54 1 rfl ?_
    refine wk_dup X dX11_readsMan_55 rfl ?_
    refine wk_getI X dX11_readsMan_56 fo_X11_200 hf (fun v11 hf => ?_)
    refine wk_iconst X dX11_readsMan_59 ic_1 ?_
    refine wk_iadd X dX11_readsMan_60 ?_
    refine wk_putI X dX11_readsMan_61 fo_X11_200 hf (fun h12 hf => ?_)
    exact wq_sub [] rfl (w_X11_readsMan_64 X _ hf)
section Sf_X11_isPlaced
variable {p : Program} {l : Launch} {e : Env} {s : State} {m : MethodId} {args : Array Value} {below : List Frame} {meth : Method} {c : Code} {G : hp_G} {o : Int32 × hp_H}
def f_X11_isPlaced_41  (h : hp_H) : Option (Int32 × hp_H) := if 0 = 0 ∨ 0 = 1 then some (0, h) else none
set_option maxRecDepth 20000 in
theorem w_X11_isPlaced_41 (X : wx G p s m args meth c cX11_isPlaced 3 RX11 (some .boolean))  (h : hp_H) (hf : f_X11_isPlaced_41 h = some o) : wq p l e (mt_R (1) 0 0) s m args below meth c (MQ below (mt_Q G (some (.int o.1)) o.2) args s 0 0 (hp_A G)) G 3 0 0 41 [] [] h := by
  unfold f_X11_isPlaced_41 at hf
  refine wk_iconst X dX11_isPlaced_41 ic_0 ?_
  exact wk_zreturn X dX11_isPlaced_42 hf
def f_X11_isPlaced_33  (h : hp_H) : Option (Int32 × hp_H) := if 1 = 0 ∨ 1 = 1 then some (1, h) else none
set_option maxRecDepth 20000 in
theorem w_X11_isPlaced_33 (X : wx G p s m args meth c cX11_isPlaced 3 RX11 (some .boolean))  (h : hp_H) (hf : f_X11_isPlaced_33 h = some o) : wq p l e (mt_R (1) 0 0) s m args below meth c (MQ below (mt_Q G (some (.int o.1)) o.2) args s 0 0 (hp_A G)) G 3 0 0 33 [] [] h := by
  unfold f_X11_isPlaced_33 at hf
  refine wk_iconst X dX11_isPlaced_33 ic_1 ?_
  exact wk_zreturn X dX11_isPlaced_34 hf
def f_X11_isPlaced_2 (k2 : Nat → Int32 → Int32 → hp_H → Option (Int32 × hp_H)) (x0 : Nat) (x1 : Int32) (x2 : Int32) (h : hp_H) : Option (Int32 × hp_H) := (rd_I h x0 11 24).bind fun v1 => if v1 < x2 then (f_X11_isPlaced_41 h) else (if 8 ≤ x2 then (f_X11_isPlaced_41 h) else ((rd_R h x0 11 32).bind fun v2 => (rd_A h 0 v2 (25 + x2)).bind fun v3 => if ((v3 >>> (x1 &&& 31)) &&& (1 : Int32)) = 1 then (f_X11_isPlaced_33 h) else (k2 x0 x1 (x2 + 1) h)))
set_option maxRecDepth 20000 in
theorem w_X11_isPlaced_2 (X : wx G p s m args meth c cX11_isPlaced 3 RX11 (some .boolean)) (k2 : Nat → Int32 → Int32 → hp_H → Option (Int32 × hp_H)) (hk2 : ∀ (x0 : Nat) (x1 : Int32) (x2 : Int32) (h : hp_H), k2 x0 x1 x2 h = some o → wq p l e (mt_R (1) 0 0) s m args below meth c (MQ below (mt_Q G (some (.int o.1)) o.2) args s 0 0 (hp_A G)) G 3 0 0 2 [(0, .ref x0), (1, .int x1), (2, .int x2)] [] h) (x0 : Nat) (x1 : Int32) (x2 : Int32) (h : hp_H) (hf : f_X11_isPlaced_2 k2 x0 x1 x2 h = some o) : wq p l e (mt_R (1) 0 0) s m args below meth c (MQ below (mt_Q G (some (.int o.1)) o.2) args s 0 0 (hp_A G)) G 3 0 0 2 [(0, .ref x0), (1, .int x1), (2, .int x2)] [] h := by
  unfold f_X11_isPlaced_2 at hf
  refine wk_iload_n X dX11_isPlaced_2 2 rfl ?_
  refine wk_aload_n X dX11_isPlaced_3 0 rfl ?_
  refine wk_getI X dX11_isPlaced_4 fo_X11_207 hf (fun v1 hf => ?_)
  refine wk_icmp_gt X 41 dX11_isPlaced_7 (by decide) hf (fun hf => ?_) (fun hf => ?_)
  · exact wq_sub [] rfl (w_X11_isPlaced_41 X _ hf)
  · refine wk_iload_n X dX11_isPlaced_10 2 rfl ?_
    refine wk_bipush X dX11_isPlaced_11 ib_8 ?_
    refine wk_icmp_ge X 41 dX11_isPlaced_13 (by decide) hf (fun hf => ?_) (fun hf => ?_)
    · exact wq_sub [] rfl (w_X11_isPlaced_41 X _ hf)
    · refine wk_aload_n X dX11_isPlaced_16 0 rfl ?_
      refine wk_getR X dX11_isPlaced_17 fo_X11_38 hf (fun v2 hf => ?_)
      refine wk_bipush X dX11_isPlaced_20 ib_25 ?_
      refine wk_iload_n X dX11_isPlaced_22 2 rfl ?_
      refine wk_iadd X dX11_isPlaced_23 ?_
      refine wk_iald X dX11_isPlaced_24 hf (fun v3 hf => ?_)
      refine wk_iload_n X dX11_isPlaced_25 1 rfl ?_
      refine wk_ishr X dX11_isPlaced_26 ?_
      refine wk_iconst X dX11_isPlaced_27 ic_1 ?_
      refine wk_iand X dX11_isPlaced_28 ?_
      refine wk_iconst X dX11_isPlaced_29 ic_1 ?_
      refine wk_icmp_ne X 35 dX11_isPlaced_30 (by decide) hf (fun hf => ?_) (fun hf => ?_)
      · refine wk_iinc (lv' := [(2, .int (x2 + 1)), (0, .ref x0), (1, .int x1)]) X dX11_isPlaced_35 2 rfl ic_1 (by decide) rfl ?_
        refine wk_goto X 2 dX11_isPlaced_38 (by decide) ?_
        exact wq_sub [1, 2, 0] rfl (hk2 _ _ _ _ hf)
      · exact wq_sub [] rfl (w_X11_isPlaced_33 X _ hf)
def l_X11_isPlaced_2 (x0 : Nat) (x1 : Int32) (x2 : Int32) (h : hp_H) : Option (Int32 × hp_H) := lp (fun k (s : Nat × Int32 × Int32 × hp_H) => f_X11_isPlaced_2  (fun a0 a1 a2 a3 => k (a0, a1, a2, a3)) s.1 s.2.1 s.2.2.1 s.2.2.2) 100000 (x0, x1, x2, h)
theorem wl_X11_isPlaced_2 (X : wx G p s m args meth c cX11_isPlaced 3 RX11 (some .boolean)) (x0 : Nat) (x1 : Int32) (x2 : Int32) (h : hp_H) (hf : l_X11_isPlaced_2 x0 x1 x2 h = some o) : wq p l e (mt_R (1) 0 0) s m args below meth c (MQ below (mt_Q G (some (.int o.1)) o.2) args s 0 0 (hp_A G)) G 3 0 0 2 [(0, .ref x0), (1, .int x1), (2, .int x2)] [] h :=
  lp_ind (P := fun (s_ : Nat × Int32 × Int32 × hp_H) => wq p l e (mt_R (1) 0 0) s m args below meth c (MQ below (mt_Q G (some (.int o.1)) o.2) args s 0 0 (hp_A G)) G 3 0 0 2 [(0, .ref s_.1), (1, .int s_.2.1), (2, .int s_.2.2.1)] [] s_.2.2.2) (fun k s hk hf => w_X11_isPlaced_2 X  (fun a0 a1 a2 a3 => k (a0, a1, a2, a3)) (fun a0 a1 a2 a3 hf => hk (a0, a1, a2, a3) hf) s.1 s.2.1 s.2.2.1 s.2.2.2 hf) 100000 (x0, x1, x2, h) hf
end Sf_X11_isPlaced
def f_X11_isPlaced (x0 : Nat) (x1 : Int32) (h : hp_H) : Option (Int32 × hp_H) := gd h x0 11 (l_X11_isPlaced_2 x0 x1 0 h)
set_option maxRecDepth 20000 in
theorem c_X11_isPlaced (l : Launch) (x0 : Nat) (x1 : Int32) (h : hp_H) (r : Int32 × hp_H) (hf : f_X11_isPlaced x0 x1 h = some r) : cv l (1) yX11_isPlaced cX11_isPlaced 3 (some .boolean) 11 x0 [.int x1] h (some (.int r.1)) r.2 := by
  unfold f_X11_isPlaced at hf
  refine cv_of (lv := [(0, .ref x0), (1, .int x1)]) hf (by decide +kernel) (Nat.le_of_ble_eq_true rfl) rfl (fun hf p e s m args below meth c G X => ?_)
  refine wk_iconst X dX11_isPlaced_0 ic_0 ?_
  refine wk_istore_n (lv' := [(2, .int 0), (0, .ref x0), (1, .int x1)]) X dX11_isPlaced_1 (by decide) rfl ?_
  exact wq_sub [1, 2, 0] rfl (wl_X11_isPlaced_2 X _ _ _ _ hf)
section Sf_X11_readsRow
variable {p : Program} {l : Launch} {e : Env} {s : State} {m : MethodId} {args : Array Value} {below : List Frame} {meth : Method} {c : Code} {G : hp_G} {o : hp_H}
def f_X11_readsRow_153 (x0 : Nat) (h : hp_H) : Option (hp_H) := (rd_I h x0 11 24).bind fun v1 => (wr_I h x0 11 24 (v1 + 1)).bind fun h2 => some h2
set_option maxRecDepth 20000 in
theorem w_X11_readsRow_153 (X : wx G p s m args meth c cX11_readsRow 3 RX11 none) (x0 : Nat) (h : hp_H) (hf : f_X11_readsRow_153 x0 h = some o) : wq p l e (mt_R (3) 0 0) s m args below meth c (MQ below (mt_Q G none o) args s 0 0 (hp_A G)) G 3 0 0 153 [(0, .ref x0)] [] h := by
  unfold f_X11_readsRow_153 at hf
  refine wk_aload_n X dX11_readsRow_153 0 rfl ?_
  refine wk_dup X dX11_readsRow_154 rfl ?_
  refine wk_getI X dX11_readsRow_155 fo_X11_207 hf (fun v1 hf => ?_)
  refine wk_iconst X dX11_readsRow_158 ic_1 ?_
  refine wk_iadd X dX11_readsRow_159 ?_
  refine wk_putI X dX11_readsRow_160 fo_X11_207 hf (fun h2 hf => ?_)
  exact wk_return X dX11_readsRow_163 hf
def f_X11_readsRow_149 (k17 : Nat → Int32 → Int32 → hp_H → Option (hp_H)) (x0 : Nat) (x1 : Int32) (t0 : Int32) (h : hp_H) : Option (hp_H) := k17 x0 x1 t0 h
set_option maxRecDepth 20000 in
theorem w_X11_readsRow_149 (X : wx G p s m args meth c cX11_readsRow 3 RX11 none) (k17 : Nat → Int32 → Int32 → hp_H → Option (hp_H)) (hk17 : ∀ (x0 : Nat) (x1 : Int32) (x2 : Int32) (h : hp_H), k17 x0 x1 x2 h = some o → wq p l e (mt_R (3) 0 0) s m args below meth c (MQ below (mt_Q G none o) args s 0 0 (hp_A G)) G 3 0 0 17 [(0, .ref x0), (1, .int x1), (2, .int x2)] [] h) (x0 : Nat) (x1 : Int32) (t0 : Int32) (h : hp_H) (hf : f_X11_readsRow_149 k17 x0 x1 t0 h = some o) : wq p l e (mt_R (3) 0 0) s m args below meth c (MQ below (mt_Q G none o) args s 0 0 (hp_A G)) G 3 0 0 149 [(0, .ref x0), (1, .int x1)] [.int t0] h := by
  unfold f_X11_readsRow_149 at hf
  refine wk_istore_n (lv' := [(2, .int t0), (0, .ref x0), (1, .int x1)]) X dX11_readsRow_149 (by decide) rfl ?_
  refine wk_goto X 17 dX11_readsRow_150 (by decide) ?_
  exact wq_sub [1, 2, 0] rfl (hk17 _ _ _ _ hf)
def f_X11_readsRow_100 (k17 : Nat → Int32 → Int32 → hp_H → Option (hp_H)) (x0 : Nat) (x1 : Int32) (h : hp_H) : Option (hp_H) := (f_X11_isGood x0 h).bind fun r1 => if r1.1 = 0 then (some r1.2) else ((rd_R r1.2 x0 11 32).bind fun v2 => (rd_I r1.2 x0 11 24).bind fun v3 => (rd_A r1.2 0 v2 (25 + v3)).bind fun v4 => (rd_I r1.2 x0 11 19).bind fun v5 => (wr_A r1.2 v2 (25 + v3) (v4 ||| (1 <<< (v5 &&& 31)))).bind fun h6 => (f_X11_goes x0 h6).bind fun r7 => (rd_I r7 x0 11 16).bind fun v8 => if v8 = 2 then (f_X11_readsRow_149 k17 x0 (x1 + 1) 1 r7) else (f_X11_readsRow_149 k17 x0 (x1 + 1) 0 r7))
set_option maxRecDepth 20000 in
theorem w_X11_readsRow_100 (X : wx G p s m args meth c cX11_readsRow 3 RX11 none) (k17 : Nat → Int32 → Int32 → hp_H → Option (hp_H)) (hk17 : ∀ (x0 : Nat) (x1 : Int32) (x2 : Int32) (h : hp_H), k17 x0 x1 x2 h = some o → wq p l e (mt_R (3) 0 0) s m args below meth c (MQ below (mt_Q G none o) args s 0 0 (hp_A G)) G 3 0 0 17 [(0, .ref x0), (1, .int x1), (2, .int x2)] [] h) (x0 : Nat) (x1 : Int32) (h : hp_H) (hf : f_X11_readsRow_100 k17 x0 x1 h = some o) : wq p l e (mt_R (3) 0 0) s m args below meth c (MQ below (mt_Q G none o) args s 0 0 (hp_A G)) G 3 0 0 100 [(0, .ref x0), (1, .int x1)] [] h := by
  unfold f_X11_readsRow_100 at hf
  refine wk_aload_n X dX11_readsRow_100 0 rfl ?_
  refine wk_callVi X [] [] dX11_readsRow_101 rfl vo_X11_143 rfl (by decide) (Nat.le_of_ble_eq_true rfl) hf (c_X11_isGood l _ _) (fun r1 hf => ?_)
  refine wk_if_ne X 108 dX11_readsRow_104 (by decide) hf (fun hf => ?_) (fun hf => ?_)
  · refine wk_aload_n X dX11_readsRow_108 0 rfl ?_
    refine wk_getR X dX11_readsRow_109 fo_X11_38 hf (fun v2 hf => ?_)
    refine wk_bipush X dX11_readsRow_112 ib_25 ?_
    refine wk_aload_n X dX11_readsRow_114 0 rfl ?_
    refine wk_getI X dX11_readsRow_115 fo_X11_207 hf (fun v3 hf => ?_)
    refine wk_iadd X dX11_readsRow_118 ?_
    refine wk_dup2 X dX11_readsRow_119 rfl rfl ?_
    refine wk_iald X dX11_readsRow_120 hf (fun v4 hf => ?_)
    refine wk_iconst X dX11_readsRow_121 ic_1 ?_
    refine wk_aload_n X dX11_readsRow_122 0 rfl ?_
    refine wk_getI X dX11_readsRow_123 fo_X11_111 hf (fun v5 hf => ?_)
    refine wk_ishl X dX11_readsRow_126 ?_
    refine wk_ior X dX11_readsRow_127 ?_
    refine wk_iast X dX11_readsRow_128 hf (fun h6 hf => ?_)
    refine wk_iinc (lv' := [(1, .int (x1 + 1)), (0, .ref x0)]) X dX11_readsRow_129 1 rfl ic_1 (by decide) rfl ?_
    refine wk_aload_n X dX11_readsRow_132 1 rfl ?_
    refine wk_callVv X [] [] dX11_readsRow_133 rfl vo_X11_147 rfl (by decide) (Nat.le_of_ble_eq_true rfl) hf (c_X11_goes l _ _) (fun r7 hf => ?_)
    refine wk_aload_n X dX11_readsRow_136 1 rfl ?_
    refine wk_getI X dX11_readsRow_137 fo_X11_117 hf (fun v8 hf => ?_)
    refine wk_iconst X dX11_readsRow_140 ic_2 ?_
    refine wk_icmp_ne X 148 dX11_readsRow_141 (by decide) hf (fun hf => ?_) (fun hf => ?_)
    · refine wk_iconst X dX11_readsRow_148 ic_0 ?_
      exact wq_sub [1, 0] rfl (w_X11_readsRow_149 X k17 hk17 _ _ _ _ hf)
    · refine wk_iconst X dX11_readsRow_144 ic_1 ?_
      refine wk_goto X 149 dX11_readsRow_145 (by decide) ?_
      exact wq_sub [1, 0] rfl (w_X11_readsRow_149 X k17 hk17 _ _ _ _ hf)
  · exact wk_return X dX11_readsRow_107 hf
def f_X11_readsRow_57 (k17 : Nat → Int32 → Int32 → hp_H → Option (hp_H)) (x0 : Nat) (x1 : Int32) (h : hp_H) : Option (hp_H) := (f_X11_wrong x0 2 h).bind fun r1 => f_X11_readsRow_100 k17 x0 x1 r1
set_option maxRecDepth 20000 in
theorem w_X11_readsRow_57 (X : wx G p s m args meth c cX11_readsRow 3 RX11 none) (k17 : Nat → Int32 → Int32 → hp_H → Option (hp_H)) (hk17 : ∀ (x0 : Nat) (x1 : Int32) (x2 : Int32) (h : hp_H), k17 x0 x1 x2 h = some o → wq p l e (mt_R (3) 0 0) s m args below meth c (MQ below (mt_Q G none o) args s 0 0 (hp_A G)) G 3 0 0 17 [(0, .ref x0), (1, .int x1), (2, .int x2)] [] h) (x0 : Nat) (x1 : Int32) (h : hp_H) (hf : f_X11_readsRow_57 k17 x0 x1 h = some o) : wq p l e (mt_R (3) 0 0) s m args below meth c (MQ below (mt_Q G none o) args s 0 0 (hp_A G)) G 3 0 0 57 [(0, .ref x0), (1, .int x1)] [] h := by
  unfold f_X11_readsRow_57 at hf
  refine wk_aload_n X dX11_readsRow_57 0 rfl ?_
  refine wk_iconst X dX11_readsRow_58 ic_2 ?_
  refine wk_callVv X [.int 2] [] dX11_readsRow_59 rfl vo_X11_150 rfl (by decide) (Nat.le_of_ble_eq_true rfl) hf (c_X11_wrong l _ _ _) (fun r1 hf => ?_)
  refine wk_goto X 100 dX11_readsRow_62 (by decide) ?_
  exact wq_sub [0, 1] rfl (w_X11_readsRow_100 X k17 hk17 _ _ _ hf)
def f_X11_readsRow_17 (k17 : Nat → Int32 → Int32 → hp_H → Option (hp_H)) (x0 : Nat) (x1 : Int32) (x2 : Int32) (h : hp_H) : Option (hp_H) := if x2 = 0 then (f_X11_readsRow_153 x0 h) else ((f_X11_isGood x0 h).bind fun r1 => if r1.1 = 0 then (f_X11_readsRow_153 x0 r1.2) else ((rd_I r1.2 x0 11 16).bind fun v2 => if v2 = 2 then (if x1 = 4 then (f_X11_readsRow_57 k17 x0 x1 r1.2) else ((rd_I r1.2 x0 11 18).bind fun v3 => if v3 ≤ 4 then ((rd_I r1.2 x0 11 19).bind fun v4 => (rd_I r1.2 x0 11 23).bind fun v5 => if v4 < v5 then ((rd_I r1.2 x0 11 19).bind fun v6 => (f_X11_isPlaced x0 v6 r1.2).bind fun r7 => if r7.1 = 0 then (f_X11_readsRow_100 k17 x0 x1 r7.2) else ((f_X11_wrong x0 4 r7.2).bind fun r8 => f_X11_readsRow_100 k17 x0 x1 r8)) else ((f_X11_wrong x0 3 r1.2).bind fun r9 => f_X11_readsRow_100 k17 x0 x1 r9)) else (f_X11_readsRow_57 k17 x0 x1 r1.2))) else ((f_X11_wrong x0 1 r1.2).bind fun r10 => f_X11_readsRow_100 k17 x0 x1 r10)))
set_option maxRecDepth 20000 in
theorem w_X11_readsRow_17 (X : wx G p s m args meth c cX11_readsRow 3 RX11 none) (k17 : Nat → Int32 → Int32 → hp_H → Option (hp_H)) (hk17 : ∀ (x0 : Nat) (x1 : Int32) (x2 : Int32) (h : hp_H), k17 x0 x1 x2 h = some o → wq p l e (mt_R (3) 0 0) s m args below meth c (MQ below (mt_Q G none o) args s 0 0 (hp_A G)) G 3 0 0 17 [(0, .ref x0), (1, .int x1), (2, .int x2)] [] h) (x0 : Nat) (x1 : Int32) (x2 : Int32) (h : hp_H) (hf : f_X11_readsRow_17 k17 x0 x1 x2 h = some o) : wq p l e (mt_R (3) 0 0) s m args below meth c (MQ below (mt_Q G none o) args s 0 0 (hp_A G)) G 3 0 0 17 [(0, .ref x0), (1, .int x1), (2, .int x2)] [] h := by
  unfold f_X11_readsRow_17 at hf
  refine wk_iload_n X dX11_readsRow_17 2 rfl ?_
  refine wk_if_eq X 153 dX11_readsRow_18 (by decide) hf (fun hf => ?_) (fun hf => ?_)
  · exact wq_sub [0] rfl (w_X11_readsRow_153 X _ _ hf)
  · refine wk_aload_n X dX11_readsRow_21 0 rfl ?_
    refine wk_callVi X [] [] dX11_readsRow_22 rfl vo_X11_143 rfl (by decide) (Nat.le_of_ble_eq_true rfl) hf (c_X11_isGood l _ _) (fun r1 hf => ?_)
    refine wk_if_eq X 153 dX11_readsRow_25 (by decide) hf (fun hf => ?_) (fun hf => ?_)
    · exact wq_sub [0] rfl (w_X11_readsRow_153 X _ _ hf)
    · refine wk_aload_n X dX11_readsRow_28 0 rfl ?_
      refine wk_getI X dX11_readsRow_29 fo_X11_117 hf (fun v2 hf => ?_)
      refine wk_iconst X dX11_readsRow_32 ic_2 ?_
      refine wk_icmp_eq X 44 dX11_readsRow_33 (by decide) hf (fun hf => ?_) (fun hf => ?_)
      · refine wk_iload_n X dX11_readsRow_44 1 rfl ?_
        refine wk_iconst X dX11_readsRow_45 ic_4 ?_
        refine wk_icmp_eq X 57 dX11_readsRow_46 (by decide) hf (fun hf => ?_) (fun hf => ?_)
        · exact wq_sub [0, 1] rfl (w_X11_readsRow_57 X k17 hk17 _ _ _ hf)
        · refine wk_aload_n X dX11_readsRow_49 0 rfl ?_
          refine wk_getI X dX11_readsRow_50 fo_X11_127 hf (fun v3 hf => ?_)
          refine wk_iconst X dX11_readsRow_53 ic_4 ?_
          refine wk_icmp_le X 65 dX11_readsRow_54 (by decide) hf (fun hf => ?_) (fun hf => ?_)
          · refine wk_aload_n X dX11_readsRow_65 0 rfl ?_
            refine wk_getI X dX11_readsRow_66 fo_X11_111 hf (fun v4 hf => ?_)
            refine wk_aload_n X dX11_readsRow_69 0 rfl ?_
            refine wk_getI X dX11_readsRow_70 fo_X11_200 hf (fun v5 hf => ?_)
            refine wk_icmp_lt X 84 dX11_readsRow_73 (by decide) hf (fun hf => ?_) (fun hf => ?_)
            · refine wk_aload_n X dX11_readsRow_84 0 rfl ?_
              refine wk_aload_n X dX11_readsRow_85 0 rfl ?_
              refine wk_getI X dX11_readsRow_86 fo_X11_111 hf (fun v6 hf => ?_)
              refine wk_callVi X [.int v6] [] dX11_readsRow_89 rfl vo_X11_210 rfl (by decide) (Nat.le_of_ble_eq_true rfl) hf (c_X11_isPlaced l _ _ _) (fun r7 hf => ?_)
              refine wk_if_eq X 100 dX11_readsRow_92 (by decide) hf (fun hf => ?_) (fun hf => ?_)
              · exact wq_sub [0, 1] rfl (w_X11_readsRow_100 X k17 hk17 _ _ _ hf)
              · refine wk_aload_n X dX11_readsRow_95 0 rfl ?_
                refine wk_iconst X dX11_readsRow_96 ic_4 ?_
                refine wk_callVv X [.int 4] [] dX11_readsRow_97 rfl vo_X11_150 rfl (by decide) (Nat.le_of_ble_eq_true rfl) hf (c_X11_wrong l _ _ _) (fun r8 hf => ?_)
                exact wq_sub [0, 1] rfl (w_X11_readsRow_100 X k17 hk17 _ _ _ hf)
            · refine wk_aload_n X dX11_readsRow_76 0 rfl ?_
              refine wk_iconst X dX11_readsRow_77 ic_3 ?_
              refine wk_callVv X [.int 3] [] dX11_readsRow_78 rfl vo_X11_150 rfl (by decide) (Nat.le_of_ble_eq_true rfl) hf (c_X11_wrong l _ _ _) (fun r9 hf => ?_)
              refine wk_goto X 100 dX11_readsRow_81 (by decide) ?_
              exact wq_sub [0, 1] rfl (w_X11_readsRow_100 X k17 hk17 _ _ _ hf)
          · exact wq_sub [0, 1] rfl (w_X11_readsRow_57 X k17 hk17 _ _ _ hf)
      · refine wk_aload_n X dX11_readsRow_36 0 rfl ?_
        refine wk_iconst X dX11_readsRow_37 ic_1 ?_
        refine wk_callVv X [.int 1] [] dX11_readsRow_38 rfl vo_X11_150 rfl (by decide) (Nat.le_of_ble_eq_true rfl) hf (c_X11_wrong l _ _ _) (fun r10 hf => ?_)
        refine wk_goto X 100 dX11_readsRow_41 (by decide) ?_
        exact wq_sub [0, 1] rfl (w_X11_readsRow_100 X k17 hk17 _ _ _ hf)
def l_X11_readsRow_17 (x0 : Nat) (x1 : Int32) (x2 : Int32) (h : hp_H) : Option (hp_H) := lp (fun k (s : Nat × Int32 × Int32 × hp_H) => f_X11_readsRow_17  (fun a0 a1 a2 a3 => k (a0, a1, a2, a3)) s.1 s.2.1 s.2.2.1 s.2.2.2) 100000 (x0, x1, x2, h)
theorem wl_X11_readsRow_17 (X : wx G p s m args meth c cX11_readsRow 3 RX11 none) (x0 : Nat) (x1 : Int32) (x2 : Int32) (h : hp_H) (hf : l_X11_readsRow_17 x0 x1 x2 h = some o) : wq p l e (mt_R (3) 0 0) s m args below meth c (MQ below (mt_Q G none o) args s 0 0 (hp_A G)) G 3 0 0 17 [(0, .ref x0), (1, .int x1), (2, .int x2)] [] h :=
  lp_ind (P := fun (s_ : Nat × Int32 × Int32 × hp_H) => wq p l e (mt_R (3) 0 0) s m args below meth c (MQ below (mt_Q G none o) args s 0 0 (hp_A G)) G 3 0 0 17 [(0, .ref s_.1), (1, .int s_.2.1), (2, .int s_.2.2.1)] [] s_.2.2.2) (fun k s hk hf => w_X11_readsRow_17 X  (fun a0 a1 a2 a3 => k (a0, a1, a2, a3)) (fun a0 a1 a2 a3 hf => hk (a0, a1, a2, a3) hf) s.1 s.2.1 s.2.2.1 s.2.2.2 hf) 100000 (x0, x1, x2, h) hf
end Sf_X11_readsRow
def f_X11_readsRow (x0 : Nat) (h : hp_H) : Option (hp_H) := gd h x0 11 ((rd_R h x0 11 32).bind fun v1 => (rd_I h x0 11 24).bind fun v2 => (wr_A h v1 (25 + v2) 0).bind fun h3 => l_X11_readsRow_17 x0 0 1 h3)
set_option maxRecDepth 20000 in
theorem c_X11_readsRow (l : Launch) (x0 : Nat) (h : hp_H) (r : hp_H) (hf : f_X11_readsRow x0 h = some r) : cv l (3) yX11_readsRow cX11_readsRow 3 none 11 x0 [] h none r := by
  unfold f_X11_readsRow at hf
  refine cv_of (lv := [(0, .ref x0)]) hf (by decide +kernel) (Nat.le_of_ble_eq_true rfl) rfl (fun hf p e s m args below meth c G X => ?_)
  refine wk_aload_n X dX11_readsRow_0 0 rfl ?_
  refine wk_getR X dX11_readsRow_1 fo_X11_38 hf (fun v1 hf => ?_)
  refine wk_bipush X dX11_readsRow_4 ib_25 ?_
  refine wk_aload_n X dX11_readsRow_6 0 rfl ?_
  refine wk_getI X dX11_readsRow_7 fo_X11_207 hf (fun v2 hf => ?_)
  refine wk_iadd X dX11_readsRow_10 ?_
  refine wk_iconst X dX11_readsRow_11 ic_0 ?_
  refine wk_iast X dX11_readsRow_12 hf (fun h3 hf => ?_)
  refine wk_iconst X dX11_readsRow_13 ic_0 ?_
  refine wk_istore_n (lv' := [(1, .int 0), (0, .ref x0)]) X dX11_readsRow_14 (by decide) rfl ?_
  refine wk_iconst X dX11_readsRow_15 ic_1 ?_
  refine wk_istore_n (lv' := [(2, .int 1), (1, .int 0), (0, .ref x0)]) X dX11_readsRow_16 (by decide) rfl ?_
  exact wq_sub [2, 1, 0] rfl (wl_X11_readsRow_17 X _ _ _ _ hf)
section Sf_X11_readsMud
variable {p : Program} {l : Launch} {e : Env} {s : State} {m : MethodId} {args : Array Value} {below : List Frame} {meth : Method} {c : Code} {G : hp_G} {o : hp_H}
def f_X11_readsMud_88  (h : hp_H) : Option (hp_H) := some h
set_option maxRecDepth 20000 in
theorem w_X11_readsMud_88 (X : wx G p s m args meth c cX11_readsMud 3 RX11 none)  (h : hp_H) (hf : f_X11_readsMud_88 h = some o) : wq p l e (mt_R (4) 0 0) s m args below meth c (MQ below (mt_Q G none o) args s 0 0 (hp_A G)) G 3 0 0 88 [] [] h := by
  unfold f_X11_readsMud_88 at hf
  exact wk_return X dX11_readsMud_88 hf
def f_X11_readsMud_84 (k2 : Nat → Int32 → hp_H → Option (hp_H)) (x0 : Nat) (t0 : Int32) (h : hp_H) : Option (hp_H) := k2 x0 t0 h
set_option maxRecDepth 20000 in
theorem w_X11_readsMud_84 (X : wx G p s m args meth c cX11_readsMud 3 RX11 none) (k2 : Nat → Int32 → hp_H → Option (hp_H)) (hk2 : ∀ (x0 : Nat) (x1 : Int32) (h : hp_H), k2 x0 x1 h = some o → wq p l e (mt_R (4) 0 0) s m args below meth c (MQ below (mt_Q G none o) args s 0 0 (hp_A G)) G 3 0 0 2 [(0, .ref x0), (1, .int x1)] [] h) (x0 : Nat) (t0 : Int32) (h : hp_H) (hf : f_X11_readsMud_84 k2 x0 t0 h = some o) : wq p l e (mt_R (4) 0 0) s m args below meth c (MQ below (mt_Q G none o) args s 0 0 (hp_A G)) G 3 0 0 84 [(0, .ref x0)] [.int t0] h := by
  unfold f_X11_readsMud_84 at hf
  refine wk_istore_n (lv' := [(1, .int t0), (0, .ref x0)]) X dX11_readsMud_84 (by decide) rfl ?_
  refine wk_goto X 2 dX11_readsMud_85 (by decide) ?_
  exact wq_sub [1, 0] rfl (hk2 _ _ _ hf)
def f_X11_readsMud_35 (k2 : Nat → Int32 → hp_H → Option (hp_H)) (x0 : Nat) (h : hp_H) : Option (hp_H) := (f_X11_number x0 0 9 h).bind fun r1 => (f_X11_isGood x0 r1.2).bind fun r2 => if r2.1 = 0 then (some r2.2) else ((rd_R r2.2 x0 11 31).bind fun v3 => (rd_I r2.2 x0 11 25).bind fun v4 => (wr_A r2.2 v3 v4 r1.1).bind fun h5 => (rd_I h5 x0 11 25).bind fun v6 => (wr_I h5 x0 11 25 (v6 + 1)).bind fun h7 => (rd_I h7 x0 11 16).bind fun v8 => if v8 = 2 then (f_X11_readsMud_84 k2 x0 1 h7) else (f_X11_readsMud_84 k2 x0 0 h7))
set_option maxRecDepth 20000 in
theorem w_X11_readsMud_35 (X : wx G p s m args meth c cX11_readsMud 3 RX11 none) (k2 : Nat → Int32 → hp_H → Option (hp_H)) (hk2 : ∀ (x0 : Nat) (x1 : Int32) (h : hp_H), k2 x0 x1 h = some o → wq p l e (mt_R (4) 0 0) s m args below meth c (MQ below (mt_Q G none o) args s 0 0 (hp_A G)) G 3 0 0 2 [(0, .ref x0), (1, .int x1)] [] h) (x0 : Nat) (h : hp_H) (hf : f_X11_readsMud_35 k2 x0 h = some o) : wq p l e (mt_R (4) 0 0) s m args below meth c (MQ below (mt_Q G none o) args s 0 0 (hp_A G)) G 3 0 0 35 [(0, .ref x0)] [] h := by
  unfold f_X11_readsMud_35 at hf
  refine wk_aload_n X dX11_readsMud_35 0 rfl ?_
  refine wk_iconst X dX11_readsMud_36 ic_0 ?_
  refine wk_bipush X dX11_readsMud_37 ib_9 ?_
  refine wk_callVi X [.int 0, .int 9] [] dX11_readsMud_39 rfl vo_X11_203 rfl (by decide) (Nat.le_of_ble_eq_true rfl) hf (c_X11_number l _ _ _ _) (fun r1 hf => ?_)
  refine wk_istore_n (lv' := [(2, .int r1.1), (0, .ref x0)]) X dX11_readsMud_42 (by decide) rfl ?_
  refine wk_aload_n X dX11_readsMud_43 1 rfl ?_
  refine wk_callVi X [] [] dX11_readsMud_44 rfl vo_X11_143 rfl (by decide) (Nat.le_of_ble_eq_true rfl) hf (c_X11_isGood l _ _) (fun r2 hf => ?_)
  refine wk_if_ne X 51 dX11_readsMud_47 (by decide) hf (fun hf => ?_) (fun hf => ?_)
  · refine wk_aload_n X dX11_readsMud_51 1 rfl ?_
    refine wk_getR X dX11_readsMud_52 fo_X11_35 hf (fun v3 hf => ?_)
    refine wk_aload_n X dX11_readsMud_55 1 rfl ?_
    refine wk_getI X dX11_readsMud_56 fo_X11_213 hf (fun v4 hf => ?_)
    refine wk_iload_n X dX11_readsMud_59 0 rfl ?_
    refine wk_iast X dX11_readsMud_60 hf (fun h5 hf => ?_)
    refine wk_aload_n X dX11_readsMud_61 1 rfl ?_
    refine wk_dup X dX11_readsMud_62 rfl ?_
    refine wk_getI X dX11_readsMud_63 fo_X11_213 hf (fun v6 hf => ?_)
    refine wk_iconst X dX11_readsMud_66 ic_1 ?_
    refine wk_iadd X dX11_readsMud_67 ?_
    refine wk_putI X dX11_readsMud_68 fo_X11_213 hf (fun h7 hf => ?_)
    refine wk_aload_n X dX11_readsMud_71 1 rfl ?_
    refine wk_getI X dX11_readsMud_72 fo_X11_117 hf (fun v8 hf => ?_)
    refine wk_iconst X dX11_readsMud_75 ic_2 ?_
    refine wk_icmp_ne X 83 dX11_readsMud_76 (by decide) hf (fun hf => ?_) (fun hf => ?_)
    · refine wk_iconst X dX11_readsMud_83 ic_0 ?_
      exact wq_sub [1] rfl (w_X11_readsMud_84 X k2 hk2 _ _ _ hf)
    · refine wk_iconst X dX11_readsMud_79 ic_1 ?_
      refine wk_goto X 84 dX11_readsMud_80 (by decide) ?_
      exact wq_sub [1] rfl (w_X11_readsMud_84 X k2 hk2 _ _ _ hf)
  · exact wk_return X dX11_readsMud_50 hf
def f_X11_readsMud_2 (k2 : Nat → Int32 → hp_H → Option (hp_H)) (x0 : Nat) (x1 : Int32) (h : hp_H) : Option (hp_H) := if x1 = 0 then (f_X11_readsMud_88 h) else ((f_X11_isGood x0 h).bind fun r1 => if r1.1 = 0 then (f_X11_readsMud_88 r1.2) else ((rd_I r1.2 x0 11 25).bind fun v2 => if v2 = 8 then ((rd_I r1.2 x0 11 16).bind fun v3 => if v3 = 2 then ((f_X11_wrong x0 2 r1.2).bind fun r4 => f_X11_readsMud_35 k2 x0 r4) else (f_X11_readsMud_35 k2 x0 r1.2)) else (f_X11_readsMud_35 k2 x0 r1.2)))
set_option maxRecDepth 20000 in
theorem w_X11_readsMud_2 (X : wx G p s m args meth c cX11_readsMud 3 RX11 none) (k2 : Nat → Int32 → hp_H → Option (hp_H)) (hk2 : ∀ (x0 : Nat) (x1 : Int32) (h : hp_H), k2 x0 x1 h = some o → wq p l e (mt_R (4) 0 0) s m args below meth c (MQ below (mt_Q G none o) args s 0 0 (hp_A G)) G 3 0 0 2 [(0, .ref x0), (1, .int x1)] [] h) (x0 : Nat) (x1 : Int32) (h : hp_H) (hf : f_X11_readsMud_2 k2 x0 x1 h = some o) : wq p l e (mt_R (4) 0 0) s m args below meth c (MQ below (mt_Q G none o) args s 0 0 (hp_A G)) G 3 0 0 2 [(0, .ref x0), (1, .int x1)] [] h := by
  unfold f_X11_readsMud_2 at hf
  refine wk_iload_n X dX11_readsMud_2 1 rfl ?_
  refine wk_if_eq X 88 dX11_readsMud_3 (by decide) hf (fun hf => ?_) (fun hf => ?_)
  · exact wq_sub [] rfl (w_X11_readsMud_88 X _ hf)
  · refine wk_aload_n X dX11_readsMud_6 0 rfl ?_
    refine wk_callVi X [] [] dX11_readsMud_7 rfl vo_X11_143 rfl (by decide) (Nat.le_of_ble_eq_true rfl) hf (c_X11_isGood l _ _) (fun r1 hf => ?_)
    refine wk_if_eq X 88 dX11_readsMud_10 (by decide) hf (fun hf => ?_) (fun hf => ?_)
    · exact wq_sub [] rfl (w_X11_readsMud_88 X _ hf)
    · refine wk_aload_n X dX11_readsMud_13 0 rfl ?_
      refine wk_getI X dX11_readsMud_14 fo_X11_213 hf (fun v2 hf => ?_)
      refine wk_bipush X dX11_readsMud_17 ib_8 ?_
      refine wk_icmp_ne X 35 dX11_readsMud_19 (by decide) hf (fun hf => ?_) (fun hf => ?_)
      · exact wq_sub [0] rfl (w_X11_readsMud_35 X k2 hk2 _ _ hf)
      · refine wk_aload_n X dX11_readsMud_22 0 rfl ?_
        refine wk_getI X dX11_readsMud_23 fo_X11_117 hf (fun v3 hf => ?_)
        refine wk_iconst X dX11_readsMud_26 ic_2 ?_
        refine wk_icmp_ne X 35 dX11_readsMud_27 (by decide) hf (fun hf => ?_) (fun hf => ?_)
        · exact wq_sub [0] rfl (w_X11_readsMud_35 X k2 hk2 _ _ hf)
        · refine wk_aload_n X dX11_readsMud_30 0 rfl ?_
          refine wk_iconst X dX11_readsMud_31 ic_2 ?_
          refine wk_callVv X [.int 2] [] dX11_readsMud_32 rfl vo_X11_150 rfl (by decide) (Nat.le_of_ble_eq_true rfl) hf (c_X11_wrong l _ _ _) (fun r4 hf => ?_)
          exact wq_sub [0] rfl (w_X11_readsMud_35 X k2 hk2 _ _ hf)
def l_X11_readsMud_2 (x0 : Nat) (x1 : Int32) (h : hp_H) : Option (hp_H) := lp (fun k (s : Nat × Int32 × hp_H) => f_X11_readsMud_2  (fun a0 a1 a2 => k (a0, a1, a2)) s.1 s.2.1 s.2.2) 100000 (x0, x1, h)
theorem wl_X11_readsMud_2 (X : wx G p s m args meth c cX11_readsMud 3 RX11 none) (x0 : Nat) (x1 : Int32) (h : hp_H) (hf : l_X11_readsMud_2 x0 x1 h = some o) : wq p l e (mt_R (4) 0 0) s m args below meth c (MQ below (mt_Q G none o) args s 0 0 (hp_A G)) G 3 0 0 2 [(0, .ref x0), (1, .int x1)] [] h :=
  lp_ind (P := fun (s_ : Nat × Int32 × hp_H) => wq p l e (mt_R (4) 0 0) s m args below meth c (MQ below (mt_Q G none o) args s 0 0 (hp_A G)) G 3 0 0 2 [(0, .ref s_.1), (1, .int s_.2.1)] [] s_.2.2) (fun k s hk hf => w_X11_readsMud_2 X  (fun a0 a1 a2 => k (a0, a1, a2)) (fun a0 a1 a2 hf => hk (a0, a1, a2) hf) s.1 s.2.1 s.2.2 hf) 100000 (x0, x1, h) hf
end Sf_X11_readsMud
def f_X11_readsMud (x0 : Nat) (h : hp_H) : Option (hp_H) := gd h x0 11 (l_X11_readsMud_2 x0 1 h)
set_option maxRecDepth 20000 in
theorem c_X11_readsMud (l : Launch) (x0 : Nat) (h : hp_H) (r : hp_H) (hf : f_X11_readsMud x0 h = some r) : cv l (4) yX11_readsMud cX11_readsMud 3 none 11 x0 [] h none r := by
  unfold f_X11_readsMud at hf
  refine cv_of (lv := [(0, .ref x0)]) hf (by decide +kernel) (Nat.le_of_ble_eq_true rfl) rfl (fun hf p e s m args below meth c G X => ?_)
  refine wk_iconst X dX11_readsMud_0 ic_1 ?_
  refine wk_istore_n (lv' := [(1, .int 1), (0, .ref x0)]) X dX11_readsMud_1 (by decide) rfl ?_
  exact wq_sub [1, 0] rfl (wl_X11_readsMud_2 X _ _ _ hf)
section Sf_X11_line
variable {p : Program} {l : Launch} {e : Env} {s : State} {m : MethodId} {args : Array Value} {below : List Frame} {meth : Method} {c : Code} {G : hp_G} {o : hp_H}
def f_X11_line_236 (x0 : Nat) (h : hp_H) : Option (hp_H) := (f_X11_isSign x0 59 h).bind fun r1 => (f_X11_need x0 r1.1 r1.2).bind fun r2 => some r2
set_option maxRecDepth 20000 in
theorem w_X11_line_236 (X : wx G p s m args meth c cX11_line 2 RX11 none) (x0 : Nat) (h : hp_H) (hf : f_X11_line_236 x0 h = some o) : wq p l e (mt_R (7) 0 0) s m args below meth c (MQ below (mt_Q G none o) args s 0 0 (hp_A G)) G 2 0 0 236 [(0, .ref x0)] [] h := by
  unfold f_X11_line_236 at hf
  refine wk_aload_n X dX11_line_236 0 rfl ?_
  refine wk_aload_n X dX11_line_237 0 rfl ?_
  refine wk_bipush X dX11_line_238 ib_59 ?_
  refine wk_callVi X [.int 59] [.ref x0] dX11_line_240 rfl vo_X11_175 rfl (by decide) (Nat.le_of_ble_eq_true rfl) hf (c_X11_isSign l _ _ _) (fun r1 hf => ?_)
  refine wk_callVv X [.int r1.1] [] dX11_line_243 rfl vo_X11_241 rfl (by decide) (Nat.le_of_ble_eq_true rfl) hf (c_X11_need l _ _ _) (fun r2 hf => ?_)
  exact wk_return X dX11_line_246 hf
def f_X11_line_210 (x0 : Nat) (t0 : Nat) (t1 : Int32) (t2 : Int32) (h : hp_H) : Option (hp_H) := (f_X11_begins t0 t1 t2 h).bind fun r1 => if r1.1 = 0 then (f_X11_line_236 x0 r1.2) else ((rd_I r1.2 x0 11 28).bind fun v2 => (wr_I r1.2 x0 11 27 v2).bind fun h3 => (f_X11_expression x0 h3).bind fun r4 => f_X11_line_236 x0 r4)
set_option maxRecDepth 20000 in
theorem w_X11_line_210 (X : wx G p s m args meth c cX11_line 2 RX11 none) (x0 : Nat) (t0 : Nat) (t1 : Int32) (t2 : Int32) (h : hp_H) (hf : f_X11_line_210 x0 t0 t1 t2 h = some o) : wq p l e (mt_R (7) 0 0) s m args below meth c (MQ below (mt_Q G none o) args s 0 0 (hp_A G)) G 2 0 0 210 [(0, .ref x0)] [.int t2, .int t1, .ref t0] h := by
  unfold f_X11_line_210 at hf
  refine wk_callVi X [.int t1, .int t2] [] dX11_line_210 rfl vo_X11_219 rfl (by decide) (Nat.le_of_ble_eq_true rfl) hf (c_X11_begins l _ _ _ _) (fun r1 hf => ?_)
  refine wk_if_eq X 236 dX11_line_213 (by decide) hf (fun hf => ?_) (fun hf => ?_)
  · exact wq_sub [0] rfl (w_X11_line_236 X _ _ hf)
  · refine wk_aload_n X dX11_line_216 0 rfl ?_
    refine wk_aload_n X dX11_line_217 0 rfl ?_
    refine wk_getI X dX11_line_218 fo_X11_153 hf (fun v2 hf => ?_)
    refine wk_putI X dX11_line_221 fo_X11_235 hf (fun h3 hf => ?_)
    refine wk_aload_n X dX11_line_224 0 rfl ?_
    refine wk_callVv X [] [] dX11_line_225 rfl vo_X11_238 rfl (by decide) (Nat.le_of_ble_eq_true rfl) hf (c_X11_expression l _ _) (fun r4 hf => ?_)
    refine wk_goto X 236 dX11_line_228 (by decide) ?_
    exact wq_sub [0] rfl (w_X11_line_236 X _ _ hf)
def f_X11_line_169 (x0 : Nat) (t0 : Nat) (t1 : Int32) (t2 : Int32) (h : hp_H) : Option (hp_H) := (f_X11_begins t0 t1 t2 h).bind fun r1 => if r1.1 = 0 then (f_X11_line_236 x0 r1.2) else ((f_X11_number x0 0 12 r1.2).bind fun r2 => (wr_I r2.2 x0 11 26 r2.1).bind fun h3 => f_X11_line_236 x0 h3)
set_option maxRecDepth 20000 in
theorem w_X11_line_169 (X : wx G p s m args meth c cX11_line 2 RX11 none) (x0 : Nat) (t0 : Nat) (t1 : Int32) (t2 : Int32) (h : hp_H) (hf : f_X11_line_169 x0 t0 t1 t2 h = some o) : wq p l e (mt_R (7) 0 0) s m args below meth c (MQ below (mt_Q G none o) args s 0 0 (hp_A G)) G 2 0 0 169 [(0, .ref x0)] [.int t2, .int t1, .ref t0] h := by
  unfold f_X11_line_169 at hf
  refine wk_callVi X [.int t1, .int t2] [] dX11_line_169 rfl vo_X11_219 rfl (by decide) (Nat.le_of_ble_eq_true rfl) hf (c_X11_begins l _ _ _ _) (fun r1 hf => ?_)
  refine wk_if_eq X 236 dX11_line_172 (by decide) hf (fun hf => ?_) (fun hf => ?_)
  · exact wq_sub [0] rfl (w_X11_line_236 X _ _ hf)
  · refine wk_aload_n X dX11_line_175 0 rfl ?_
    refine wk_aload_n X dX11_line_176 0 rfl ?_
    refine wk_iconst X dX11_line_177 ic_0 ?_
    refine wk_bipush X dX11_line_178 ib_12 ?_
    refine wk_callVi X [.int 0, .int 12] [.ref x0] dX11_line_180 rfl vo_X11_203 rfl (by decide) (Nat.le_of_ble_eq_true rfl) hf (c_X11_number l _ _ _ _) (fun r2 hf => ?_)
    refine wk_putI X dX11_line_183 fo_X11_232 hf (fun h3 hf => ?_)
    refine wk_goto X 236 dX11_line_186 (by decide) ?_
    exact wq_sub [0] rfl (w_X11_line_236 X _ _ hf)
def f_X11_line_135 (x0 : Nat) (t0 : Nat) (t1 : Int32) (t2 : Int32) (h : hp_H) : Option (hp_H) := (f_X11_begins t0 t1 t2 h).bind fun r1 => if r1.1 = 0 then (f_X11_line_236 x0 r1.2) else ((f_X11_readsMud x0 r1.2).bind fun r2 => f_X11_line_236 x0 r2)
set_option maxRecDepth 20000 in
theorem w_X11_line_135 (X : wx G p s m args meth c cX11_line 2 RX11 none) (x0 : Nat) (t0 : Nat) (t1 : Int32) (t2 : Int32) (h : hp_H) (hf : f_X11_line_135 x0 t0 t1 t2 h = some o) : wq p l e (mt_R (7) 0 0) s m args below meth c (MQ below (mt_Q G none o) args s 0 0 (hp_A G)) G 2 0 0 135 [(0, .ref x0)] [.int t2, .int t1, .ref t0] h := by
  unfold f_X11_line_135 at hf
  refine wk_callVi X [.int t1, .int t2] [] dX11_line_135 rfl vo_X11_219 rfl (by decide) (Nat.le_of_ble_eq_true rfl) hf (c_X11_begins l _ _ _ _) (fun r1 hf => ?_)
  refine wk_if_eq X 236 dX11_line_138 (by decide) hf (fun hf => ?_) (fun hf => ?_)
  · exact wq_sub [0] rfl (w_X11_line_236 X _ _ hf)
  · refine wk_aload_n X dX11_line_141 0 rfl ?_
    refine wk_callVv X [] [] dX11_line_142 rfl vo_X11_229 rfl (by decide) (Nat.le_of_ble_eq_true rfl) hf (c_X11_readsMud l _ _) (fun r2 hf => ?_)
    refine wk_goto X 236 dX11_line_145 (by decide) ?_
    exact wq_sub [0] rfl (w_X11_line_236 X _ _ hf)
def f_X11_line_102 (x0 : Nat) (t0 : Nat) (t1 : Int32) (h : hp_H) : Option (hp_H) := (f_X11_begins t0 t1 0 h).bind fun r1 => if r1.1 = 0 then (f_X11_line_236 x0 r1.2) else ((f_X11_readsRow x0 r1.2).bind fun r2 => f_X11_line_236 x0 r2)
set_option maxRecDepth 20000 in
theorem w_X11_line_102 (X : wx G p s m args meth c cX11_line 2 RX11 none) (x0 : Nat) (t0 : Nat) (t1 : Int32) (h : hp_H) (hf : f_X11_line_102 x0 t0 t1 h = some o) : wq p l e (mt_R (7) 0 0) s m args below meth c (MQ below (mt_Q G none o) args s 0 0 (hp_A G)) G 2 0 0 102 [(0, .ref x0)] [.int t1, .ref t0] h := by
  unfold f_X11_line_102 at hf
  refine wk_iconst X dX11_line_102 ic_0 ?_
  refine wk_callVi X [.int t1, .int 0] [] dX11_line_103 rfl vo_X11_219 rfl (by decide) (Nat.le_of_ble_eq_true rfl) hf (c_X11_begins l _ _ _ _) (fun r1 hf => ?_)
  refine wk_if_eq X 236 dX11_line_106 (by decide) hf (fun hf => ?_) (fun hf => ?_)
  · exact wq_sub [0] rfl (w_X11_line_236 X _ _ hf)
  · refine wk_aload_n X dX11_line_109 0 rfl ?_
    refine wk_callVv X [] [] dX11_line_110 rfl vo_X11_226 rfl (by decide) (Nat.le_of_ble_eq_true rfl) hf (c_X11_readsRow l _ _) (fun r2 hf => ?_)
    refine wk_goto X 236 dX11_line_113 (by decide) ?_
    exact wq_sub [0] rfl (w_X11_line_236 X _ _ hf)
def f_X11_line_67 (x0 : Nat) (t0 : Nat) (t1 : Int32) (h : hp_H) : Option (hp_H) := (f_X11_begins t0 t1 0 h).bind fun r1 => if r1.1 = 0 then (f_X11_line_236 x0 r1.2) else ((f_X11_readsMan x0 r1.2).bind fun r2 => f_X11_line_236 x0 r2)
set_option maxRecDepth 20000 in
theorem w_X11_line_67 (X : wx G p s m args meth c cX11_line 2 RX11 none) (x0 : Nat) (t0 : Nat) (t1 : Int32) (h : hp_H) (hf : f_X11_line_67 x0 t0 t1 h = some o) : wq p l e (mt_R (7) 0 0) s m args below meth c (MQ below (mt_Q G none o) args s 0 0 (hp_A G)) G 2 0 0 67 [(0, .ref x0)] [.int t1, .ref t0] h := by
  unfold f_X11_line_67 at hf
  refine wk_iconst X dX11_line_67 ic_0 ?_
  refine wk_callVi X [.int t1, .int 0] [] dX11_line_68 rfl vo_X11_219 rfl (by decide) (Nat.le_of_ble_eq_true rfl) hf (c_X11_begins l _ _ _ _) (fun r1 hf => ?_)
  refine wk_if_eq X 236 dX11_line_71 (by decide) hf (fun hf => ?_) (fun hf => ?_)
  · exact wq_sub [0] rfl (w_X11_line_236 X _ _ hf)
  · refine wk_aload_n X dX11_line_74 0 rfl ?_
    refine wk_callVv X [] [] dX11_line_75 rfl vo_X11_223 rfl (by decide) (Nat.le_of_ble_eq_true rfl) hf (c_X11_readsMan l _ _) (fun r2 hf => ?_)
    refine wk_goto X 236 dX11_line_78 (by decide) ?_
    exact wq_sub [0] rfl (w_X11_line_236 X _ _ hf)
def f_X11_line_26 (x0 : Nat) (t0 : Nat) (t1 : Int32) (t2 : Int32) (h : hp_H) : Option (hp_H) := (f_X11_begins t0 t1 t2 h).bind fun r1 => if r1.1 = 0 then (f_X11_line_236 x0 r1.2) else ((f_X11_number x0 4 12 r1.2).bind fun r2 => (wr_I r2.2 x0 11 22 r2.1).bind fun h3 => f_X11_line_236 x0 h3)
set_option maxRecDepth 20000 in
theorem w_X11_line_26 (X : wx G p s m args meth c cX11_line 2 RX11 none) (x0 : Nat) (t0 : Nat) (t1 : Int32) (t2 : Int32) (h : hp_H) (hf : f_X11_line_26 x0 t0 t1 t2 h = some o) : wq p l e (mt_R (7) 0 0) s m args below meth c (MQ below (mt_Q G none o) args s 0 0 (hp_A G)) G 2 0 0 26 [(0, .ref x0)] [.int t2, .int t1, .ref t0] h := by
  unfold f_X11_line_26 at hf
  refine wk_callVi X [.int t1, .int t2] [] dX11_line_26 rfl vo_X11_219 rfl (by decide) (Nat.le_of_ble_eq_true rfl) hf (c_X11_begins l _ _ _ _) (fun r1 hf => ?_)
  refine wk_if_eq X 236 dX11_line_29 (by decide) hf (fun hf => ?_) (fun hf => ?_)
  · exact wq_sub [0] rfl (w_X11_line_236 X _ _ hf)
  · refine wk_aload_n X dX11_line_32 0 rfl ?_
    refine wk_aload_n X dX11_line_33 0 rfl ?_
    refine wk_iconst X dX11_line_34 ic_4 ?_
    refine wk_bipush X dX11_line_35 ib_12 ?_
    refine wk_callVi X [.int 4, .int 12] [.ref x0] dX11_line_37 rfl vo_X11_203 rfl (by decide) (Nat.le_of_ble_eq_true rfl) hf (c_X11_number l _ _ _ _) (fun r2 hf => ?_)
    refine wk_putI X dX11_line_40 fo_X11_216 hf (fun h3 hf => ?_)
    refine wk_goto X 236 dX11_line_43 (by decide) ?_
    exact wq_sub [0] rfl (w_X11_line_236 X _ _ hf)
end Sf_X11_line
def f_X11_line (x0 : Nat) (h : hp_H) : Option (hp_H) := gd h x0 11 ((f_X11_knownWord x0 h).bind fun r1 => if r1.1 = 6 then ((rd_I r1.2 x0 11 22).bind fun v8 => if v8 = (-1) then (f_X11_line_26 x0 x0 0 0 r1.2) else (f_X11_line_26 x0 x0 0 1 r1.2)) else (if r1.1 = 7 then ((rd_I r1.2 x0 11 23).bind fun v7 => if v7 = 8 then (f_X11_line_67 x0 x0 1 r1.2) else (f_X11_line_67 x0 x0 0 r1.2)) else (if r1.1 = 8 then ((rd_I r1.2 x0 11 24).bind fun v6 => if v6 = 8 then (f_X11_line_102 x0 x0 1 r1.2) else (f_X11_line_102 x0 x0 0 r1.2)) else (if r1.1 = 2 then ((rd_I r1.2 x0 11 25).bind fun v5 => if v5 ≤ 0 then (f_X11_line_135 x0 x0 0 0 r1.2) else (f_X11_line_135 x0 x0 0 1 r1.2)) else (if r1.1 = 9 then ((rd_I r1.2 x0 11 26).bind fun v4 => if v4 = (-1) then (f_X11_line_169 x0 x0 0 0 r1.2) else (f_X11_line_169 x0 x0 0 1 r1.2)) else (if r1.1 = 10 then ((rd_I r1.2 x0 11 27).bind fun v3 => if v3 = (-1) then (f_X11_line_210 x0 x0 0 0 r1.2) else (f_X11_line_210 x0 x0 0 1 r1.2)) else ((f_X11_wrong x0 1 r1.2).bind fun r2 => f_X11_line_236 x0 r2)))))))
set_option maxRecDepth 20000 in
theorem c_X11_line (l : Launch) (x0 : Nat) (h : hp_H) (r : hp_H) (hf : f_X11_line x0 h = some r) : cv l (7) yX11_line cX11_line 2 none 11 x0 [] h none r := by
  unfold f_X11_line at hf
  refine cv_of (lv := [(0, .ref x0)]) hf (by decide +kernel) (Nat.le_of_ble_eq_true rfl) rfl (fun hf p e s m args below meth c G X => ?_)
  refine wk_aload_n X dX11_line_0 0 rfl ?_
  refine wk_callVi X [] [] dX11_line_1 rfl vo_X11_168 rfl (by decide) (Nat.le_of_ble_eq_true rfl) hf (c_X11_knownWord l _ _) (fun r1 hf => ?_)
  refine wk_istore_n (lv' := [(1, .int r1.1), (0, .ref x0)]) X dX11_line_4 (by decide) rfl ?_
  refine wk_iload_n X dX11_line_5 0 rfl ?_
  refine wk_bipush X dX11_line_6 ib_6 ?_
  refine wk_icmp_ne X 46 dX11_line_8 (by decide) hf (fun hf => ?_) (fun hf => ?_)
  · refine wk_iload_n X dX11_line_46 0 rfl ?_
    refine wk_bipush X dX11_line_47 ib_7 ?_
    refine wk_icmp_ne X 81 dX11_line_49 (by decide) hf (fun hf => ?_) (fun hf => ?_)
    · refine wk_iload_n X dX11_line_81 0 rfl ?_
      refine wk_bipush X dX11_line_82 ib_8 ?_
      refine wk_icmp_ne X 116 dX11_line_84 (by decide) hf (fun hf => ?_) (fun hf => ?_)
      · refine wk_iload_n X dX11_line_116 0 rfl ?_
        refine wk_iconst X dX11_line_117 ic_2 ?_
        refine wk_icmp_ne X 148 dX11_line_118 (by decide) hf (fun hf => ?_) (fun hf => ?_)
        · refine wk_iload_n X dX11_line_148 0 rfl ?_
          refine wk_bipush X dX11_line_149 ib_9 ?_
          refine wk_icmp_ne X 189 dX11_line_151 (by decide) hf (fun hf => ?_) (fun hf => ?_)
          · refine wk_iload_n X dX11_line_189 0 rfl ?_
            refine wk_bipush X dX11_line_190 ib_10 ?_
            refine wk_icmp_ne X 231 dX11_line_192 (by decide) hf (fun hf => ?_) (fun hf => ?_)
            · refine wk_aload_n X dX11_line_231 1 rfl ?_
              refine wk_iconst X dX11_line_232 ic_1 ?_
              refine wk_callVv X [.int 1] [] dX11_line_233 rfl vo_X11_150 rfl (by decide) (Nat.le_of_ble_eq_true rfl) hf (c_X11_wrong l _ _ _) (fun r2 hf => ?_)
              exact wq_sub [1] rfl (w_X11_line_236 X _ _ hf)
            · refine wk_aload_n X dX11_line_195 1 rfl ?_
              refine wk_iconst X dX11_line_196 ic_0 ?_
              refine wk_aload_n X dX11_line_197 1 rfl ?_
              refine wk_getI X dX11_line_198 fo_X11_235 hf (fun v3 hf => ?_)
              refine wk_iconst X dX11_line_201 ic_m1 ?_
              refine wk_icmp_eq X 209 dX11_line_202 (by decide) hf (fun hf => ?_) (fun hf => ?_)
              · refine wk_iconst X dX11_line_209 ic_0 ?_
                exact wq_sub [1] rfl (w_X11_line_210 X _ _ _ _ _ hf)
              · refine wk_iconst X dX11_line_205 ic_1 ?_
                refine wk_goto X 210 dX11_line_206 (by decide) ?_
                exact wq_sub [1] rfl (w_X11_line_210 X _ _ _ _ _ hf)
          · refine wk_aload_n X dX11_line_154 1 rfl ?_
            refine wk_iconst X dX11_line_155 ic_0 ?_
            refine wk_aload_n X dX11_line_156 1 rfl ?_
            refine wk_getI X dX11_line_157 fo_X11_232 hf (fun v4 hf => ?_)
            refine wk_iconst X dX11_line_160 ic_m1 ?_
            refine wk_icmp_eq X 168 dX11_line_161 (by decide) hf (fun hf => ?_) (fun hf => ?_)
            · refine wk_iconst X dX11_line_168 ic_0 ?_
              exact wq_sub [1] rfl (w_X11_line_169 X _ _ _ _ _ hf)
            · refine wk_iconst X dX11_line_164 ic_1 ?_
              refine wk_goto X 169 dX11_line_165 (by decide) ?_
              exact wq_sub [1] rfl (w_X11_line_169 X _ _ _ _ _ hf)
        · refine wk_aload_n X dX11_line_121 1 rfl ?_
          refine wk_iconst X dX11_line_122 ic_0 ?_
          refine wk_aload_n X dX11_line_123 1 rfl ?_
          refine wk_getI X dX11_line_124 fo_X11_213 hf (fun v5 hf => ?_)
          refine wk_if_le X 134 dX11_line_127 (by decide) hf (fun hf => ?_) (fun hf => ?_)
          · refine wk_iconst X dX11_line_134 ic_0 ?_
            exact wq_sub [1] rfl (w_X11_line_135 X _ _ _ _ _ hf)
          · refine wk_iconst X dX11_line_130 ic_1 ?_
            refine wk_goto X 135 dX11_line_131 (by decide) ?_
            exact wq_sub [1] rfl (w_X11_line_135 X _ _ _ _ _ hf)
      · refine wk_aload_n X dX11_line_87 1 rfl ?_
        refine wk_aload_n X dX11_line_88 1 rfl ?_
        refine wk_getI X dX11_line_89 fo_X11_207 hf (fun v6 hf => ?_)
        refine wk_bipush X dX11_line_92 ib_8 ?_
        refine wk_icmp_ne X 101 dX11_line_94 (by decide) hf (fun hf => ?_) (fun hf => ?_)
        · refine wk_iconst X dX11_line_101 ic_0 ?_
          exact wq_sub [1] rfl (w_X11_line_102 X _ _ _ _ hf)
        · refine wk_iconst X dX11_line_97 ic_1 ?_
          refine wk_goto X 102 dX11_line_98 (by decide) ?_
          exact wq_sub [1] rfl (w_X11_line_102 X _ _ _ _ hf)
    · refine wk_aload_n X dX11_line_52 1 rfl ?_
      refine wk_aload_n X dX11_line_53 1 rfl ?_
      refine wk_getI X dX11_line_54 fo_X11_200 hf (fun v7 hf => ?_)
      refine wk_bipush X dX11_line_57 ib_8 ?_
      refine wk_icmp_ne X 66 dX11_line_59 (by decide) hf (fun hf => ?_) (fun hf => ?_)
      · refine wk_iconst X dX11_line_66 ic_0 ?_
        exact wq_sub [1] rfl (w_X11_line_67 X _ _ _ _ hf)
      · refine wk_iconst X dX11_line_62 ic_1 ?_
        refine wk_goto X 67 dX11_line_63 (by decide) ?_
        exact wq_sub [1] rfl (w_X11_line_67 X _ _ _ _ hf)
  · refine wk_aload_n X dX11_line_11 1 rfl ?_
    refine wk_iconst X dX11_line_12 ic_0 ?_
    refine wk_aload_n X dX11_line_13 1 rfl ?_
    refine wk_getI X dX11_line_14 fo_X11_216 hf (fun v8 hf => ?_)
    refine wk_iconst X dX11_line_17 ic_m1 ?_
    refine wk_icmp_eq X 25 dX11_line_18 (by decide) hf (fun hf => ?_) (fun hf => ?_)
    · refine wk_iconst X dX11_line_25 ic_0 ?_
      exact wq_sub [1] rfl (w_X11_line_26 X _ _ _ _ _ hf)
    · refine wk_iconst X dX11_line_21 ic_1 ?_
      refine wk_goto X 26 dX11_line_22 (by decide) ?_
      exact wq_sub [1] rfl (w_X11_line_26 X _ _ _ _ _ hf)
section Sf_X11_army
variable {p : Program} {l : Launch} {e : Env} {s : State} {m : MethodId} {args : Array Value} {below : List Frame} {meth : Method} {c : Code} {G : hp_G} {o : Int32 × hp_H}
def f_X11_army_324 (x0 : Nat) (h : hp_H) : Option (Int32 × hp_H) := (wr_I h x0 11 38 0).bind fun h1 => (wr_I h1 x0 11 45 0).bind fun h2 => (wr_Z h2 x0 11 49 0).bind fun h3 => some (0, h3)
set_option maxRecDepth 20000 in
theorem w_X11_army_324 (X : wx G p s m args meth c cX11_army 3 RX11 (some .int)) (x0 : Nat) (h : hp_H) (hf : f_X11_army_324 x0 h = some o) : wq p l e (mt_R (8) 0 0) s m args below meth c (MQ below (mt_Q G (some (.int o.1)) o.2) args s 0 0 (hp_A G)) G 3 0 0 324 [(0, .ref x0)] [] h := by
  unfold f_X11_army_324 at hf
  refine wk_aload_n X dX11_army_324 0 rfl ?_
  refine wk_iconst X dX11_army_325 ic_0 ?_
  refine wk_putI X dX11_army_326 fo_X11_264 hf (fun h1 hf => ?_)
  refine wk_aload_n X dX11_army_329 0 rfl ?_
  refine wk_iconst X dX11_army_330 ic_0 ?_
  refine wk_putI X dX11_army_331 fo_X11_267 hf (fun h2 hf => ?_)
  refine wk_aload_n X dX11_army_334 0 rfl ?_
  refine wk_iconst X dX11_army_335 ic_0 ?_
  refine wk_putZ X dX11_army_336 fo_X11_270 hf (fun h3 hf => ?_)
  refine wk_iconst X dX11_army_339 ic_0 ?_
  exact wk_ireturn X dX11_army_340 hf
def f_X11_army_285 (k285 : Nat → Int32 → hp_H → Option (Int32 × hp_H)) (x0 : Nat) (x2 : Int32) (h : hp_H) : Option (Int32 × hp_H) := (rd_I h x0 11 2).bind fun v1 => if v1 ≤ x2 then (f_X11_army_324 x0 h) else ((rd_R h x0 11 36).bind fun v2 => (rd_R h x0 11 36).bind fun v3 => (rd_A h 0 v3 (1 + x2)).bind fun v4 => (rd_I h x0 11 1).bind fun v5 => (wr_A h v2 (1 + x2) (v4 &&& ((1 <<< (v5 &&& 31)) - (1 : Int32)))).bind fun h6 => k285 x0 (x2 + 1) h6)
set_option maxRecDepth 20000 in
theorem w_X11_army_285 (X : wx G p s m args meth c cX11_army 3 RX11 (some .int)) (k285 : Nat → Int32 → hp_H → Option (Int32 × hp_H)) (hk285 : ∀ (x0 : Nat) (x2 : Int32) (h : hp_H), k285 x0 x2 h = some o → wq p l e (mt_R (8) 0 0) s m args below meth c (MQ below (mt_Q G (some (.int o.1)) o.2) args s 0 0 (hp_A G)) G 3 0 0 285 [(0, .ref x0), (2, .int x2)] [] h) (x0 : Nat) (x2 : Int32) (h : hp_H) (hf : f_X11_army_285 k285 x0 x2 h = some o) : wq p l e (mt_R (8) 0 0) s m args below meth c (MQ below (mt_Q G (some (.int o.1)) o.2) args s 0 0 (hp_A G)) G 3 0 0 285 [(0, .ref x0), (2, .int x2)] [] h := by
  unfold f_X11_army_285 at hf
  refine wk_iload_n X dX11_army_285 1 rfl ?_
  refine wk_aload_n X dX11_army_286 0 rfl ?_
  refine wk_getI X dX11_army_287 fo_X11_251 hf (fun v1 hf => ?_)
  refine wk_icmp_ge X 324 dX11_army_290 (by decide) hf (fun hf => ?_) (fun hf => ?_)
  · exact wq_sub [0] rfl (w_X11_army_324 X _ _ hf)
  · refine wk_aload_n X dX11_army_293 0 rfl ?_
    refine wk_getR X dX11_army_294 fo_X11_51 hf (fun v2 hf => ?_)
    refine wk_iconst X dX11_army_297 ic_1 ?_
    refine wk_iload_n X dX11_army_298 1 rfl ?_
    refine wk_iadd X dX11_army_299 ?_
    refine wk_aload_n X dX11_army_300 0 rfl ?_
    refine wk_getR X dX11_army_301 fo_X11_51 hf (fun v3 hf => ?_)
    refine wk_iconst X dX11_army_304 ic_1 ?_
    refine wk_iload_n X dX11_army_305 1 rfl ?_
    refine wk_iadd X dX11_army_306 ?_
    refine wk_iald X dX11_army_307 hf (fun v4 hf => ?_)
    refine wk_iconst X dX11_army_308 ic_1 ?_
    refine wk_aload_n X dX11_army_309 0 rfl ?_
    refine wk_getI X dX11_army_310 fo_X11_7 hf (fun v5 hf => ?_)
    refine wk_ishl X dX11_army_313 ?_
    refine wk_iconst X dX11_army_314 ic_1 ?_
    refine wk_isub X dX11_army_315 ?_
    refine wk_iand X dX11_army_316 ?_
    refine wk_iast X dX11_army_317 hf (fun h6 hf => ?_)
    refine wk_iinc (lv' := [(2, .int (x2 + 1)), (0, .ref x0)]) X dX11_army_318 1 rfl ic_1 (by decide) rfl ?_
    refine wk_goto X 285 dX11_army_321 (by decide) ?_
    exact wq_sub [1, 0] rfl (hk285 _ _ _ hf)
def l_X11_army_285 (x0 : Nat) (x2 : Int32) (h : hp_H) : Option (Int32 × hp_H) := lp (fun k (s : Nat × Int32 × hp_H) => f_X11_army_285  (fun a0 a1 a2 => k (a0, a1, a2)) s.1 s.2.1 s.2.2) 100000 (x0, x2, h)
theorem wl_X11_army_285 (X : wx G p s m args meth c cX11_army 3 RX11 (some .int)) (x0 : Nat) (x2 : Int32) (h : hp_H) (hf : l_X11_army_285 x0 x2 h = some o) : wq p l e (mt_R (8) 0 0) s m args below meth c (MQ below (mt_Q G (some (.int o.1)) o.2) args s 0 0 (hp_A G)) G 3 0 0 285 [(0, .ref x0), (2, .int x2)] [] h :=
  lp_ind (P := fun (s_ : Nat × Int32 × hp_H) => wq p l e (mt_R (8) 0 0) s m args below meth c (MQ below (mt_Q G (some (.int o.1)) o.2) args s 0 0 (hp_A G)) G 3 0 0 285 [(0, .ref s_.1), (2, .int s_.2.1)] [] s_.2.2) (fun k s hk hf => w_X11_army_285 X  (fun a0 a1 a2 => k (a0, a1, a2)) (fun a0 a1 a2 hf => hk (a0, a1, a2) hf) s.1 s.2.1 s.2.2 hf) 100000 (x0, x2, h) hf
def f_X11_army_283 (x0 : Nat) (h : hp_H) : Option (Int32 × hp_H) := l_X11_army_285 x0 0 h
set_option maxRecDepth 20000 in
theorem w_X11_army_283 (X : wx G p s m args meth c cX11_army 3 RX11 (some .int)) (x0 : Nat) (h : hp_H) (hf : f_X11_army_283 x0 h = some o) : wq p l e (mt_R (8) 0 0) s m args below meth c (MQ below (mt_Q G (some (.int o.1)) o.2) args s 0 0 (hp_A G)) G 3 0 0 283 [(0, .ref x0)] [] h := by
  unfold f_X11_army_283 at hf
  refine wk_iconst X dX11_army_283 ic_0 ?_
  refine wk_istore_n (lv' := [(2, .int 0), (0, .ref x0)]) X dX11_army_284 (by decide) rfl ?_
  exact wq_sub [1, 0] rfl (wl_X11_army_285 X _ _ _ hf)
def f_X11_army_259 (k259 : Nat → Int32 → hp_H → Option (Int32 × hp_H)) (x0 : Nat) (x2 : Int32) (h : hp_H) : Option (Int32 × hp_H) := if 33 ≤ x2 then (f_X11_army_283 x0 h) else ((rd_R h x0 11 36).bind fun v1 => (rd_R h x0 11 32).bind fun v2 => (rd_A h 0 v2 x2).bind fun v3 => (wr_A h v1 x2 v3).bind fun h4 => k259 x0 (x2 + 1) h4)
set_option maxRecDepth 20000 in
theorem w_X11_army_259 (X : wx G p s m args meth c cX11_army 3 RX11 (some .int)) (k259 : Nat → Int32 → hp_H → Option (Int32 × hp_H)) (hk259 : ∀ (x0 : Nat) (x2 : Int32) (h : hp_H), k259 x0 x2 h = some o → wq p l e (mt_R (8) 0 0) s m args below meth c (MQ below (mt_Q G (some (.int o.1)) o.2) args s 0 0 (hp_A G)) G 3 0 0 259 [(0, .ref x0), (2, .int x2)] [] h) (x0 : Nat) (x2 : Int32) (h : hp_H) (hf : f_X11_army_259 k259 x0 x2 h = some o) : wq p l e (mt_R (8) 0 0) s m args below meth c (MQ below (mt_Q G (some (.int o.1)) o.2) args s 0 0 (hp_A G)) G 3 0 0 259 [(0, .ref x0), (2, .int x2)] [] h := by
  unfold f_X11_army_259 at hf
  refine wk_iload_n X dX11_army_259 1 rfl ?_
  refine wk_bipush X dX11_army_260 ib_33 ?_
  refine wk_icmp_ge X 283 dX11_army_262 (by decide) hf (fun hf => ?_) (fun hf => ?_)
  · exact wq_sub [0] rfl (w_X11_army_283 X _ _ hf)
  · refine wk_aload_n X dX11_army_265 0 rfl ?_
    refine wk_getR X dX11_army_266 fo_X11_51 hf (fun v1 hf => ?_)
    refine wk_iload_n X dX11_army_269 1 rfl ?_
    refine wk_aload_n X dX11_army_270 0 rfl ?_
    refine wk_getR X dX11_army_271 fo_X11_38 hf (fun v2 hf => ?_)
    refine wk_iload_n X dX11_army_274 1 rfl ?_
    refine wk_iald X dX11_army_275 hf (fun v3 hf => ?_)
    refine wk_iast X dX11_army_276 hf (fun h4 hf => ?_)
    refine wk_iinc (lv' := [(2, .int (x2 + 1)), (0, .ref x0)]) X dX11_army_277 1 rfl ic_1 (by decide) rfl ?_
    refine wk_goto X 259 dX11_army_280 (by decide) ?_
    exact wq_sub [1, 0] rfl (hk259 _ _ _ hf)
def l_X11_army_259 (x0 : Nat) (x2 : Int32) (h : hp_H) : Option (Int32 × hp_H) := lp (fun k (s : Nat × Int32 × hp_H) => f_X11_army_259  (fun a0 a1 a2 => k (a0, a1, a2)) s.1 s.2.1 s.2.2) 100000 (x0, x2, h)
theorem wl_X11_army_259 (X : wx G p s m args meth c cX11_army 3 RX11 (some .int)) (x0 : Nat) (x2 : Int32) (h : hp_H) (hf : l_X11_army_259 x0 x2 h = some o) : wq p l e (mt_R (8) 0 0) s m args below meth c (MQ below (mt_Q G (some (.int o.1)) o.2) args s 0 0 (hp_A G)) G 3 0 0 259 [(0, .ref x0), (2, .int x2)] [] h :=
  lp_ind (P := fun (s_ : Nat × Int32 × hp_H) => wq p l e (mt_R (8) 0 0) s m args below meth c (MQ below (mt_Q G (some (.int o.1)) o.2) args s 0 0 (hp_A G)) G 3 0 0 259 [(0, .ref s_.1), (2, .int s_.2.1)] [] s_.2.2) (fun k s hk hf => w_X11_army_259 X  (fun a0 a1 a2 => k (a0, a1, a2)) (fun a0 a1 a2 hf => hk (a0, a1, a2) hf) s.1 s.2.1 s.2.2 hf) 100000 (x0, x2, h) hf
def f_X11_army_222 (x0 : Nat) (t0 : Nat) (t1 : Int32) (h : hp_H) : Option (Int32 × hp_H) := (wr_I h t0 11 5 t1).bind fun h1 => (rd_I h1 x0 11 27).bind fun v2 => (wr_I h1 x0 11 6 v2).bind fun h3 => (rd_R h3 x0 11 31).bind fun v4 => (rd_R h3 x0 11 7).bind fun v5 => (f_X11_copies x0 v4 v5 h3).bind fun r6 => (rd_R r6 x0 11 33).bind fun v7 => (rd_R r6 x0 11 8).bind fun v8 => (f_X11_copies x0 v7 v8 r6).bind fun r9 => l_X11_army_259 x0 0 r9
set_option maxRecDepth 20000 in
theorem w_X11_army_222 (X : wx G p s m args meth c cX11_army 3 RX11 (some .int)) (x0 : Nat) (t0 : Nat) (t1 : Int32) (h : hp_H) (hf : f_X11_army_222 x0 t0 t1 h = some o) : wq p l e (mt_R (8) 0 0) s m args below meth c (MQ below (mt_Q G (some (.int o.1)) o.2) args s 0 0 (hp_A G)) G 3 0 0 222 [(0, .ref x0)] [.int t1, .ref t0] h := by
  unfold f_X11_army_222 at hf
  refine wk_putI X dX11_army_222 fo_X11_13 hf (fun h1 hf => ?_)
  refine wk_aload_n X dX11_army_225 0 rfl ?_
  refine wk_aload_n X dX11_army_226 0 rfl ?_
  refine wk_getI X dX11_army_227 fo_X11_235 hf (fun v2 hf => ?_)
  refine wk_putI X dX11_army_230 fo_X11_16 hf (fun h3 hf => ?_)
  refine wk_aload_n X dX11_army_233 0 rfl ?_
  refine wk_aload_n X dX11_army_234 0 rfl ?_
  refine wk_getR X dX11_army_235 fo_X11_35 hf (fun v4 hf => ?_)
  refine wk_aload_n X dX11_army_238 0 rfl ?_
  refine wk_getR X dX11_army_239 fo_X11_19 hf (fun v5 hf => ?_)
  refine wk_callVv X [.ref v4, .ref v5] [] dX11_army_242 rfl vo_X11_260 rfl (by decide) (Nat.le_of_ble_eq_true rfl) hf (c_X11_copies l _ _ _ _) (fun r6 hf => ?_)
  refine wk_aload_n X dX11_army_245 0 rfl ?_
  refine wk_aload_n X dX11_army_246 0 rfl ?_
  refine wk_getR X dX11_army_247 fo_X11_41 hf (fun v7 hf => ?_)
  refine wk_aload_n X dX11_army_250 0 rfl ?_
  refine wk_getR X dX11_army_251 fo_X11_23 hf (fun v8 hf => ?_)
  refine wk_callVv X [.ref v7, .ref v8] [] dX11_army_254 rfl vo_X11_260 rfl (by decide) (Nat.le_of_ble_eq_true rfl) hf (c_X11_copies l _ _ _ _) (fun r9 hf => ?_)
  refine wk_iconst X dX11_army_257 ic_0 ?_
  refine wk_istore_n (lv' := [(2, .int 0), (0, .ref x0)]) X dX11_army_258 (by decide) rfl ?_
  exact wq_sub [1, 0] rfl (wl_X11_army_259 X _ _ _ hf)
def f_X11_army_178 (x0 : Nat) (t0 : Nat) (t1 : Int32) (h : hp_H) : Option (Int32 × hp_H) := (wr_I h t0 11 1 t1).bind fun h1 => (rd_I h1 x0 11 23).bind fun v2 => (wr_I h1 x0 11 2 v2).bind fun h3 => (rd_I h3 x0 11 24).bind fun v4 => (wr_I h3 x0 11 3 v4).bind fun h5 => (rd_I h5 x0 11 25).bind fun v6 => (wr_I h5 x0 11 4 v6).bind fun h7 => (rd_I h7 x0 11 26).bind fun v8 => if v8 = (-1) then (f_X11_army_222 x0 x0 2 h7) else ((rd_I h7 x0 11 26).bind fun v9 => f_X11_army_222 x0 x0 v9 h7)
set_option maxRecDepth 20000 in
theorem w_X11_army_178 (X : wx G p s m args meth c cX11_army 3 RX11 (some .int)) (x0 : Nat) (t0 : Nat) (t1 : Int32) (h : hp_H) (hf : f_X11_army_178 x0 t0 t1 h = some o) : wq p l e (mt_R (8) 0 0) s m args below meth c (MQ below (mt_Q G (some (.int o.1)) o.2) args s 0 0 (hp_A G)) G 3 0 0 178 [(0, .ref x0)] [.int t1, .ref t0] h := by
  unfold f_X11_army_178 at hf
  refine wk_putI X dX11_army_178 fo_X11_7 hf (fun h1 hf => ?_)
  refine wk_aload_n X dX11_army_181 0 rfl ?_
  refine wk_aload_n X dX11_army_182 0 rfl ?_
  refine wk_getI X dX11_army_183 fo_X11_200 hf (fun v2 hf => ?_)
  refine wk_putI X dX11_army_186 fo_X11_251 hf (fun h3 hf => ?_)
  refine wk_aload_n X dX11_army_189 0 rfl ?_
  refine wk_aload_n X dX11_army_190 0 rfl ?_
  refine wk_getI X dX11_army_191 fo_X11_207 hf (fun v4 hf => ?_)
  refine wk_putI X dX11_army_194 fo_X11_254 hf (fun h5 hf => ?_)
  refine wk_aload_n X dX11_army_197 0 rfl ?_
  refine wk_aload_n X dX11_army_198 0 rfl ?_
  refine wk_getI X dX11_army_199 fo_X11_213 hf (fun v6 hf => ?_)
  refine wk_putI X dX11_army_202 fo_X11_257 hf (fun h7 hf => ?_)
  refine wk_aload_n X dX11_army_205 0 rfl ?_
  refine wk_aload_n X dX11_army_206 0 rfl ?_
  refine wk_getI X dX11_army_207 fo_X11_232 hf (fun v8 hf => ?_)
  refine wk_iconst X dX11_army_210 ic_m1 ?_
  refine wk_icmp_ne X 218 dX11_army_211 (by decide) hf (fun hf => ?_) (fun hf => ?_)
  · refine wk_aload_n X dX11_army_218 0 rfl ?_
    refine wk_getI X dX11_army_219 fo_X11_232 hf (fun v9 hf => ?_)
    exact wq_sub [0] rfl (w_X11_army_222 X _ _ _ _ hf)
  · refine wk_iconst X dX11_army_214 ic_2 ?_
    refine wk_goto X 222 dX11_army_215 (by decide) ?_
    exact wq_sub [0] rfl (w_X11_army_222 X _ _ _ _ hf)
def f_X11_army_138 (x0 : Nat) (h : hp_H) : Option (Int32 × hp_H) := (f_X11_isGood x0 h).bind fun r1 => if r1.1 = 0 then ((rd_R r1.2 x0 11 13).bind fun v4 => (rd_A r1.2 0 v4 0).bind fun v5 => (wr_A r1.2 v4 0 (v5 + 1)).bind fun h6 => (rd_I h6 x0 11 11).bind fun v7 => some (v7, h6)) else ((rd_I r1.2 x0 11 22).bind fun v2 => if v2 = (-1) then (f_X11_army_178 x0 x0 8 r1.2) else ((rd_I r1.2 x0 11 22).bind fun v3 => f_X11_army_178 x0 x0 v3 r1.2))
set_option maxRecDepth 20000 in
theorem w_X11_army_138 (X : wx G p s m args meth c cX11_army 3 RX11 (some .int)) (x0 : Nat) (h : hp_H) (hf : f_X11_army_138 x0 h = some o) : wq p l e (mt_R (8) 0 0) s m args below meth c (MQ below (mt_Q G (some (.int o.1)) o.2) args s 0 0 (hp_A G)) G 3 0 0 138 [(0, .ref x0)] [] h := by
  unfold f_X11_army_138 at hf
  refine wk_aload_n X dX11_army_138 0 rfl ?_
  refine wk_callVi X [] [] dX11_army_139 rfl vo_X11_143 rfl (by decide) (Nat.le_of_ble_eq_true rfl) hf (c_X11_isGood l _ _) (fun r1 hf => ?_)
  refine wk_if_ne X 160 dX11_army_142 (by decide) hf (fun hf => ?_) (fun hf => ?_)
  · refine wk_aload_n X dX11_army_160 0 rfl ?_
    refine wk_aload_n X dX11_army_161 0 rfl ?_
    refine wk_getI X dX11_army_162 fo_X11_216 hf (fun v2 hf => ?_)
    refine wk_iconst X dX11_army_165 ic_m1 ?_
    refine wk_icmp_ne X 174 dX11_army_166 (by decide) hf (fun hf => ?_) (fun hf => ?_)
    · refine wk_aload_n X dX11_army_174 0 rfl ?_
      refine wk_getI X dX11_army_175 fo_X11_216 hf (fun v3 hf => ?_)
      exact wq_sub [0] rfl (w_X11_army_178 X _ _ _ _ hf)
    · refine wk_bipush X dX11_army_169 ib_8 ?_
      refine wk_goto X 178 dX11_army_171 (by decide) ?_
      exact wq_sub [0] rfl (w_X11_army_178 X _ _ _ _ hf)
  · refine wk_aload_n X dX11_army_145 0 rfl ?_
    refine wk_getR X dX11_army_146 fo_X11_32 hf (fun v4 hf => ?_)
    refine wk_iconst X dX11_army_149 ic_0 ?_
    refine wk_dup2 X dX11_army_150 rfl rfl ?_
    refine wk_iald X dX11_army_151 hf (fun v5 hf => ?_)
    refine wk_iconst X dX11_army_152 ic_1 ?_
    refine wk_iadd X dX11_army_153 ?_
    refine wk_iast X dX11_army_154 hf (fun h6 hf => ?_)
    refine wk_aload_n X dX11_army_155 0 rfl ?_
    refine wk_getI X dX11_army_156 fo_X11_140 hf (fun v7 hf => ?_)
    exact wk_ireturn X dX11_army_159 hf
def f_X11_army_117 (k117 : Nat → hp_H → Option (Int32 × hp_H)) (x0 : Nat) (h : hp_H) : Option (Int32 × hp_H) := (f_X11_isGood x0 h).bind fun r1 => if r1.1 = 0 then (f_X11_army_138 x0 r1.2) else ((rd_I r1.2 x0 11 16).bind fun v2 => if v2 = 0 then (f_X11_army_138 x0 r1.2) else ((f_X11_line x0 r1.2).bind fun r3 => k117 x0 r3))
set_option maxRecDepth 20000 in
theorem w_X11_army_117 (X : wx G p s m args meth c cX11_army 3 RX11 (some .int)) (k117 : Nat → hp_H → Option (Int32 × hp_H)) (hk117 : ∀ (x0 : Nat) (h : hp_H), k117 x0 h = some o → wq p l e (mt_R (8) 0 0) s m args below meth c (MQ below (mt_Q G (some (.int o.1)) o.2) args s 0 0 (hp_A G)) G 3 0 0 117 [(0, .ref x0)] [] h) (x0 : Nat) (h : hp_H) (hf : f_X11_army_117 k117 x0 h = some o) : wq p l e (mt_R (8) 0 0) s m args below meth c (MQ below (mt_Q G (some (.int o.1)) o.2) args s 0 0 (hp_A G)) G 3 0 0 117 [(0, .ref x0)] [] h := by
  unfold f_X11_army_117 at hf
  refine wk_aload_n X dX11_army_117 0 rfl ?_
  refine wk_callVi X [] [] dX11_army_118 rfl vo_X11_143 rfl (by decide) (Nat.le_of_ble_eq_true rfl) hf (c_X11_isGood l _ _) (fun r1 hf => ?_)
  refine wk_if_eq X 138 dX11_army_121 (by decide) hf (fun hf => ?_) (fun hf => ?_)
  · exact wq_sub [0] rfl (w_X11_army_138 X _ _ hf)
  · refine wk_aload_n X dX11_army_124 0 rfl ?_
    refine wk_getI X dX11_army_125 fo_X11_117 hf (fun v2 hf => ?_)
    refine wk_if_eq X 138 dX11_army_128 (by decide) hf (fun hf => ?_) (fun hf => ?_)
    · exact wq_sub [0] rfl (w_X11_army_138 X _ _ hf)
    · refine wk_aload_n X dX11_army_131 0 rfl ?_
      refine wk_callVv X [] [] dX11_army_132 rfl vo_X11_248 rfl (by decide) (Nat.le_of_ble_eq_true rfl) hf (c_X11_line l _ _) (fun r3 hf => ?_)
      refine wk_goto X 117 dX11_army_135 (by decide) ?_
      exact wq_sub [0] rfl (hk117 _ _ hf)
def l_X11_army_117 (x0 : Nat) (h : hp_H) : Option (Int32 × hp_H) := lp (fun k (s : Nat × hp_H) => f_X11_army_117  (fun a0 a1 => k (a0, a1)) s.1 s.2) 100000 (x0, h)
theorem wl_X11_army_117 (X : wx G p s m args meth c cX11_army 3 RX11 (some .int)) (x0 : Nat) (h : hp_H) (hf : l_X11_army_117 x0 h = some o) : wq p l e (mt_R (8) 0 0) s m args below meth c (MQ below (mt_Q G (some (.int o.1)) o.2) args s 0 0 (hp_A G)) G 3 0 0 117 [(0, .ref x0)] [] h :=
  lp_ind (P := fun (s_ : Nat × hp_H) => wq p l e (mt_R (8) 0 0) s m args below meth c (MQ below (mt_Q G (some (.int o.1)) o.2) args s 0 0 (hp_A G)) G 3 0 0 117 [(0, .ref s_.1)] [] s_.2) (fun k s hk hf => w_X11_army_117 X  (fun a0 a1 => k (a0, a1)) (fun a0 a1 hf => hk (a0, a1) hf) s.1 s.2 hf) 100000 (x0, h) hf
def f_X11_army_108 (x0 : Nat) (h : hp_H) : Option (Int32 × hp_H) := (wr_I h x0 11 28 0).bind fun h1 => (f_X11_goes x0 h1).bind fun r2 => l_X11_army_117 x0 r2
set_option maxRecDepth 20000 in
theorem w_X11_army_108 (X : wx G p s m args meth c cX11_army 3 RX11 (some .int)) (x0 : Nat) (h : hp_H) (hf : f_X11_army_108 x0 h = some o) : wq p l e (mt_R (8) 0 0) s m args below meth c (MQ below (mt_Q G (some (.int o.1)) o.2) args s 0 0 (hp_A G)) G 3 0 0 108 [(0, .ref x0)] [] h := by
  unfold f_X11_army_108 at hf
  refine wk_aload_n X dX11_army_108 0 rfl ?_
  refine wk_iconst X dX11_army_109 ic_0 ?_
  refine wk_putI X dX11_army_110 fo_X11_153 hf (fun h1 hf => ?_)
  refine wk_aload_n X dX11_army_113 0 rfl ?_
  refine wk_callVv X [] [] dX11_army_114 rfl vo_X11_147 rfl (by decide) (Nat.le_of_ble_eq_true rfl) hf (c_X11_goes l _ _) (fun r2 hf => ?_)
  exact wq_sub [0] rfl (wl_X11_army_117 X _ _ hf)
def f_X11_army_89 (k89 : Nat → Int32 → hp_H → Option (Int32 × hp_H)) (x0 : Nat) (x2 : Int32) (h : hp_H) : Option (Int32 × hp_H) := if 33 ≤ x2 then (f_X11_army_108 x0 h) else ((rd_R h x0 11 32).bind fun v1 => (wr_A h v1 x2 0).bind fun h2 => k89 x0 (x2 + 1) h2)
set_option maxRecDepth 20000 in
theorem w_X11_army_89 (X : wx G p s m args meth c cX11_army 3 RX11 (some .int)) (k89 : Nat → Int32 → hp_H → Option (Int32 × hp_H)) (hk89 : ∀ (x0 : Nat) (x2 : Int32) (h : hp_H), k89 x0 x2 h = some o → wq p l e (mt_R (8) 0 0) s m args below meth c (MQ below (mt_Q G (some (.int o.1)) o.2) args s 0 0 (hp_A G)) G 3 0 0 89 [(0, .ref x0), (2, .int x2)] [] h) (x0 : Nat) (x2 : Int32) (h : hp_H) (hf : f_X11_army_89 k89 x0 x2 h = some o) : wq p l e (mt_R (8) 0 0) s m args below meth c (MQ below (mt_Q G (some (.int o.1)) o.2) args s 0 0 (hp_A G)) G 3 0 0 89 [(0, .ref x0), (2, .int x2)] [] h := by
  unfold f_X11_army_89 at hf
  refine wk_iload_n X dX11_army_89 1 rfl ?_
  refine wk_bipush X dX11_army_90 ib_33 ?_
  refine wk_icmp_ge X 108 dX11_army_92 (by decide) hf (fun hf => ?_) (fun hf => ?_)
  · exact wq_sub [0] rfl (w_X11_army_108 X _ _ hf)
  · refine wk_aload_n X dX11_army_95 0 rfl ?_
    refine wk_getR X dX11_army_96 fo_X11_38 hf (fun v1 hf => ?_)
    refine wk_iload_n X dX11_army_99 1 rfl ?_
    refine wk_iconst X dX11_army_100 ic_0 ?_
    refine wk_iast X dX11_army_101 hf (fun h2 hf => ?_)
    refine wk_iinc (lv' := [(2, .int (x2 + 1)), (0, .ref x0)]) X dX11_army_102 1 rfl ic_1 (by decide) rfl ?_
    refine wk_goto X 89 dX11_army_105 (by decide) ?_
    exact wq_sub [1, 0] rfl (hk89 _ _ _ hf)
def l_X11_army_89 (x0 : Nat) (x2 : Int32) (h : hp_H) : Option (Int32 × hp_H) := lp (fun k (s : Nat × Int32 × hp_H) => f_X11_army_89  (fun a0 a1 a2 => k (a0, a1, a2)) s.1 s.2.1 s.2.2) 100000 (x0, x2, h)
theorem wl_X11_army_89 (X : wx G p s m args meth c cX11_army 3 RX11 (some .int)) (x0 : Nat) (x2 : Int32) (h : hp_H) (hf : l_X11_army_89 x0 x2 h = some o) : wq p l e (mt_R (8) 0 0) s m args below meth c (MQ below (mt_Q G (some (.int o.1)) o.2) args s 0 0 (hp_A G)) G 3 0 0 89 [(0, .ref x0), (2, .int x2)] [] h :=
  lp_ind (P := fun (s_ : Nat × Int32 × hp_H) => wq p l e (mt_R (8) 0 0) s m args below meth c (MQ below (mt_Q G (some (.int o.1)) o.2) args s 0 0 (hp_A G)) G 3 0 0 89 [(0, .ref s_.1), (2, .int s_.2.1)] [] s_.2.2) (fun k s hk hf => w_X11_army_89 X  (fun a0 a1 a2 => k (a0, a1, a2)) (fun a0 a1 a2 hf => hk (a0, a1, a2) hf) s.1 s.2.1 s.2.2 hf) 100000 (x0, x2, h) hf
def f_X11_army_23 (x0 : Nat) (x1 : Int32) (t0 : Nat) (t1 : Int32) (h : hp_H) : Option (Int32 × hp_H) := (f_X11_right t0 t1 1 h).bind fun r1 => if r1.1 = 0 then (some (0, r1.2)) else ((wr_I r1.2 x0 11 10 0).bind fun h2 => (wr_I h2 x0 11 12 (-1)).bind fun h3 => (wr_I h3 x0 11 11 0).bind fun h4 => (wr_I h4 x0 11 14 x1).bind fun h5 => (wr_I h5 x0 11 15 0).bind fun h6 => (wr_I h6 x0 11 22 (-1)).bind fun h7 => (wr_I h7 x0 11 23 0).bind fun h8 => (wr_I h8 x0 11 24 0).bind fun h9 => (wr_I h9 x0 11 25 0).bind fun h10 => (wr_I h10 x0 11 26 (-1)).bind fun h11 => (wr_I h11 x0 11 27 (-1)).bind fun h12 => l_X11_army_89 x0 0 h12)
set_option maxRecDepth 20000 in
theorem w_X11_army_23 (X : wx G p s m args meth c cX11_army 3 RX11 (some .int)) (x0 : Nat) (x1 : Int32) (t0 : Nat) (t1 : Int32) (h : hp_H) (hf : f_X11_army_23 x0 x1 t0 t1 h = some o) : wq p l e (mt_R (8) 0 0) s m args below meth c (MQ below (mt_Q G (some (.int o.1)) o.2) args s 0 0 (hp_A G)) G 3 0 0 23 [(0, .ref x0), (1, .int x1)] [.int t1, .ref t0] h := by
  unfold f_X11_army_23 at hf
  refine wk_iconst X dX11_army_23 ic_1 ?_
  refine wk_callVi X [.int t1, .int 1] [] dX11_army_24 rfl vo_X11_244 rfl (by decide) (Nat.le_of_ble_eq_true rfl) hf (c_X11_right l _ _ _ _) (fun r1 hf => ?_)
  refine wk_if_ne X 32 dX11_army_27 (by decide) hf (fun hf => ?_) (fun hf => ?_)
  · refine wk_aload_n X dX11_army_32 0 rfl ?_
    refine wk_iconst X dX11_army_33 ic_0 ?_
    refine wk_putI X dX11_army_34 fo_X11_87 hf (fun h2 hf => ?_)
    refine wk_aload_n X dX11_army_37 0 rfl ?_
    refine wk_iconst X dX11_army_38 ic_m1 ?_
    refine wk_putI X dX11_army_39 fo_X11_29 hf (fun h3 hf => ?_)
    refine wk_aload_n X dX11_army_42 0 rfl ?_
    refine wk_iconst X dX11_army_43 ic_0 ?_
    refine wk_putI X dX11_army_44 fo_X11_140 hf (fun h4 hf => ?_)
    refine wk_aload_n X dX11_army_47 0 rfl ?_
    refine wk_iload_n X dX11_army_48 1 rfl ?_
    refine wk_putI X dX11_army_49 fo_X11_94 hf (fun h5 hf => ?_)
    refine wk_aload_n X dX11_army_52 0 rfl ?_
    refine wk_iconst X dX11_army_53 ic_0 ?_
    refine wk_putI X dX11_army_54 fo_X11_97 hf (fun h6 hf => ?_)
    refine wk_aload_n X dX11_army_57 0 rfl ?_
    refine wk_iconst X dX11_army_58 ic_m1 ?_
    refine wk_putI X dX11_army_59 fo_X11_216 hf (fun h7 hf => ?_)
    refine wk_aload_n X dX11_army_62 0 rfl ?_
    refine wk_iconst X dX11_army_63 ic_0 ?_
    refine wk_putI X dX11_army_64 fo_X11_200 hf (fun h8 hf => ?_)
    refine wk_aload_n X dX11_army_67 0 rfl ?_
    refine wk_iconst X dX11_army_68 ic_0 ?_
    refine wk_putI X dX11_army_69 fo_X11_207 hf (fun h9 hf => ?_)
    refine wk_aload_n X dX11_army_72 0 rfl ?_
    refine wk_iconst X dX11_army_73 ic_0 ?_
    refine wk_putI X dX11_army_74 fo_X11_213 hf (fun h10 hf => ?_)
    refine wk_aload_n X dX11_army_77 0 rfl ?_
    refine wk_iconst X dX11_army_78 ic_m1 ?_
    refine wk_putI X dX11_army_79 fo_X11_232 hf (fun h11 hf => ?_)
    refine wk_aload_n X dX11_army_82 0 rfl ?_
    refine wk_iconst X dX11_army_83 ic_m1 ?_
    refine wk_putI X dX11_army_84 fo_X11_235 hf (fun h12 hf => ?_)
    refine wk_iconst X dX11_army_87 ic_0 ?_
    refine wk_istore_n (lv' := [(2, .int 0), (0, .ref x0), (1, .int x1)]) X dX11_army_88 (by decide) rfl ?_
    exact wq_sub [1, 0] rfl (wl_X11_army_89 X _ _ _ hf)
  · refine wk_iconst X dX11_army_30 ic_0 ?_
    exact wk_ireturn X dX11_army_31 hf
def f_X11_army_22 (x0 : Nat) (x1 : Int32) (t0 : Nat) (h : hp_H) : Option (Int32 × hp_H) := f_X11_army_23 x0 x1 t0 0 h
set_option maxRecDepth 20000 in
theorem w_X11_army_22 (X : wx G p s m args meth c cX11_army 3 RX11 (some .int)) (x0 : Nat) (x1 : Int32) (t0 : Nat) (h : hp_H) (hf : f_X11_army_22 x0 x1 t0 h = some o) : wq p l e (mt_R (8) 0 0) s m args below meth c (MQ below (mt_Q G (some (.int o.1)) o.2) args s 0 0 (hp_A G)) G 3 0 0 22 [(0, .ref x0), (1, .int x1)] [.ref t0] h := by
  unfold f_X11_army_22 at hf
  refine wk_iconst X dX11_army_22 ic_0 ?_
  exact wq_sub [0, 1] rfl (w_X11_army_23 X _ _ _ _ _ hf)
end Sf_X11_army
def f_X11_army (x0 : Nat) (x1 : Int32) (h : hp_H) : Option (Int32 × hp_H) := gd h x0 11 ((wr_I h x0 11 0 0).bind fun h1 => if x1 < 0 then (f_X11_army_22 x0 x1 x0 h1) else ((rd_I h1 x0 11 10).bind fun v2 => if v2 < x1 then (f_X11_army_22 x0 x1 x0 h1) else (f_X11_army_23 x0 x1 x0 1 h1)))
set_option maxRecDepth 20000 in
theorem c_X11_army (l : Launch) (x0 : Nat) (x1 : Int32) (h : hp_H) (r : Int32 × hp_H) (hf : f_X11_army x0 x1 h = some r) : cv l (8) yX11_army cX11_army 3 (some .int) 11 x0 [.int x1] h (some (.int r.1)) r.2 := by
  unfold f_X11_army at hf
  refine cv_of (lv := [(0, .ref x0), (1, .int x1)]) hf (by decide +kernel) (Nat.le_of_ble_eq_true rfl) rfl (fun hf p e s m args below meth c G X => ?_)
  refine wk_aload_n X dX11_army_0 0 rfl ?_
  refine wk_iconst X dX11_army_1 ic_0 ?_
  refine wk_putI X dX11_army_2 fo_X11_84 hf (fun h1 hf => ?_)
  refine wk_aload_n X dX11_army_5 0 rfl ?_
  refine wk_iload_n X dX11_army_6 1 rfl ?_
  refine wk_if_lt X 22 dX11_army_7 (by decide) hf (fun hf => ?_) (fun hf => ?_)
  · exact wq_sub [0, 1] rfl (w_X11_army_22 X _ _ _ _ hf)
  · refine wk_iload_n X dX11_army_10 1 rfl ?_
    refine wk_aload_n X dX11_army_11 0 rfl ?_
    refine wk_getI X dX11_army_12 fo_X11_87 hf (fun v2 hf => ?_)
    refine wk_icmp_gt X 22 dX11_army_15 (by decide) hf (fun hf => ?_) (fun hf => ?_)
    · exact wq_sub [0, 1] rfl (w_X11_army_22 X _ _ _ _ hf)
    · refine wk_iconst X dX11_army_18 ic_1 ?_
      refine wk_goto X 23 dX11_army_19 (by decide) ?_
      exact wq_sub [0, 1] rfl (w_X11_army_23 X _ _ _ _ _ hf)
