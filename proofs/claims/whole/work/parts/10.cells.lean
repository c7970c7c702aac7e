section Sf_X2_set
variable {p : Program} {l : Launch} {e : Env} {s : State} {m : MethodId} {args : Array Value} {below : List Frame} {meth : Method} {c : Code} {G : hp_G} {o : hp_H}
def f_X2_set_20  (h : hp_H) : Option (hp_H) := some h
set_option maxRecDepth 20000 in
theorem w_X2_set_20 (X : wx G p s m args meth c cX2_set 3 RX2 none)  (h : hp_H) (hf : f_X2_set_20 h = some o) : wq p l e (mt_R (1) 0 0) s m args below meth c (MQ below (mt_Q G none o) args s 0 0 (hp_A G)) G 3 0 0 20 [] [] h := by
  unfold f_X2_set_20 at hf
  exact wk_return X dX2_set_20 hf
end Sf_X2_set
def f_X2_set (x0 : Nat) (x1 : Int32) (x2 : Int32) (h : hp_H) : Option (hp_H) := gd h x0 2 (if x1 < 0 then (f_X2_set_20 h) else ((rd_R h x0 2 0).bind fun v1 => (rd_L h v1).bind fun v2 => if v2 ≤ x1 then (f_X2_set_20 h) else ((rd_R h x0 2 0).bind fun v3 => (wr_A h v3 x1 x2).bind fun h4 => f_X2_set_20 h4)))
set_option maxRecDepth 20000 in
theorem c_X2_set (l : Launch) (x0 : Nat) (x1 : Int32) (x2 : Int32) (h : hp_H) (r : hp_H) (hf : f_X2_set x0 x1 x2 h = some r) : cv l (1) yX2_set cX2_set 3 none 2 x0 [.int x1, .int x2] h none r := by
  unfold f_X2_set at hf
  refine cv_of (lv := [(0, .ref x0), (1, .int x1), (2, .int x2)]) hf (by decide +kernel) (Nat.le_of_ble_eq_true rfl) rfl (fun hf p e s m args below meth c G X => ?_)
  refine wk_iload_n X dX2_set_0 1 rfl ?_
  refine wk_if_lt X 20 dX2_set_1 (by decide) hf (fun hf => ?_) (fun hf => ?_)
  · exact wq_sub [] rfl (w_X2_set_20 X _ hf)
  · refine wk_iload_n X dX2_set_4 1 rfl ?_
    refine wk_aload_n X dX2_set_5 0 rfl ?_
    refine wk_getR X dX2_set_6 fo_X2_13 hf (fun v1 hf => ?_)
    refine wk_alen X dX2_set_9 hf (fun v2 hf => ?_)
    refine wk_icmp_ge X 20 dX2_set_10 (by decide) hf (fun hf => ?_) (fun hf => ?_)
    · exact wq_sub [] rfl (w_X2_set_20 X _ hf)
    · refine wk_aload_n X dX2_set_13 0 rfl ?_
      refine wk_getR X dX2_set_14 fo_X2_13 hf (fun v3 hf => ?_)
      refine wk_iload_n X dX2_set_17 1 rfl ?_
      refine wk_iload_n X dX2_set_18 2 rfl ?_
      refine wk_iast X dX2_set_19 hf (fun h4 hf => ?_)
      exact wq_sub [] rfl (w_X2_set_20 X _ hf)
section Sf_X2_at
variable {p : Program} {l : Launch} {e : Env} {s : State} {m : MethodId} {args : Array Value} {below : List Frame} {meth : Method} {c : Code} {G : hp_G} {o : Int32 × hp_H}
def f_X2_at_23 (t0 : Int32) (h : hp_H) : Option (Int32 × hp_H) := some (t0, h)
set_option maxRecDepth 20000 in
theorem w_X2_at_23 (X : wx G p s m args meth c cX2_at 2 RX2 (some .int)) (t0 : Int32) (h : hp_H) (hf : f_X2_at_23 t0 h = some o) : wq p l e (mt_R (1) 0 0) s m args below meth c (MQ below (mt_Q G (some (.int o.1)) o.2) args s 0 0 (hp_A G)) G 2 0 0 23 [] [.int t0] h := by
  unfold f_X2_at_23 at hf
  exact wk_ireturn X dX2_at_23 hf
def f_X2_at_22  (h : hp_H) : Option (Int32 × hp_H) := f_X2_at_23 0 h
set_option maxRecDepth 20000 in
theorem w_X2_at_22 (X : wx G p s m args meth c cX2_at 2 RX2 (some .int))  (h : hp_H) (hf : f_X2_at_22 h = some o) : wq p l e (mt_R (1) 0 0) s m args below meth c (MQ below (mt_Q G (some (.int o.1)) o.2) args s 0 0 (hp_A G)) G 2 0 0 22 [] [] h := by
  unfold f_X2_at_22 at hf
  refine wk_iconst X dX2_at_22 ic_0 ?_
  exact wq_sub [] rfl (w_X2_at_23 X _ _ hf)
end Sf_X2_at
def f_X2_at (x0 : Nat) (x1 : Int32) (h : hp_H) : Option (Int32 × hp_H) := gd h x0 2 (if x1 < 0 then (f_X2_at_22 h) else ((rd_R h x0 2 0).bind fun v1 => (rd_L h v1).bind fun v2 => if v2 ≤ x1 then (f_X2_at_22 h) else ((rd_R h x0 2 0).bind fun v3 => (rd_A h 0 v3 x1).bind fun v4 => f_X2_at_23 v4 h)))
set_option maxRecDepth 20000 in
theorem c_X2_at (l : Launch) (x0 : Nat) (x1 : Int32) (h : hp_H) (r : Int32 × hp_H) (hf : f_X2_at x0 x1 h = some r) : cv l (1) yX2_at cX2_at 2 (some .int) 2 x0 [.int x1] h (some (.int r.1)) r.2 := by
  unfold f_X2_at at hf
  refine cv_of (lv := [(0, .ref x0), (1, .int x1)]) hf (by decide +kernel) (Nat.le_of_ble_eq_true rfl) rfl (fun hf p e s m args below meth c G X => ?_)
  refine wk_iload_n X dX2_at_0 1 rfl ?_
  refine wk_if_lt X 22 dX2_at_1 (by decide) hf (fun hf => ?_) (fun hf => ?_)
  · exact wq_sub [] rfl (w_X2_at_22 X _ hf)
  · refine wk_iload_n X dX2_at_4 1 rfl ?_
    refine wk_aload_n X dX2_at_5 0 rfl ?_
    refine wk_getR X dX2_at_6 fo_X2_13 hf (fun v1 hf => ?_)
    refine wk_alen X dX2_at_9 hf (fun v2 hf => ?_)
    refine wk_icmp_ge X 22 dX2_at_10 (by decide) hf (fun hf => ?_) (fun hf => ?_)
    · exact wq_sub [] rfl (w_X2_at_22 X _ hf)
    · refine wk_aload_n X dX2_at_13 0 rfl ?_
      refine wk_getR X dX2_at_14 fo_X2_13 hf (fun v3 hf => ?_)
      refine wk_iload_n X dX2_at_17 1 rfl ?_
      refine wk_iald X dX2_at_18 hf (fun v4 hf => ?_)
      refine wk_goto X 23 dX2_at_19 (by decide) ?_
      exact wq_sub [] rfl (w_X2_at_23 X _ _ hf)
section Sf_X2_copyFrom
variable {p : Program} {l : Launch} {e : Env} {s : State} {m : MethodId} {args : Array Value} {below : List Frame} {meth : Method} {c : Code} {G : hp_G} {o : hp_H}
def f_X2_copyFrom_38  (h : hp_H) : Option (hp_H) := some h
set_option maxRecDepth 20000 in
theorem w_X2_copyFrom_38 (X : wx G p s m args meth c cX2_copyFrom 3 RX2 none)  (h : hp_H) (hf : f_X2_copyFrom_38 h = some o) : wq p l e (mt_R (1) 0 0) s m args below meth c (MQ below (mt_Q G none o) args s 0 0 (hp_A G)) G 3 0 0 38 [] [] h := by
  unfold f_X2_copyFrom_38 at hf
  exact wk_return X dX2_copyFrom_38 hf
def f_X2_copyFrom_2 (k2 : Nat → Nat → Int32 → hp_H → Option (hp_H)) (x0 : Nat) (x1 : Nat) (x2 : Int32) (h : hp_H) : Option (hp_H) := (rd_R h x0 2 0).bind fun v1 => (rd_L h v1).bind fun v2 => if v2 ≤ x2 then (f_X2_copyFrom_38 h) else ((rd_R h x1 2 0).bind fun v3 => (rd_L h v3).bind fun v4 => if v4 ≤ x2 then (f_X2_copyFrom_38 h) else ((rd_R h x0 2 0).bind fun v5 => (rd_R h x1 2 0).bind fun v6 => (rd_A h 0 v6 x2).bind fun v7 => (wr_A h v5 x2 v7).bind fun h8 => k2 x0 x1 (x2 + 1) h8))
set_option maxRecDepth 20000 in
theorem w_X2_copyFrom_2 (X : wx G p s m args meth c cX2_copyFrom 3 RX2 none) (k2 : Nat → Nat → Int32 → hp_H → Option (hp_H)) (hk2 : ∀ (x0 : Nat) (x1 : Nat) (x2 : Int32) (h : hp_H), k2 x0 x1 x2 h = some o → wq p l e (mt_R (1) 0 0) s m args below meth c (MQ below (mt_Q G none o) args s 0 0 (hp_A G)) G 3 0 0 2 [(0, .ref x0), (1, .ref x1), (2, .int x2)] [] h) (x0 : Nat) (x1 : Nat) (x2 : Int32) (h : hp_H) (hf : f_X2_copyFrom_2 k2 x0 x1 x2 h = some o) : wq p l e (mt_R (1) 0 0) s m args below meth c (MQ below (mt_Q G none o) args s 0 0 (hp_A G)) G 3 0 0 2 [(0, .ref x0), (1, .ref x1), (2, .int x2)] [] h := by
  unfold f_X2_copyFrom_2 at hf
  refine wk_iload_n X dX2_copyFrom_2 2 rfl ?_
  refine wk_aload_n X dX2_copyFrom_3 0 rfl ?_
  refine wk_getR X dX2_copyFrom_4 fo_X2_13 hf (fun v1 hf => ?_)
  refine wk_alen X dX2_copyFrom_7 hf (fun v2 hf => ?_)
  refine wk_icmp_ge X 38 dX2_copyFrom_8 (by decide) hf (fun hf => ?_) (fun hf => ?_)
  · exact wq_sub [] rfl (w_X2_copyFrom_38 X _ hf)
  · refine wk_iload_n X dX2_copyFrom_11 2 rfl ?_
    refine wk_aload_n X dX2_copyFrom_12 1 rfl ?_
    refine wk_getR X dX2_copyFrom_13 fo_X2_13 hf (fun v3 hf => ?_)
    refine wk_alen X dX2_copyFrom_16 hf (fun v4 hf => ?_)
    refine wk_icmp_ge X 38 dX2_copyFrom_17 (by decide) hf (fun hf => ?_) (fun hf => ?_)
    · exact wq_sub [] rfl (w_X2_copyFrom_38 X _ hf)
    · refine wk_aload_n X dX2_copyFrom_20 0 rfl ?_
      refine wk_getR X dX2_copyFrom_21 fo_X2_13 hf (fun v5 hf => ?_)
      refine wk_iload_n X dX2_copyFrom_24 2 rfl ?_
      refine wk_aload_n X dX2_copyFrom_25 1 rfl ?_
      refine wk_getR X dX2_copyFrom_26 fo_X2_13 hf (fun v6 hf => ?_)
      refine wk_iload_n X dX2_copyFrom_29 2 rfl ?_
      refine wk_iald X dX2_copyFrom_30 hf (fun v7 hf => ?_)
      refine wk_iast X dX2_copyFrom_31 hf (fun h8 hf => ?_)
      refine wk_iinc (lv' := [(2, .int (x2 + 1)), (0, .ref x0), (1, .ref x1)]) X dX2_copyFrom_32 2 rfl ic_1 (by decide) rfl ?_
      refine wk_goto X 2 dX2_copyFrom_35 (by decide) ?_
      exact wq_sub [1, 2, 0] rfl (hk2 _ _ _ _ hf)
def l_X2_copyFrom_2 (x0 : Nat) (x1 : Nat) (x2 : Int32) (h : hp_H) : Option (hp_H) := lp (fun k (s : Nat × Nat × Int32 × hp_H) => f_X2_copyFrom_2  (fun a0 a1 a2 a3 => k (a0, a1, a2, a3)) s.1 s.2.1 s.2.2.1 s.2.2.2) 100000 (x0, x1, x2, h)
theorem wl_X2_copyFrom_2 (X : wx G p s m args meth c cX2_copyFrom 3 RX2 none) (x0 : Nat) (x1 : Nat) (x2 : Int32) (h : hp_H) (hf : l_X2_copyFrom_2 x0 x1 x2 h = some o) : wq p l e (mt_R (1) 0 0) s m args below meth c (MQ below (mt_Q G none o) args s 0 0 (hp_A G)) G 3 0 0 2 [(0, .ref x0), (1, .ref x1), (2, .int x2)] [] h :=
  lp_ind (P := fun (s_ : Nat × Nat × Int32 × hp_H) => wq p l e (mt_R (1) 0 0) s m args below meth c (MQ below (mt_Q G none o) args s 0 0 (hp_A G)) G 3 0 0 2 [(0, .ref s_.1), (1, .ref s_.2.1), (2, .int s_.2.2.1)] [] s_.2.2.2) (fun k s hk hf => w_X2_copyFrom_2 X  (fun a0 a1 a2 a3 => k (a0, a1, a2, a3)) (fun a0 a1 a2 a3 hf => hk (a0, a1, a2, a3) hf) s.1 s.2.1 s.2.2.1 s.2.2.2 hf) 100000 (x0, x1, x2, h) hf
end Sf_X2_copyFrom
def f_X2_copyFrom (x0 : Nat) (x1 : Nat) (h : hp_H) : Option (hp_H) := gd h x0 2 (l_X2_copyFrom_2 x0 x1 0 h)
set_option maxRecDepth 20000 in
theorem c_X2_copyFrom (l : Launch) (x0 : Nat) (x1 : Nat) (h : hp_H) (r : hp_H) (hf : f_X2_copyFrom x0 x1 h = some r) : cv l (1) yX2_copyFrom cX2_copyFrom 3 none 2 x0 [.ref x1] h none r := by
  unfold f_X2_copyFrom at hf
  refine cv_of (lv := [(0, .ref x0), (1, .ref x1)]) hf (by decide +kernel) (Nat.le_of_ble_eq_true rfl) rfl (fun hf p e s m args below meth c G X => ?_)
  refine wk_iconst X dX2_copyFrom_0 ic_0 ?_
  refine wk_istore_n (lv' := [(2, .int 0), (0, .ref x0), (1, .ref x1)]) X dX2_copyFrom_1 (by decide) rfl ?_
  exact wq_sub [1, 2, 0] rfl (wl_X2_copyFrom_2 X _ _ _ _ hf)
section Sf_X1_clear
variable {p : Program} {l : Launch} {e : Env} {s : State} {m : MethodId} {args : Array Value} {below : List Frame} {meth : Method} {c : Code} {G : hp_G} {o : hp_H}
end Sf_X1_clear
def f_X1_clear (x0 : Nat) (h : hp_H) : Option (hp_H) := gd h x0 1 ((wr_I h x0 1 0 8).bind fun h1 => (wr_I h1 x0 1 1 0).bind fun h2 => (wr_I h2 x0 1 2 0).bind fun h3 => (wr_I h3 x0 1 3 2).bind fun h4 => (wr_I h4 x0 1 4 0).bind fun h5 => (rd_R h5 x0 1 6).bind fun v6 => (wr_I h5 v6 6 3 0).bind fun h7 => some h7)
set_option maxRecDepth 20000 in
theorem c_X1_clear (l : Launch) (x0 : Nat) (h : hp_H) (r : hp_H) (hf : f_X1_clear x0 h = some r) : cv l (1) yX1_clear cX1_clear 1 none 1 x0 [] h none r := by
  unfold f_X1_clear at hf
  refine cv_of (lv := [(0, .ref x0)]) hf (by decide +kernel) (Nat.le_of_ble_eq_true rfl) rfl (fun hf p e s m args below meth c G X => ?_)
  refine wk_aload_n X dX1_clear_0 0 rfl ?_
  refine wk_bipush X dX1_clear_1 ib_8 ?_
  refine wk_putI X dX1_clear_3 fo_X1_9 hf (fun h1 hf => ?_)
  refine wk_aload_n X dX1_clear_6 0 rfl ?_
  refine wk_iconst X dX1_clear_7 ic_0 ?_
  refine wk_putI X dX1_clear_8 fo_X1_15 hf (fun h2 hf => ?_)
  refine wk_aload_n X dX1_clear_11 0 rfl ?_
  refine wk_iconst X dX1_clear_12 ic_0 ?_
  refine wk_putI X dX1_clear_13 fo_X1_18 hf (fun h3 hf => ?_)
  refine wk_aload_n X dX1_clear_16 0 rfl ?_
  refine wk_iconst X dX1_clear_17 ic_2 ?_
  refine wk_putI X dX1_clear_18 fo_X1_21 hf (fun h4 hf => ?_)
  refine wk_aload_n X dX1_clear_21 0 rfl ?_
  refine wk_iconst X dX1_clear_22 ic_0 ?_
  refine wk_putI X dX1_clear_23 fo_X1_24 hf (fun h5 hf => ?_)
  refine wk_aload_n X dX1_clear_26 0 rfl ?_
  refine wk_getR X dX1_clear_27 fo_X1_39 hf (fun v6 hf => ?_)
  refine wk_iconst X dX1_clear_30 ic_0 ?_
  refine wk_putI X dX1_clear_31 fo_X1_43 hf (fun h7 hf => ?_)
  exact wk_return X dX1_clear_34 hf
section Sf_X6_copyFrom
variable {p : Program} {l : Launch} {e : Env} {s : State} {m : MethodId} {args : Array Value} {below : List Frame} {meth : Method} {c : Code} {G : hp_G} {o : hp_H}
end Sf_X6_copyFrom
def f_X6_copyFrom (x0 : Nat) (x1 : Nat) (h : hp_H) : Option (hp_H) := gd h x0 6 ((rd_R h x0 6 1).bind fun v1 => (rd_R h x1 6 1).bind fun v2 => (f_X2_copyFrom v1 v2 h).bind fun r3 => (rd_I r3 x1 6 3).bind fun v4 => (wr_I r3 x0 6 3 v4).bind fun h5 => some h5)
set_option maxRecDepth 20000 in
theorem c_X6_copyFrom (l : Launch) (x0 : Nat) (x1 : Nat) (h : hp_H) (r : hp_H) (hf : f_X6_copyFrom x0 x1 h = some r) : cv l (2) yX6_copyFrom cX6_copyFrom 2 none 6 x0 [.ref x1] h none r := by
  unfold f_X6_copyFrom at hf
  refine cv_of (lv := [(0, .ref x0), (1, .ref x1)]) hf (by decide +kernel) (Nat.le_of_ble_eq_true rfl) rfl (fun hf p e s m args below meth c G X => ?_)
  refine wk_aload_n X dX6_copyFrom_0 0 rfl ?_
  refine wk_getR X dX6_copyFrom_1 fo_X6_20 hf (fun v1 hf => ?_)
  refine wk_aload_n X dX6_copyFrom_4 1 rfl ?_
  refine wk_getR X dX6_copyFrom_5 fo_X6_20 hf (fun v2 hf => ?_)
  refine wk_callVv X [.ref v2] [] dX6_copyFrom_8 rfl vo_X6_42 rfl (by decide) (Nat.le_of_ble_eq_true rfl) hf (c_X2_copyFrom l _ _ _) (fun r3 hf => ?_)
  refine wk_aload_n X dX6_copyFrom_11 0 rfl ?_
  refine wk_aload_n X dX6_copyFrom_12 1 rfl ?_
  refine wk_getI X dX6_copyFrom_13 fo_X6_26 hf (fun v4 hf => ?_)
  refine wk_putI X dX6_copyFrom_16 fo_X6_26 hf (fun h5 hf => ?_)
  exact wk_return X dX6_copyFrom_19 hf
section Sf_X1_copyFrom
variable {p : Program} {l : Launch} {e : Env} {s : State} {m : MethodId} {args : Array Value} {below : List Frame} {meth : Method} {c : Code} {G : hp_G} {o : hp_H}
end Sf_X1_copyFrom
def f_X1_copyFrom (x0 : Nat) (x1 : Nat) (h : hp_H) : Option (hp_H) := gd h x0 1 ((rd_I h x1 1 0).bind fun v1 => (wr_I h x0 1 0 v1).bind fun h2 => (rd_I h2 x1 1 1).bind fun v3 => (wr_I h2 x0 1 1 v3).bind fun h4 => (rd_I h4 x1 1 2).bind fun v5 => (wr_I h4 x0 1 2 v5).bind fun h6 => (rd_I h6 x1 1 3).bind fun v7 => (wr_I h6 x0 1 3 v7).bind fun h8 => (rd_I h8 x1 1 4).bind fun v9 => (wr_I h8 x0 1 4 v9).bind fun h10 => (rd_R h10 x0 1 5).bind fun v11 => (rd_R h10 x1 1 5).bind fun v12 => (f_X2_copyFrom v11 v12 h10).bind fun r13 => (rd_R r13 x0 1 6).bind fun v14 => (rd_R r13 x1 1 6).bind fun v15 => (f_X6_copyFrom v14 v15 r13).bind fun r16 => some r16)
set_option maxRecDepth 20000 in
theorem c_X1_copyFrom (l : Launch) (x0 : Nat) (x1 : Nat) (h : hp_H) (r : hp_H) (hf : f_X1_copyFrom x0 x1 h = some r) : cv l (3) yX1_copyFrom cX1_copyFrom 2 none 1 x0 [.ref x1] h none r := by
  unfold f_X1_copyFrom at hf
  refine cv_of (lv := [(0, .ref x0), (1, .ref x1)]) hf (by decide +kernel) (Nat.le_of_ble_eq_true rfl) rfl (fun hf p e s m args below meth c G X => ?_)
  refine wk_aload_n X dX1_copyFrom_0 0 rfl ?_
  refine wk_aload_n X dX1_copyFrom_1 1 rfl ?_
  refine wk_getI X dX1_copyFrom_2 fo_X1_9 hf (fun v1 hf => ?_)
  refine wk_putI X dX1_copyFrom_5 fo_X1_9 hf (fun h2 hf => ?_)
  refine wk_aload_n X dX1_copyFrom_8 0 rfl ?_
  refine wk_aload_n X dX1_copyFrom_9 1 rfl ?_
  refine wk_getI X dX1_copyFrom_10 fo_X1_15 hf (fun v3 hf => ?_)
  refine wk_putI X dX1_copyFrom_13 fo_X1_15 hf (fun h4 hf => ?_)
  refine wk_aload_n X dX1_copyFrom_16 0 rfl ?_
  refine wk_aload_n X dX1_copyFrom_17 1 rfl ?_
  refine wk_getI X dX1_copyFrom_18 fo_X1_18 hf (fun v5 hf => ?_)
  refine wk_putI X dX1_copyFrom_21 fo_X1_18 hf (fun h6 hf => ?_)
  refine wk_aload_n X dX1_copyFrom_24 0 rfl ?_
  refine wk_aload_n X dX1_copyFrom_25 1 rfl ?_
  refine wk_getI X dX1_copyFrom_26 fo_X1_21 hf (fun v7 hf => ?_)
  refine wk_putI X dX1_copyFrom_29 fo_X1_21 hf (fun h8 hf => ?_)
  refine wk_aload_n X dX1_copyFrom_32 0 rfl ?_
  refine wk_aload_n X dX1_copyFrom_33 1 rfl ?_
  refine wk_getI X dX1_copyFrom_34 fo_X1_24 hf (fun v9 hf => ?_)
  refine wk_putI X dX1_copyFrom_37 fo_X1_24 hf (fun h10 hf => ?_)
  refine wk_aload_n X dX1_copyFrom_40 0 rfl ?_
  refine wk_getR X dX1_copyFrom_41 fo_X1_32 hf (fun v11 hf => ?_)
  refine wk_aload_n X dX1_copyFrom_44 1 rfl ?_
  refine wk_getR X dX1_copyFrom_45 fo_X1_32 hf (fun v12 hf => ?_)
  refine wk_callVv X [.ref v12] [] dX1_copyFrom_48 rfl vo_X1_46 rfl (by decide) (Nat.le_of_ble_eq_true rfl) hf (c_X2_copyFrom l _ _ _) (fun r13 hf => ?_)
  refine wk_aload_n X dX1_copyFrom_51 0 rfl ?_
  refine wk_getR X dX1_copyFrom_52 fo_X1_39 hf (fun v14 hf => ?_)
  refine wk_aload_n X dX1_copyFrom_55 1 rfl ?_
  refine wk_getR X dX1_copyFrom_56 fo_X1_39 hf (fun v15 hf => ?_)
  refine wk_callVv X [.ref v15] [] dX1_copyFrom_59 rfl vo_X1_50 rfl (by decide) (Nat.le_of_ble_eq_true rfl) hf (c_X6_copyFrom l _ _ _) (fun r16 hf => ?_)
  exact wk_return X dX1_copyFrom_62 hf
section Sf_X1_allBeats
variable {p : Program} {l : Launch} {e : Env} {s : State} {m : MethodId} {args : Array Value} {below : List Frame} {meth : Method} {c : Code} {G : hp_G} {o : Int32 × hp_H}
end Sf_X1_allBeats
def f_X1_allBeats (x0 : Nat) (h : hp_H) : Option (Int32 × hp_H) := gd h x0 1 ((rd_I h x0 1 0).bind fun v1 => some ((1 <<< (v1 &&& 31)) - (1 : Int32), h))
set_option maxRecDepth 20000 in
theorem c_X1_allBeats (l : Launch) (x0 : Nat) (h : hp_H) (r : Int32 × hp_H) (hf : f_X1_allBeats x0 h = some r) : cv l (1) yX1_allBeats cX1_allBeats 1 (some .int) 1 x0 [] h (some (.int r.1)) r.2 := by
  unfold f_X1_allBeats at hf
  refine cv_of (lv := [(0, .ref x0)]) hf (by decide +kernel) (Nat.le_of_ble_eq_true rfl) rfl (fun hf p e s m args below meth c G X => ?_)
  refine wk_iconst X dX1_allBeats_0 ic_1 ?_
  refine wk_aload_n X dX1_allBeats_1 0 rfl ?_
  refine wk_getI X dX1_allBeats_2 fo_X1_9 hf (fun v1 hf => ?_)
  refine wk_ishl X dX1_allBeats_5 ?_
  refine wk_iconst X dX1_allBeats_6 ic_1 ?_
  refine wk_isub X dX1_allBeats_7 ?_
  exact wk_ireturn X dX1_allBeats_8 hf
section Sf_X1_allMen
variable {p : Program} {l : Launch} {e : Env} {s : State} {m : MethodId} {args : Array Value} {below : List Frame} {meth : Method} {c : Code} {G : hp_G} {o : Int32 × hp_H}
end Sf_X1_allMen
def f_X1_allMen (x0 : Nat) (h : hp_H) : Option (Int32 × hp_H) := gd h x0 1 ((rd_I h x0 1 1).bind fun v1 => some ((1 <<< (v1 &&& 31)) - (1 : Int32), h))
set_option maxRecDepth 20000 in
theorem c_X1_allMen (l : Launch) (x0 : Nat) (h : hp_H) (r : Int32 × hp_H) (hf : f_X1_allMen x0 h = some r) : cv l (1) yX1_allMen cX1_allMen 1 (some .int) 1 x0 [] h (some (.int r.1)) r.2 := by
  unfold f_X1_allMen at hf
  refine cv_of (lv := [(0, .ref x0)]) hf (by decide +kernel) (Nat.le_of_ble_eq_true rfl) rfl (fun hf p e s m args below meth c G X => ?_)
  refine wk_iconst X dX1_allMen_0 ic_1 ?_
  refine wk_aload_n X dX1_allMen_1 0 rfl ?_
  refine wk_getI X dX1_allMen_2 fo_X1_15 hf (fun v1 hf => ?_)
  refine wk_ishl X dX1_allMen_5 ?_
  refine wk_iconst X dX1_allMen_6 ic_1 ?_
  refine wk_isub X dX1_allMen_7 ?_
  exact wk_ireturn X dX1_allMen_8 hf
section Sf_X1_mudOf
variable {p : Program} {l : Launch} {e : Env} {s : State} {m : MethodId} {args : Array Value} {below : List Frame} {meth : Method} {c : Code} {G : hp_G} {o : Int32 × hp_H}
def f_X1_mudOf_24 (t0 : Int32) (h : hp_H) : Option (Int32 × hp_H) := some (t0, h)
set_option maxRecDepth 20000 in
theorem w_X1_mudOf_24 (X : wx G p s m args meth c cX1_mudOf 2 RX1 (some .int)) (t0 : Int32) (h : hp_H) (hf : f_X1_mudOf_24 t0 h = some o) : wq p l e (mt_R (2) 0 0) s m args below meth c (MQ below (mt_Q G (some (.int o.1)) o.2) args s 0 0 (hp_A G)) G 2 0 0 24 [] [.int t0] h := by
  unfold f_X1_mudOf_24 at hf
  exact wk_ireturn X dX1_mudOf_24 hf
end Sf_X1_mudOf
def f_X1_mudOf (x0 : Nat) (x1 : Int32) (h : hp_H) : Option (Int32 × hp_H) := gd h x0 1 ((rd_I h x0 1 4).bind fun v1 => if 0 < v1 then ((rd_R h x0 1 5).bind fun v2 => (rd_I h x0 1 4).bind fun v3 => (hp_rem x1 v3).bind fun v4 => (f_X2_at v2 v4 h).bind fun r5 => f_X1_mudOf_24 r5.1 r5.2) else (f_X1_mudOf_24 2 h))
set_option maxRecDepth 20000 in
theorem c_X1_mudOf (l : Launch) (x0 : Nat) (x1 : Int32) (h : hp_H) (r : Int32 × hp_H) (hf : f_X1_mudOf x0 x1 h = some r) : cv l (2) yX1_mudOf cX1_mudOf 2 (some .int) 1 x0 [.int x1] h (some (.int r.1)) r.2 := by
  unfold f_X1_mudOf at hf
  refine cv_of (lv := [(0, .ref x0), (1, .int x1)]) hf (by decide +kernel) (Nat.le_of_ble_eq_true rfl) rfl (fun hf p e s m args below meth c G X => ?_)
  refine wk_aload_n X dX1_mudOf_0 0 rfl ?_
  refine wk_getI X dX1_mudOf_1 fo_X1_24 hf (fun v1 hf => ?_)
  refine wk_if_gt X 11 dX1_mudOf_4 (by decide) hf (fun hf => ?_) (fun hf => ?_)
  · refine wk_aload_n X dX1_mudOf_11 0 rfl ?_
    refine wk_getR X dX1_mudOf_12 fo_X1_32 hf (fun v2 hf => ?_)
    refine wk_iload_n X dX1_mudOf_15 1 rfl ?_
    refine wk_aload_n X dX1_mudOf_16 0 rfl ?_
    refine wk_getI X dX1_mudOf_17 fo_X1_24 hf (fun v3 hf => ?_)
    refine wk_irem X dX1_mudOf_20 hf (fun v4 hf => ?_)
    refine wk_callVi X [.int v4] [] dX1_mudOf_21 rfl vo_X1_53 rfl (by decide) (Nat.le_of_ble_eq_true rfl) hf (c_X2_at l _ _ _) (fun r5 hf => ?_)
    exact wq_sub [] rfl (w_X1_mudOf_24 X _ _ hf)
  · refine wk_iconst X dX1_mudOf_7 ic_2 ?_
    refine wk_goto X 24 dX1_mudOf_8 (by decide) ?_
    exact wq_sub [] rfl (w_X1_mudOf_24 X _ _ hf)
section Sf_X2_fill
variable {p : Program} {l : Launch} {e : Env} {s : State} {m : MethodId} {args : Array Value} {below : List Frame} {meth : Method} {c : Code} {G : hp_G} {o : hp_H}
def f_X2_fill_2 (k2 : Nat → Int32 → Int32 → hp_H → Option (hp_H)) (x0 : Nat) (x1 : Int32) (x2 : Int32) (h : hp_H) : Option (hp_H) := (rd_R h x0 2 0).bind fun v1 => (rd_L h v1).bind fun v2 => if v2 ≤ x2 then (some h) else ((rd_R h x0 2 0).bind fun v3 => (wr_A h v3 x2 x1).bind fun h4 => k2 x0 x1 (x2 + 1) h4)
set_option maxRecDepth 20000 in
theorem w_X2_fill_2 (X : wx G p s m args meth c cX2_fill 3 RX2 none) (k2 : Nat → Int32 → Int32 → hp_H → Option (hp_H)) (hk2 : ∀ (x0 : Nat) (x1 : Int32) (x2 : Int32) (h : hp_H), k2 x0 x1 x2 h = some o → wq p l e (mt_R (1) 0 0) s m args below meth c (MQ below (mt_Q G none o) args s 0 0 (hp_A G)) G 3 0 0 2 [(0, .ref x0), (1, .int x1), (2, .int x2)] [] h) (x0 : Nat) (x1 : Int32) (x2 : Int32) (h : hp_H) (hf : f_X2_fill_2 k2 x0 x1 x2 h = some o) : wq p l e (mt_R (1) 0 0) s m args below meth c (MQ below (mt_Q G none o) args s 0 0 (hp_A G)) G 3 0 0 2 [(0, .ref x0), (1, .int x1), (2, .int x2)] [] h := by
  unfold f_X2_fill_2 at hf
  refine wk_iload_n X dX2_fill_2 2 rfl ?_
  refine wk_aload_n X dX2_fill_3 0 rfl ?_
  refine wk_getR X dX2_fill_4 fo_X2_13 hf (fun v1 hf => ?_)
  refine wk_alen X dX2_fill_7 hf (fun v2 hf => ?_)
  refine wk_icmp_ge X 24 dX2_fill_8 (by decide) hf (fun hf => ?_) (fun hf => ?_)
  · exact wk_return X dX2_fill_24 hf
  · refine wk_aload_n X dX2_fill_11 0 rfl ?_
    refine wk_getR X dX2_fill_12 fo_X2_13 hf (fun v3 hf => ?_)
    refine wk_iload_n X dX2_fill_15 2 rfl ?_
    refine wk_iload_n X dX2_fill_16 1 rfl ?_
    refine wk_iast X dX2_fill_17 hf (fun h4 hf => ?_)
    refine wk_iinc (lv' := [(2, .int (x2 + 1)), (0, .ref x0), (1, .int x1)]) X dX2_fill_18 2 rfl ic_1 (by decide) rfl ?_
    refine wk_goto X 2 dX2_fill_21 (by decide) ?_
    exact wq_sub [1, 2, 0] rfl (hk2 _ _ _ _ hf)
def l_X2_fill_2 (x0 : Nat) (x1 : Int32) (x2 : Int32) (h : hp_H) : Option (hp_H) := lp (fun k (s : Nat × Int32 × Int32 × hp_H) => f_X2_fill_2  (fun a0 a1 a2 a3 => k (a0, a1, a2, a3)) s.1 s.2.1 s.2.2.1 s.2.2.2) 100000 (x0, x1, x2, h)
theorem wl_X2_fill_2 (X : wx G p s m args meth c cX2_fill 3 RX2 none) (x0 : Nat) (x1 : Int32) (x2 : Int32) (h : hp_H) (hf : l_X2_fill_2 x0 x1 x2 h = some o) : wq p l e (mt_R (1) 0 0) s m args below meth c (MQ below (mt_Q G none o) args s 0 0 (hp_A G)) G 3 0 0 2 [(0, .ref x0), (1, .int x1), (2, .int x2)] [] h :=
  lp_ind (P := fun (s_ : Nat × Int32 × Int32 × hp_H) => wq p l e (mt_R (1) 0 0) s m args below meth c (MQ below (mt_Q G none o) args s 0 0 (hp_A G)) G 3 0 0 2 [(0, .ref s_.1), (1, .int s_.2.1), (2, .int s_.2.2.1)] [] s_.2.2.2) (fun k s hk hf => w_X2_fill_2 X  (fun a0 a1 a2 a3 => k (a0, a1, a2, a3)) (fun a0 a1 a2 a3 hf => hk (a0, a1, a2, a3) hf) s.1 s.2.1 s.2.2.1 s.2.2.2 hf) 100000 (x0, x1, x2, h) hf
end Sf_X2_fill
def f_X2_fill (x0 : Nat) (x1 : Int32) (h : hp_H) : Option (hp_H) := gd h x0 2 (l_X2_fill_2 x0 x1 0 h)
set_option maxRecDepth 20000 in
theorem c_X2_fill (l : Launch) (x0 : Nat) (x1 : Int32) (h : hp_H) (r : hp_H) (hf : f_X2_fill x0 x1 h = some r) : cv l (1) yX2_fill cX2_fill 3 none 2 x0 [.int x1] h none r := by
  unfold f_X2_fill at hf
  refine cv_of (lv := [(0, .ref x0), (1, .int x1)]) hf (by decide +kernel) (Nat.le_of_ble_eq_true rfl) rfl (fun hf p e s m args below meth c G X => ?_)
  refine wk_iconst X dX2_fill_0 ic_0 ?_
  refine wk_istore_n (lv' := [(2, .int 0), (0, .ref x0), (1, .int x1)]) X dX2_fill_1 (by decide) rfl ?_
  exact wq_sub [1, 2, 0] rfl (wl_X2_fill_2 X _ _ _ _ hf)
section Sf_X6_give
variable {p : Program} {l : Launch} {e : Env} {s : State} {m : MethodId} {args : Array Value} {below : List Frame} {meth : Method} {c : Code} {G : hp_G} {o : hp_H}
end Sf_X6_give
def f_X6_give (x0 : Nat) (x1 : Int32) (x2 : Int32) (h : hp_H) : Option (hp_H) := gd h x0 6 ((rd_R h x0 6 2).bind fun v1 => (f_X2_set v1 ((-1) - x1) x2 h).bind fun r2 => some r2)
set_option maxRecDepth 20000 in
theorem c_X6_give (l : Launch) (x0 : Nat) (x1 : Int32) (x2 : Int32) (h : hp_H) (r : hp_H) (hf : f_X6_give x0 x1 x2 h = some r) : cv l (2) yX6_give cX6_give 3 none 6 x0 [.int x1, .int x2] h none r := by
  unfold f_X6_give at hf
  refine cv_of (lv := [(0, .ref x0), (1, .int x1), (2, .int x2)]) hf (by decide +kernel) (Nat.le_of_ble_eq_true rfl) rfl (fun hf p e s m args below meth c G X => ?_)
  refine wk_aload_n X dX6_give_0 0 rfl ?_
  refine wk_getR X dX6_give_1 fo_X6_23 hf (fun v1 hf => ?_)
  refine wk_iconst X dX6_give_4 ic_m1 ?_
  refine wk_iload_n X dX6_give_5 1 rfl ?_
  refine wk_isub X dX6_give_6 ?_
  refine wk_iload_n X dX6_give_7 2 rfl ?_
  refine wk_callVv X [.int ((-1) - x1), .int x2] [] dX6_give_8 rfl vo_X6_30 rfl (by decide) (Nat.le_of_ble_eq_true rfl) hf (c_X2_set l _ _ _ _) (fun r2 hf => ?_)
  exact wk_return X dX6_give_11 hf
section Sf_X10_holds
variable {p : Program} {l : Launch} {e : Env} {s : State} {m : MethodId} {args : Array Value} {below : List Frame} {meth : Method} {c : Code} {G : hp_G} {o : Int32 × hp_H}
def f_X10_holds_13 (t0 : Int32) (h : hp_H) : Option (Int32 × hp_H) := if t0 = 0 ∨ t0 = 1 then some (t0, h) else none
set_option maxRecDepth 20000 in
theorem w_X10_holds_13 (X : wx G p s m args meth c cX10_holds 2 RX10 (some .boolean)) (t0 : Int32) (h : hp_H) (hf : f_X10_holds_13 t0 h = some o) : wq p l e (mt_R (1) 0 0) s m args below meth c (MQ below (mt_Q G (some (.int o.1)) o.2) args s 0 0 (hp_A G)) G 2 0 0 13 [] [.int t0] h := by
  unfold f_X10_holds_13 at hf
  exact wk_zreturn X dX10_holds_13 hf
end Sf_X10_holds
def f_X10_holds (x0 : Int32) (x1 : Int32) (h : hp_H) : Option (Int32 × hp_H) := if ((x0 >>> (x1 &&& 31)) &&& (1 : Int32)) = 0 then (f_X10_holds_13 0 h) else (f_X10_holds_13 1 h)
set_option maxRecDepth 20000 in
theorem c_X10_holds (l : Launch) (x0 : Int32) (x1 : Int32) (h : hp_H) (r : Int32 × hp_H) (hf : f_X10_holds x0 x1 h = some r) : cs l 1 yX10_holds cX10_holds 2 (some .boolean) [.int x0, .int x1] h (some (.int r.1)) r.2 := by
  unfold f_X10_holds at hf
  refine mt_of (lv := [(0, .int x0), (1, .int x1)]) (by decide +kernel) (Nat.le_of_ble_eq_true rfl) rfl (fun p e s m args below meth c G X => ?_)
  refine wk_iload_n X dX10_holds_0 0 rfl ?_
  refine wk_iload_n X dX10_holds_1 1 rfl ?_
  refine wk_ishr X dX10_holds_2 ?_
  refine wk_iconst X dX10_holds_3 ic_1 ?_
  refine wk_iand X dX10_holds_4 ?_
  refine wk_if_eq X 12 dX10_holds_5 (by decide) hf (fun hf => ?_) (fun hf => ?_)
  · refine wk_iconst X dX10_holds_12 ic_0 ?_
    exact wq_sub [] rfl (w_X10_holds_13 X _ _ hf)
  · refine wk_iconst X dX10_holds_8 ic_1 ?_
    refine wk_goto X 13 dX10_holds_9 (by decide) ?_
    exact wq_sub [] rfl (w_X10_holds_13 X _ _ hf)
section Sf_J6_bitCount_0f7a4
variable {p : Program} {l : Launch} {e : Env} {s : State} {m : MethodId} {args : Array Value} {below : List Frame} {meth : Method} {c : Code} {G : hp_G} {o : Int32 × hp_H}
end Sf_J6_bitCount_0f7a4
def f_J6_bitCount_0f7a4 (x0 : Int32) (h : hp_H) : Option (Int32 × hp_H) := some ((((((((x0 - ((hp_ushr x0 1) &&& 1431655765)) &&& 858993459) + ((hp_ushr (x0 - ((hp_ushr x0 1) &&& 1431655765)) 2) &&& 858993459)) + (hp_ushr (((x0 - ((hp_ushr x0 1) &&& 1431655765)) &&& 858993459) + ((hp_ushr (x0 - ((hp_ushr x0 1) &&& 1431655765)) 2) &&& 858993459)) 4)) &&& 252645135) + (hp_ushr (((((x0 - ((hp_ushr x0 1) &&& 1431655765)) &&& 858993459) + ((hp_ushr (x0 - ((hp_ushr x0 1) &&& 1431655765)) 2) &&& 858993459)) + (hp_ushr (((x0 - ((hp_ushr x0 1) &&& 1431655765)) &&& 858993459) + ((hp_ushr (x0 - ((hp_ushr x0 1) &&& 1431655765)) 2) &&& 858993459)) 4)) &&& 252645135) 8)) + (hp_ushr ((((((x0 - ((hp_ushr x0 1) &&& 1431655765)) &&& 858993459) + ((hp_ushr (x0 - ((hp_ushr x0 1) &&& 1431655765)) 2) &&& 858993459)) + (hp_ushr (((x0 - ((hp_ushr x0 1) &&& 1431655765)) &&& 858993459) + ((hp_ushr (x0 - ((hp_ushr x0 1) &&& 1431655765)) 2) &&& 858993459)) 4)) &&& 252645135) + (hp_ushr (((((x0 - ((hp_ushr x0 1) &&& 1431655765)) &&& 858993459) + ((hp_ushr (x0 - ((hp_ushr x0 1) &&& 1431655765)) 2) &&& 858993459)) + (hp_ushr (((x0 - ((hp_ushr x0 1) &&& 1431655765)) &&& 858993459) + ((hp_ushr (x0 - ((hp_ushr x0 1) &&& 1431655765)) 2) &&& 858993459)) 4)) &&& 252645135) 8)) 16)) &&& 63, h)
set_option maxRecDepth 20000 in
theorem c_J6_bitCount_0f7a4 (l : Launch) (x0 : Int32) (h : hp_H) (r : Int32 × hp_H) (hf : f_J6_bitCount_0f7a4 x0 h = some r) : cs l 1 yJ6_bitCount_0f7a4 cJ6_bitCount_0f7a4 1 (some .int) [.int x0] h (some (.int r.1)) r.2 := by
  unfold f_J6_bitCount_0f7a4 at hf
  refine mt_of (lv := [(0, .int x0)]) (by decide +kernel) (Nat.le_of_ble_eq_true rfl) rfl (fun p e s m args below meth c G X => ?_)
  refine wk_iload_n X dJ6_bitCount_0f7a4_0 0 rfl ?_
  refine wk_iload_n X dJ6_bitCount_0f7a4_1 0 rfl ?_
  refine wk_iconst X dJ6_bitCount_0f7a4_2 ic_1 ?_
  refine wk_iushr X dJ6_bitCount_0f7a4_3 ?_
  refine wk_ldcw X dJ6_bitCount_0f7a4_4 mt_J6_265 ?_
  refine wk_iand X dJ6_bitCount_0f7a4_7 ?_
  refine wk_isub X dJ6_bitCount_0f7a4_8 ?_
  refine wk_istore_n (lv' := [(0, .int (x0 - ((hp_ushr x0 1) &&& 1431655765)))]) X dJ6_bitCount_0f7a4_9 (by decide) rfl ?_
  refine wk_iload_n X dJ6_bitCount_0f7a4_10 0 rfl ?_
  refine wk_ldcw X dJ6_bitCount_0f7a4_11 mt_J6_266 ?_
  refine wk_iand X dJ6_bitCount_0f7a4_14 ?_
  refine wk_iload_n X dJ6_bitCount_0f7a4_15 0 rfl ?_
  refine wk_iconst X dJ6_bitCount_0f7a4_16 ic_2 ?_
  refine wk_iushr X dJ6_bitCount_0f7a4_17 ?_
  refine wk_ldcw X dJ6_bitCount_0f7a4_18 mt_J6_266 ?_
  refine wk_iand X dJ6_bitCount_0f7a4_21 ?_
  refine wk_iadd X dJ6_bitCount_0f7a4_22 ?_
  refine wk_istore_n (lv' := [(0, .int (((x0 - ((hp_ushr x0 1) &&& 1431655765)) &&& 858993459) + ((hp_ushr (x0 - ((hp_ushr x0 1) &&& 1431655765)) 2) &&& 858993459)))]) X dJ6_bitCount_0f7a4_23 (by decide) rfl ?_
  refine wk_iload_n X dJ6_bitCount_0f7a4_24 0 rfl ?_
  refine wk_iload_n X dJ6_bitCount_0f7a4_25 0 rfl ?_
  refine wk_iconst X dJ6_bitCount_0f7a4_26 ic_4 ?_
  refine wk_iushr X dJ6_bitCount_0f7a4_27 ?_
  refine wk_iadd X dJ6_bitCount_0f7a4_28 ?_
  refine wk_ldcw X dJ6_bitCount_0f7a4_29 mt_J6_267 ?_
  refine wk_iand X dJ6_bitCount_0f7a4_32 ?_
  refine wk_istore_n (lv' := [(0, .int (((((x0 - ((hp_ushr x0 1) &&& 1431655765)) &&& 858993459) + ((hp_ushr (x0 - ((hp_ushr x0 1) &&& 1431655765)) 2) &&& 858993459)) + (hp_ushr (((x0 - ((hp_ushr x0 1) &&& 1431655765)) &&& 858993459) + ((hp_ushr (x0 - ((hp_ushr x0 1) &&& 1431655765)) 2) &&& 858993459)) 4)) &&& 252645135))]) X dJ6_bitCount_0f7a4_33 (by decide) rfl ?_
  refine wk_iload_n X dJ6_bitCount_0f7a4_34 0 rfl ?_
  refine wk_iload_n X dJ6_bitCount_0f7a4_35 0 rfl ?_
  refine wk_bipush X dJ6_bitCount_0f7a4_36 ib_8 ?_
  refine wk_iushr X dJ6_bitCount_0f7a4_38 ?_
  refine wk_iadd X dJ6_bitCount_0f7a4_39 ?_
  refine wk_istore_n (lv' := [(0, .int ((((((x0 - ((hp_ushr x0 1) &&& 1431655765)) &&& 858993459) + ((hp_ushr (x0 - ((hp_ushr x0 1) &&& 1431655765)) 2) &&& 858993459)) + (hp_ushr (((x0 - ((hp_ushr x0 1) &&& 1431655765)) &&& 858993459) + ((hp_ushr (x0 - ((hp_ushr x0 1) &&& 1431655765)) 2) &&& 858993459)) 4)) &&& 252645135) + (hp_ushr (((((x0 - ((hp_ushr x0 1) &&& 1431655765)) &&& 858993459) + ((hp_ushr (x0 - ((hp_ushr x0 1) &&& 1431655765)) 2) &&& 858993459)) + (hp_ushr (((x0 - ((hp_ushr x0 1) &&& 1431655765)) &&& 858993459) + ((hp_ushr (x0 - ((hp_ushr x0 1) &&& 1431655765)) 2) &&& 858993459)) 4)) &&& 252645135) 8)))]) X dJ6_bitCount_0f7a4_40 (by decide) rfl ?_
  refine wk_iload_n X dJ6_bitCount_0f7a4_41 0 rfl ?_
  refine wk_iload_n X dJ6_bitCount_0f7a4_42 0 rfl ?_
  refine wk_bipush X dJ6_bitCount_0f7a4_43 ib_16 ?_
  refine wk_iushr X dJ6_bitCount_0f7a4_45 ?_
  refine wk_iadd X dJ6_bitCount_0f7a4_46 ?_
  refine wk_istore_n (lv' := [(0, .int (((((((x0 - ((hp_ushr x0 1) &&& 1431655765)) &&& 858993459) + ((hp_ushr (x0 - ((hp_ushr x0 1) &&& 1431655765)) 2) &&& 858993459)) + (hp_ushr (((x0 - ((hp_ushr x0 1) &&& 1431655765)) &&& 858993459) + ((hp_ushr (x0 - ((hp_ushr x0 1) &&& 1431655765)) 2) &&& 858993459)) 4)) &&& 252645135) + (hp_ushr (((((x0 - ((hp_ushr x0 1) &&& 1431655765)) &&& 858993459) + ((hp_ushr (x0 - ((hp_ushr x0 1) &&& 1431655765)) 2) &&& 858993459)) + (hp_ushr (((x0 - ((hp_ushr x0 1) &&& 1431655765)) &&& 858993459) + ((hp_ushr (x0 - ((hp_ushr x0 1) &&& 1431655765)) 2) &&& 858993459)) 4)) &&& 252645135) 8)) + (hp_ushr ((((((x0 - ((hp_ushr x0 1) &&& 1431655765)) &&& 858993459) + ((hp_ushr (x0 - ((hp_ushr x0 1) &&& 1431655765)) 2) &&& 858993459)) + (hp_ushr (((x0 - ((hp_ushr x0 1) &&& 1431655765)) &&& 858993459) + ((hp_ushr (x0 - ((hp_ushr x0 1) &&& 1431655765)) 2) &&& 858993459)) 4)) &&& 252645135) + (hp_ushr (((((x0 - ((hp_ushr x0 1) &&& 1431655765)) &&& 858993459) + ((hp_ushr (x0 - ((hp_ushr x0 1) &&& 1431655765)) 2) &&& 858993459)) + (hp_ushr (((x0 - ((hp_ushr x0 1) &&& 1431655765)) &&& 858993459) + ((hp_ushr (x0 - ((hp_ushr x0 1) &&& 1431655765)) 2) &&& 858993459)) 4)) &&& 252645135) 8)) 16)))]) X dJ6_bitCount_0f7a4_47 (by decide) rfl ?_
  refine wk_iload_n X dJ6_bitCount_0f7a4_48 0 rfl ?_
  refine wk_bipush X dJ6_bitCount_0f7a4_49 ib_63 ?_
  refine wk_iand X dJ6_bitCount_0f7a4_51 ?_
  exact wk_ireturn X dJ6_bitCount_0f7a4_52 hf
section Sf_X6_joined
variable {p : Program} {l : Launch} {e : Env} {s : State} {m : MethodId} {args : Array Value} {below : List Frame} {meth : Method} {c : Code} {G : hp_G} {o : Int32 × hp_H}
def f_X6_joined_117 (t0 : Int32) (h : hp_H) : Option (Int32 × hp_H) := some (t0, h)
set_option maxRecDepth 20000 in
theorem w_X6_joined_117 (X : wx G p s m args meth c cX6_joined 3 RX6 (some .int)) (t0 : Int32) (h : hp_H) (hf : f_X6_joined_117 t0 h = some o) : wq p l e (mt_R (1) 0 0) s m args below meth c (MQ below (mt_Q G (some (.int o.1)) o.2) args s 0 0 (hp_A G)) G 3 0 0 117 [] [.int t0] h := by
  unfold f_X6_joined_117 at hf
  exact wk_ireturn X dX6_joined_117 hf
def f_X6_joined_112  (h : hp_H) : Option (Int32 × hp_H) := f_X6_joined_117 1 h
set_option maxRecDepth 20000 in
theorem w_X6_joined_112 (X : wx G p s m args meth c cX6_joined 3 RX6 (some .int))  (h : hp_H) (hf : f_X6_joined_112 h = some o) : wq p l e (mt_R (1) 0 0) s m args below meth c (MQ below (mt_Q G (some (.int o.1)) o.2) args s 0 0 (hp_A G)) G 3 0 0 112 [] [] h := by
  unfold f_X6_joined_112 at hf
  refine wk_iconst X dX6_joined_112 ic_1 ?_
  refine wk_goto X 117 dX6_joined_113 (by decide) ?_
  exact wq_sub [] rfl (w_X6_joined_117 X _ _ hf)
def f_X6_joined_103 (t0 : Int32) (h : hp_H) : Option (Int32 × hp_H) := some (t0, h)
set_option maxRecDepth 20000 in
theorem w_X6_joined_103 (X : wx G p s m args meth c cX6_joined 3 RX6 (some .int)) (t0 : Int32) (h : hp_H) (hf : f_X6_joined_103 t0 h = some o) : wq p l e (mt_R (1) 0 0) s m args below meth c (MQ below (mt_Q G (some (.int o.1)) o.2) args s 0 0 (hp_A G)) G 3 0 0 103 [] [.int t0] h := by
  unfold f_X6_joined_103 at hf
  exact wk_ireturn X dX6_joined_103 hf
def f_X6_joined_102  (h : hp_H) : Option (Int32 × hp_H) := f_X6_joined_103 0 h
set_option maxRecDepth 20000 in
theorem w_X6_joined_102 (X : wx G p s m args meth c cX6_joined 3 RX6 (some .int))  (h : hp_H) (hf : f_X6_joined_102 h = some o) : wq p l e (mt_R (1) 0 0) s m args below meth c (MQ below (mt_Q G (some (.int o.1)) o.2) args s 0 0 (hp_A G)) G 3 0 0 102 [] [] h := by
  unfold f_X6_joined_102 at hf
  refine wk_iconst X dX6_joined_102 ic_0 ?_
  exact wq_sub [] rfl (w_X6_joined_103 X _ _ hf)
def f_X6_joined_89 (t0 : Int32) (h : hp_H) : Option (Int32 × hp_H) := some (t0, h)
set_option maxRecDepth 20000 in
theorem w_X6_joined_89 (X : wx G p s m args meth c cX6_joined 3 RX6 (some .int)) (t0 : Int32) (h : hp_H) (hf : f_X6_joined_89 t0 h = some o) : wq p l e (mt_R (1) 0 0) s m args below meth c (MQ below (mt_Q G (some (.int o.1)) o.2) args s 0 0 (hp_A G)) G 3 0 0 89 [] [.int t0] h := by
  unfold f_X6_joined_89 at hf
  exact wk_ireturn X dX6_joined_89 hf
def f_X6_joined_78 (t0 : Int32) (h : hp_H) : Option (Int32 × hp_H) := some (t0, h)
set_option maxRecDepth 20000 in
theorem w_X6_joined_78 (X : wx G p s m args meth c cX6_joined 3 RX6 (some .int)) (t0 : Int32) (h : hp_H) (hf : f_X6_joined_78 t0 h = some o) : wq p l e (mt_R (1) 0 0) s m args below meth c (MQ below (mt_Q G (some (.int o.1)) o.2) args s 0 0 (hp_A G)) G 3 0 0 78 [] [.int t0] h := by
  unfold f_X6_joined_78 at hf
  exact wk_ireturn X dX6_joined_78 hf
def f_X6_joined_67 (t0 : Int32) (h : hp_H) : Option (Int32 × hp_H) := some (t0, h)
set_option maxRecDepth 20000 in
theorem w_X6_joined_67 (X : wx G p s m args meth c cX6_joined 3 RX6 (some .int)) (t0 : Int32) (h : hp_H) (hf : f_X6_joined_67 t0 h = some o) : wq p l e (mt_R (1) 0 0) s m args below meth c (MQ below (mt_Q G (some (.int o.1)) o.2) args s 0 0 (hp_A G)) G 3 0 0 67 [] [.int t0] h := by
  unfold f_X6_joined_67 at hf
  exact wk_ireturn X dX6_joined_67 hf
end Sf_X6_joined
def f_X6_joined (x0 : Int32) (x1 : Int32) (x2 : Int32) (h : hp_H) : Option (Int32 × hp_H) := if x0 = (-14) then (if x1 = 0 then (f_X6_joined_102 h) else (if x2 = 0 then (f_X6_joined_102 h) else (f_X6_joined_103 1 h))) else (if x0 = (-13) then (if x1 = x2 then (f_X6_joined_89 1 h) else (f_X6_joined_89 0 h)) else (if x0 = (-12) then (if x2 ≤ x1 then (f_X6_joined_78 0 h) else (f_X6_joined_78 1 h)) else (if x0 = (-11) then (if x2 = 0 then (f_X6_joined_67 0 h) else ((hp_div x1 x2).bind fun v1 => f_X6_joined_67 v1 h)) else (if x0 = (-10) then (some (x1 * x2, h)) else (if x0 = (-9) then (some (x1 - x2, h)) else (if x0 = (-8) then (some (x1 + x2, h)) else (if x1 = 0 then (if x2 = 0 then (f_X6_joined_117 0 h) else (f_X6_joined_112 h)) else (f_X6_joined_112 h))))))))
set_option maxRecDepth 20000 in
theorem c_X6_joined (l : Launch) (x0 : Int32) (x1 : Int32) (x2 : Int32) (h : hp_H) (r : Int32 × hp_H) (hf : f_X6_joined x0 x1 x2 h = some r) : cs l 1 yX6_joined cX6_joined 3 (some .int) [.int x0, .int x1, .int x2] h (some (.int r.1)) r.2 := by
  unfold f_X6_joined at hf
  refine mt_of (lv := [(0, .int x0), (1, .int x1), (2, .int x2)]) (by decide +kernel) (Nat.le_of_ble_eq_true rfl) rfl (fun p e s m args below meth c G X => ?_)
  refine wk_iload_n X dX6_joined_0 0 rfl ?_
  refine wk_ts_in X 90 0 dX6_joined_1 (by decide) (by decide) (by decide) rfl (by decide) hf (fun hf => ?_) (fun n0 hf => ?_)
  · refine wk_iload_n X dX6_joined_90 1 rfl ?_
    refine wk_if_eq X 102 dX6_joined_91 (by decide) hf (fun hf => ?_) (fun hf => ?_)
    · exact wq_sub [] rfl (w_X6_joined_102 X _ hf)
    · refine wk_iload_n X dX6_joined_94 2 rfl ?_
      refine wk_if_eq X 102 dX6_joined_95 (by decide) hf (fun hf => ?_) (fun hf => ?_)
      · exact wq_sub [] rfl (w_X6_joined_102 X _ hf)
      · refine wk_iconst X dX6_joined_98 ic_1 ?_
        refine wk_goto X 103 dX6_joined_99 (by decide) ?_
        exact wq_sub [] rfl (w_X6_joined_103 X _ _ hf)
  refine wk_ts_in X 79 1 dX6_joined_1 (by decide) (by decide) (by decide) rfl (by decide) hf (fun hf => ?_) (fun n1 hf => ?_)
  · refine wk_iload_n X dX6_joined_79 1 rfl ?_
    refine wk_iload_n X dX6_joined_80 2 rfl ?_
    refine wk_icmp_ne X 88 dX6_joined_81 (by decide) hf (fun hf => ?_) (fun hf => ?_)
    · refine wk_iconst X dX6_joined_88 ic_0 ?_
      exact wq_sub [] rfl (w_X6_joined_89 X _ _ hf)
    · refine wk_iconst X dX6_joined_84 ic_1 ?_
      refine wk_goto X 89 dX6_joined_85 (by decide) ?_
      exact wq_sub [] rfl (w_X6_joined_89 X _ _ hf)
  refine wk_ts_in X 68 2 dX6_joined_1 (by decide) (by decide) (by decide) rfl (by decide) hf (fun hf => ?_) (fun n2 hf => ?_)
  · refine wk_iload_n X dX6_joined_68 1 rfl ?_
    refine wk_iload_n X dX6_joined_69 2 rfl ?_
    refine wk_icmp_ge X 77 dX6_joined_70 (by decide) hf (fun hf => ?_) (fun hf => ?_)
    · refine wk_iconst X dX6_joined_77 ic_0 ?_
      exact wq_sub [] rfl (w_X6_joined_78 X _ _ hf)
    · refine wk_iconst X dX6_joined_73 ic_1 ?_
      refine wk_goto X 78 dX6_joined_74 (by decide) ?_
      exact wq_sub [] rfl (w_X6_joined_78 X _ _ hf)
  refine wk_ts_in X 56 3 dX6_joined_1 (by decide) (by decide) (by decide) rfl (by decide) hf (fun hf => ?_) (fun n3 hf => ?_)
  · refine wk_iload_n X dX6_joined_56 2 rfl ?_
    refine wk_if_ne X 64 dX6_joined_57 (by decide) hf (fun hf => ?_) (fun hf => ?_)
    · refine wk_iload_n X dX6_joined_64 1 rfl ?_
      refine wk_iload_n X dX6_joined_65 2 rfl ?_
      refine wk_idiv X dX6_joined_66 hf (fun v1 hf => ?_)
      exact wq_sub [] rfl (w_X6_joined_67 X _ _ hf)
    · refine wk_iconst X dX6_joined_60 ic_0 ?_
      refine wk_goto X 67 dX6_joined_61 (by decide) ?_
      exact wq_sub [] rfl (w_X6_joined_67 X _ _ hf)
  refine wk_ts_in X 52 4 dX6_joined_1 (by decide) (by decide) (by decide) rfl (by decide) hf (fun hf => ?_) (fun n4 hf => ?_)
  · refine wk_iload_n X dX6_joined_52 1 rfl ?_
    refine wk_iload_n X dX6_joined_53 2 rfl ?_
    refine wk_imul X dX6_joined_54 ?_
    exact wk_ireturn X dX6_joined_55 hf
  refine wk_ts_in X 48 5 dX6_joined_1 (by decide) (by decide) (by decide) rfl (by decide) hf (fun hf => ?_) (fun n5 hf => ?_)
  · refine wk_iload_n X dX6_joined_48 1 rfl ?_
    refine wk_iload_n X dX6_joined_49 2 rfl ?_
    refine wk_isub X dX6_joined_50 ?_
    exact wk_ireturn X dX6_joined_51 hf
  refine wk_ts_in X 44 6 dX6_joined_1 (by decide) (by decide) (by decide) rfl (by decide) hf (fun hf => ?_) (fun n6 hf => ?_)
  · refine wk_iload_n X dX6_joined_44 1 rfl ?_
    refine wk_iload_n X dX6_joined_45 2 rfl ?_
    refine wk_iadd X dX6_joined_46 ?_
    exact wk_ireturn X dX6_joined_47 hf
  refine wk_ts_out X 104 dX6_joined_1 (fc_c n0 (fc_c n1 (fc_c n2 (fc_c n3 (fc_c n4 (fc_c n5 (fc_c n6 fc_n))))))) (by decide) (by decide) (by decide) ?_
  refine wk_iload_n X dX6_joined_104 1 rfl ?_
  refine wk_if_ne X 112 dX6_joined_105 (by decide) hf (fun hf => ?_) (fun hf => ?_)
  · exact wq_sub [] rfl (w_X6_joined_112 X _ hf)
  · refine wk_iload_n X dX6_joined_108 2 rfl ?_
    refine wk_if_eq X 116 dX6_joined_109 (by decide) hf (fun hf => ?_) (fun hf => ?_)
    · refine wk_iconst X dX6_joined_116 ic_0 ?_
      exact wq_sub [] rfl (w_X6_joined_117 X _ _ hf)
    · exact wq_sub [] rfl (w_X6_joined_112 X _ hf)
section Sf_X6_answer
variable {p : Program} {l : Launch} {e : Env} {s : State} {m : MethodId} {args : Array Value} {below : List Frame} {meth : Method} {c : Code} {G : hp_G} {o : Int32 × hp_H}
def f_X6_answer_137 (x0 : Nat) (h : hp_H) : Option (Int32 × hp_H) := (rd_R h x0 6 0).bind fun v1 => (f_X2_at v1 0 h).bind fun r2 => some (r2.1, r2.2)
set_option maxRecDepth 20000 in
theorem w_X6_answer_137 (X : wx G p s m args meth c cX6_answer 4 RX6 (some .int)) (x0 : Nat) (h : hp_H) (hf : f_X6_answer_137 x0 h = some o) : wq p l e (mt_R (2) 0 0) s m args below meth c (MQ below (mt_Q G (some (.int o.1)) o.2) args s 0 0 (hp_A G)) G 4 0 0 137 [(0, .ref x0)] [] h := by
  unfold f_X6_answer_137 at hf
  refine wk_aload_n X dX6_answer_137 0 rfl ?_
  refine wk_getR X dX6_answer_138 fo_X6_14 hf (fun v1 hf => ?_)
  refine wk_iconst X dX6_answer_141 ic_0 ?_
  refine wk_callVi X [.int 0] [] dX6_answer_142 rfl vo_X6_34 rfl (by decide) (Nat.le_of_ble_eq_true rfl) hf (c_X2_at l _ _ _) (fun r2 hf => ?_)
  exact wk_ireturn X dX6_answer_145 hf
def f_X6_answer_131 (k4 : Nat → Int32 → Int32 → hp_H → Option (Int32 × hp_H)) (x0 : Nat) (x1 : Int32) (x2 : Int32) (h : hp_H) : Option (Int32 × hp_H) := k4 x0 x1 (x2 + 1) h
set_option maxRecDepth 20000 in
theorem w_X6_answer_131 (X : wx G p s m args meth c cX6_answer 4 RX6 (some .int)) (k4 : Nat → Int32 → Int32 → hp_H → Option (Int32 × hp_H)) (hk4 : ∀ (x0 : Nat) (x1 : Int32) (x2 : Int32) (h : hp_H), k4 x0 x1 x2 h = some o → wq p l e (mt_R (2) 0 0) s m args below meth c (MQ below (mt_Q G (some (.int o.1)) o.2) args s 0 0 (hp_A G)) G 4 0 0 4 [(0, .ref x0), (1, .int x1), (2, .int x2)] [] h) (x0 : Nat) (x1 : Int32) (x2 : Int32) (h : hp_H) (hf : f_X6_answer_131 k4 x0 x1 x2 h = some o) : wq p l e (mt_R (2) 0 0) s m args below meth c (MQ below (mt_Q G (some (.int o.1)) o.2) args s 0 0 (hp_A G)) G 4 0 0 131 [(0, .ref x0), (1, .int x1), (2, .int x2)] [] h := by
  unfold f_X6_answer_131 at hf
  refine wk_iinc (lv' := [(2, .int (x2 + 1)), (0, .ref x0), (1, .int x1)]) X dX6_answer_131 2 rfl ic_1 (by decide) rfl ?_
  refine wk_goto X 4 dX6_answer_134 (by decide) ?_
  exact wq_sub [1, 2, 0] rfl (hk4 _ _ _ _ hf)
def f_X6_answer_90 (k4 : Nat → Int32 → Int32 → hp_H → Option (Int32 × hp_H)) (x0 : Nat) (x1 : Int32) (x2 : Int32) (t0 : Nat) (t1 : Int32) (t2 : Int32) (h : hp_H) : Option (Int32 × hp_H) := (f_X2_set t0 t1 t2 h).bind fun r1 => f_X6_answer_131 k4 x0 x1 x2 r1
set_option maxRecDepth 20000 in
theorem w_X6_answer_90 (X : wx G p s m args meth c cX6_answer 4 RX6 (some .int)) (k4 : Nat → Int32 → Int32 → hp_H → Option (Int32 × hp_H)) (hk4 : ∀ (x0 : Nat) (x1 : Int32) (x2 : Int32) (h : hp_H), k4 x0 x1 x2 h = some o → wq p l e (mt_R (2) 0 0) s m args below meth c (MQ below (mt_Q G (some (.int o.1)) o.2) args s 0 0 (hp_A G)) G 4 0 0 4 [(0, .ref x0), (1, .int x1), (2, .int x2)] [] h) (x0 : Nat) (x1 : Int32) (x2 : Int32) (t0 : Nat) (t1 : Int32) (t2 : Int32) (h : hp_H) (hf : f_X6_answer_90 k4 x0 x1 x2 t0 t1 t2 h = some o) : wq p l e (mt_R (2) 0 0) s m args below meth c (MQ below (mt_Q G (some (.int o.1)) o.2) args s 0 0 (hp_A G)) G 4 0 0 90 [(0, .ref x0), (1, .int x1), (2, .int x2)] [.int t2, .int t1, .ref t0] h := by
  unfold f_X6_answer_90 at hf
  refine wk_callVv X [.int t1, .int t2] [] dX6_answer_90 rfl vo_X6_30 rfl (by decide) (Nat.le_of_ble_eq_true rfl) hf (c_X2_set l _ _ _ _) (fun r1 hf => ?_)
  refine wk_goto X 131 dX6_answer_93 (by decide) ?_
  exact wq_sub [0, 1, 2] rfl (w_X6_answer_131 X k4 hk4 _ _ _ _ hf)
def f_X6_answer_50 (k4 : Nat → Int32 → Int32 → hp_H → Option (Int32 × hp_H)) (x0 : Nat) (x1 : Int32) (x2 : Int32) (t0 : Nat) (t1 : Int32) (t2 : Int32) (h : hp_H) : Option (Int32 × hp_H) := (f_X2_set t0 t1 t2 h).bind fun r1 => f_X6_answer_131 k4 x0 (x1 + 1) x2 r1
set_option maxRecDepth 20000 in
theorem w_X6_answer_50 (X : wx G p s m args meth c cX6_answer 4 RX6 (some .int)) (k4 : Nat → Int32 → Int32 → hp_H → Option (Int32 × hp_H)) (hk4 : ∀ (x0 : Nat) (x1 : Int32) (x2 : Int32) (h : hp_H), k4 x0 x1 x2 h = some o → wq p l e (mt_R (2) 0 0) s m args below meth c (MQ below (mt_Q G (some (.int o.1)) o.2) args s 0 0 (hp_A G)) G 4 0 0 4 [(0, .ref x0), (1, .int x1), (2, .int x2)] [] h) (x0 : Nat) (x1 : Int32) (x2 : Int32) (t0 : Nat) (t1 : Int32) (t2 : Int32) (h : hp_H) (hf : f_X6_answer_50 k4 x0 x1 x2 t0 t1 t2 h = some o) : wq p l e (mt_R (2) 0 0) s m args below meth c (MQ below (mt_Q G (some (.int o.1)) o.2) args s 0 0 (hp_A G)) G 4 0 0 50 [(0, .ref x0), (1, .int x1), (2, .int x2)] [.int t2, .int t1, .ref t0] h := by
  unfold f_X6_answer_50 at hf
  refine wk_callVv X [.int t1, .int t2] [] dX6_answer_50 rfl vo_X6_30 rfl (by decide) (Nat.le_of_ble_eq_true rfl) hf (c_X2_set l _ _ _ _) (fun r1 hf => ?_)
  refine wk_iinc (lv' := [(1, .int (x1 + 1)), (0, .ref x0), (2, .int x2)]) X dX6_answer_53 1 rfl ic_1 (by decide) rfl ?_
  refine wk_goto X 131 dX6_answer_56 (by decide) ?_
  exact wq_sub [1, 0, 2] rfl (w_X6_answer_131 X k4 hk4 _ _ _ _ hf)
def f_X6_answer_4 (k4 : Nat → Int32 → Int32 → hp_H → Option (Int32 × hp_H)) (x0 : Nat) (x1 : Int32) (x2 : Int32) (h : hp_H) : Option (Int32 × hp_H) := (rd_I h x0 6 3).bind fun v1 => if v1 ≤ x2 then (f_X6_answer_137 x0 h) else ((rd_R h x0 6 1).bind fun v2 => (f_X2_at v2 x2 h).bind fun r3 => if r3.1 ≤ (-7) then (if r3.1 = (-7) then ((rd_R r3.2 x0 6 0).bind fun v11 => (rd_R r3.2 x0 6 0).bind fun v12 => (f_X2_at v12 (x1 - 1) r3.2).bind fun r13 => if r13.1 = 0 then (f_X6_answer_90 k4 x0 x1 x2 v11 (x1 - 1) 1 r13.2) else (f_X6_answer_90 k4 x0 x1 x2 v11 (x1 - 1) 0 r13.2)) else ((rd_R r3.2 x0 6 0).bind fun v4 => (rd_R r3.2 x0 6 0).bind fun v5 => (f_X2_at v5 ((x1 + (-1)) - 1) r3.2).bind fun r6 => (rd_R r6.2 x0 6 0).bind fun v7 => (f_X2_at v7 (x1 + (-1)) r6.2).bind fun r8 => (f_X6_joined r3.1 r6.1 r8.1 r8.2).bind fun r9 => (f_X2_set v4 ((x1 + (-1)) - 1) r9.1 r9.2).bind fun r10 => f_X6_answer_131 k4 x0 (x1 + (-1)) x2 r10)) else ((rd_R r3.2 x0 6 0).bind fun v14 => if r3.1 < 0 then ((rd_R r3.2 x0 6 2).bind fun v15 => (f_X2_at v15 ((-1) - r3.1) r3.2).bind fun r16 => f_X6_answer_50 k4 x0 x1 x2 v14 x1 r16.1 r16.2) else (f_X6_answer_50 k4 x0 x1 x2 v14 x1 r3.1 r3.2)))
set_option maxRecDepth 20000 in
theorem w_X6_answer_4 (X : wx G p s m args meth c cX6_answer 4 RX6 (some .int)) (k4 : Nat → Int32 → Int32 → hp_H → Option (Int32 × hp_H)) (hk4 : ∀ (x0 : Nat) (x1 : Int32) (x2 : Int32) (h : hp_H), k4 x0 x1 x2 h = some o → wq p l e (mt_R (2) 0 0) s m args below meth c (MQ below (mt_Q G (some (.int o.1)) o.2) args s 0 0 (hp_A G)) G 4 0 0 4 [(0, .ref x0), (1, .int x1), (2, .int x2)] [] h) (x0 : Nat) (x1 : Int32) (x2 : Int32) (h : hp_H) (hf : f_X6_answer_4 k4 x0 x1 x2 h = some o) : wq p l e (mt_R (2) 0 0) s m args below meth c (MQ below (mt_Q G (some (.int o.1)) o.2) args s 0 0 (hp_A G)) G 4 0 0 4 [(0, .ref x0), (1, .int x1), (2, .int x2)] [] h := by
  unfold f_X6_answer_4 at hf
  refine wk_iload_n X dX6_answer_4 2 rfl ?_
  refine wk_aload_n X dX6_answer_5 0 rfl ?_
  refine wk_getI X dX6_answer_6 fo_X6_26 hf (fun v1 hf => ?_)
  refine wk_icmp_ge X 137 dX6_answer_9 (by decide) hf (fun hf => ?_) (fun hf => ?_)
  · exact wq_sub [0] rfl (w_X6_answer_137 X _ _ hf)
  · refine wk_aload_n X dX6_answer_12 0 rfl ?_
    refine wk_getR X dX6_answer_13 fo_X6_20 hf (fun v2 hf => ?_)
    refine wk_iload_n X dX6_answer_16 2 rfl ?_
    refine wk_callVi X [.int x2] [] dX6_answer_17 rfl vo_X6_34 rfl (by decide) (Nat.le_of_ble_eq_true rfl) hf (c_X2_at l _ _ _) (fun r3 hf => ?_)
    refine wk_istore_n (lv' := [(3, .int r3.1), (0, .ref x0), (1, .int x1), (2, .int x2)]) X dX6_answer_20 (by decide) rfl ?_
    refine wk_iload_n X dX6_answer_21 0 rfl ?_
    refine wk_bipush X dX6_answer_22 ib_m7 ?_
    refine wk_icmp_le X 59 dX6_answer_24 (by decide) hf (fun hf => ?_) (fun hf => ?_)
    · refine wk_iload_n X dX6_answer_59 0 rfl ?_
      refine wk_bipush X dX6_answer_60 ib_m7 ?_
      refine wk_icmp_ne X 96 dX6_answer_62 (by decide) hf (fun hf => ?_) (fun hf => ?_)
      · refine wk_iinc (lv' := [(1, .int (x1 + (-1))), (3, .int r3.1), (0, .ref x0), (2, .int x2)]) X dX6_answer_96 2 rfl ic_m1 (by decide) rfl ?_
        refine wk_aload_n X dX6_answer_99 2 rfl ?_
        refine wk_getR X dX6_answer_100 fo_X6_14 hf (fun v4 hf => ?_)
        refine wk_iload_n X dX6_answer_103 0 rfl ?_
        refine wk_iconst X dX6_answer_104 ic_1 ?_
        refine wk_isub X dX6_answer_105 ?_
        refine wk_iload_n X dX6_answer_106 1 rfl ?_
        refine wk_aload_n X dX6_answer_107 2 rfl ?_
        refine wk_getR X dX6_answer_108 fo_X6_14 hf (fun v5 hf => ?_)
        refine wk_iload_n X dX6_answer_111 0 rfl ?_
        refine wk_iconst X dX6_answer_112 ic_1 ?_
        refine wk_isub X dX6_answer_113 ?_
        refine wk_callVi X [.int ((x1 + (-1)) - 1)] [.int r3.1, .int ((x1 + (-1)) - 1), .ref v4] dX6_answer_114 rfl vo_X6_34 rfl (by decide) (Nat.le_of_ble_eq_true rfl) hf (c_X2_at l _ _ _) (fun r6 hf => ?_)
        refine wk_aload_n X dX6_answer_117 2 rfl ?_
        refine wk_getR X dX6_answer_118 fo_X6_14 hf (fun v7 hf => ?_)
        refine wk_iload_n X dX6_answer_121 0 rfl ?_
        refine wk_callVi X [.int (x1 + (-1))] [.int r6.1, .int r3.1, .int ((x1 + (-1)) - 1), .ref v4] dX6_answer_122 rfl vo_X6_34 rfl (by decide) (Nat.le_of_ble_eq_true rfl) hf (c_X2_at l _ _ _) (fun r8 hf => ?_)
        refine wk_callSi X [.int r3.1, .int r6.1, .int r8.1] [.int ((x1 + (-1)) - 1), .ref v4] dX6_answer_125 rfl vo_X6_38 rfl (by decide) (Nat.le_of_ble_eq_true rfl) hf (c_X6_joined l _ _ _ _) (fun r9 hf => ?_)
        refine wk_callVv X [.int ((x1 + (-1)) - 1), .int r9.1] [] dX6_answer_128 rfl vo_X6_30 rfl (by decide) (Nat.le_of_ble_eq_true rfl) hf (c_X2_set l _ _ _ _) (fun r10 hf => ?_)
        exact wq_sub [2, 0, 3] rfl (w_X6_answer_131 X k4 hk4 _ _ _ _ hf)
      · refine wk_aload_n X dX6_answer_65 1 rfl ?_
        refine wk_getR X dX6_answer_66 fo_X6_14 hf (fun v11 hf => ?_)
        refine wk_iload_n X dX6_answer_69 2 rfl ?_
        refine wk_iconst X dX6_answer_70 ic_1 ?_
        refine wk_isub X dX6_answer_71 ?_
        refine wk_aload_n X dX6_answer_72 1 rfl ?_
        refine wk_getR X dX6_answer_73 fo_X6_14 hf (fun v12 hf => ?_)
        refine wk_iload_n X dX6_answer_76 2 rfl ?_
        refine wk_iconst X dX6_answer_77 ic_1 ?_
        refine wk_isub X dX6_answer_78 ?_
        refine wk_callVi X [.int (x1 - 1)] [.int (x1 - 1), .ref v11] dX6_answer_79 rfl vo_X6_34 rfl (by decide) (Nat.le_of_ble_eq_true rfl) hf (c_X2_at l _ _ _) (fun r13 hf => ?_)
        refine wk_if_ne X 89 dX6_answer_82 (by decide) hf (fun hf => ?_) (fun hf => ?_)
        · refine wk_iconst X dX6_answer_89 ic_0 ?_
          exact wq_sub [1, 2, 3] rfl (w_X6_answer_90 X k4 hk4 _ _ _ _ _ _ _ hf)
        · refine wk_iconst X dX6_answer_85 ic_1 ?_
          refine wk_goto X 90 dX6_answer_86 (by decide) ?_
          exact wq_sub [1, 2, 3] rfl (w_X6_answer_90 X k4 hk4 _ _ _ _ _ _ _ hf)
    · refine wk_aload_n X dX6_answer_27 1 rfl ?_
      refine wk_getR X dX6_answer_28 fo_X6_14 hf (fun v14 hf => ?_)
      refine wk_iload_n X dX6_answer_31 2 rfl ?_
      refine wk_iload_n X dX6_answer_32 0 rfl ?_
      refine wk_if_lt X 40 dX6_answer_33 (by decide) hf (fun hf => ?_) (fun hf => ?_)
      · refine wk_aload_n X dX6_answer_40 1 rfl ?_
        refine wk_getR X dX6_answer_41 fo_X6_23 hf (fun v15 hf => ?_)
        refine wk_iconst X dX6_answer_44 ic_m1 ?_
        refine wk_iload_n X dX6_answer_45 0 rfl ?_
        refine wk_isub X dX6_answer_46 ?_
        refine wk_callVi X [.int ((-1) - r3.1)] [.int x1, .ref v14] dX6_answer_47 rfl vo_X6_34 rfl (by decide) (Nat.le_of_ble_eq_true rfl) hf (c_X2_at l _ _ _) (fun r16 hf => ?_)
        exact wq_sub [1, 2, 3] rfl (w_X6_answer_50 X k4 hk4 _ _ _ _ _ _ _ hf)
      · refine wk_iload_n X dX6_answer_36 0 rfl ?_
        refine wk_goto X 50 dX6_answer_37 (by decide) ?_
        exact wq_sub [1, 2, 3] rfl (w_X6_answer_50 X k4 hk4 _ _ _ _ _ _ _ hf)
def l_X6_answer_4 (x0 : Nat) (x1 : Int32) (x2 : Int32) (h : hp_H) : Option (Int32 × hp_H) := lp (fun k (s : Nat × Int32 × Int32 × hp_H) => f_X6_answer_4  (fun a0 a1 a2 a3 => k (a0, a1, a2, a3)) s.1 s.2.1 s.2.2.1 s.2.2.2) 100000 (x0, x1, x2, h)
theorem wl_X6_answer_4 (X : wx G p s m args meth c cX6_answer 4 RX6 (some .int)) (x0 : Nat) (x1 : Int32) (x2 : Int32) (h : hp_H) (hf : l_X6_answer_4 x0 x1 x2 h = some o) : wq p l e (mt_R (2) 0 0) s m args below meth c (MQ below (mt_Q G (some (.int o.1)) o.2) args s 0 0 (hp_A G)) G 4 0 0 4 [(0, .ref x0), (1, .int x1), (2, .int x2)] [] h :=
  lp_ind (P := fun (s_ : Nat × Int32 × Int32 × hp_H) => wq p l e (mt_R (2) 0 0) s m args below meth c (MQ below (mt_Q G (some (.int o.1)) o.2) args s 0 0 (hp_A G)) G 4 0 0 4 [(0, .ref s_.1), (1, .int s_.2.1), (2, .int s_.2.2.1)] [] s_.2.2.2) (fun k s hk hf => w_X6_answer_4 X  (fun a0 a1 a2 a3 => k (a0, a1, a2, a3)) (fun a0 a1 a2 a3 hf => hk (a0, a1, a2, a3) hf) s.1 s.2.1 s.2.2.1 s.2.2.2 hf) 100000 (x0, x1, x2, h) hf
end Sf_X6_answer
def f_X6_answer (x0 : Nat) (h : hp_H) : Option (Int32 × hp_H) := gd h x0 6 (l_X6_answer_4 x0 0 0 h)
set_option maxRecDepth 20000 in
theorem c_X6_answer (l : Launch) (x0 : Nat) (h : hp_H) (r : Int32 × hp_H) (hf : f_X6_answer x0 h = some r) : cv l (2) yX6_answer cX6_answer 4 (some .int) 6 x0 [] h (some (.int r.1)) r.2 := by
  unfold f_X6_answer at hf
  refine cv_of (lv := [(0, .ref x0)]) hf (by decide +kernel) (Nat.le_of_ble_eq_true rfl) rfl (fun hf p e s m args below meth c G X => ?_)
  refine wk_iconst X dX6_answer_0 ic_0 ?_
  refine wk_istore_n (lv' := [(1, .int 0), (0, .ref x0)]) X dX6_answer_1 (by decide) rfl ?_
  refine wk_iconst X dX6_answer_2 ic_0 ?_
  refine wk_istore_n (lv' := [(2, .int 0), (1, .int 0), (0, .ref x0)]) X dX6_answer_3 (by decide) rfl ?_
  exact wq_sub [2, 1, 0] rfl (wl_X6_answer_4 X _ _ _ _ hf)
section Sf_J0_isLatin1_aae02
variable {p : Program} {l : Launch} {e : Env} {s : State} {m : MethodId} {args : Array Value} {below : List Frame} {meth : Method} {c : Code} {G : hp_G} {o : Int32 × hp_H}
def f_J0_isLatin1_aae02_18 (t0 : Int32) (h : hp_H) : Option (Int32 × hp_H) := if t0 = 0 ∨ t0 = 1 then some (t0, h) else none
set_option maxRecDepth 20000 in
theorem w_J0_isLatin1_aae02_18 (X : wx G p s m args meth c cJ0_isLatin1_aae02 1 RJ0 (some .boolean)) (t0 : Int32) (h : hp_H) (hf : f_J0_isLatin1_aae02_18 t0 h = some o) : wq p l e (mt_R (1) 0 0) s m args below meth c (MQ below (mt_Q G (some (.int o.1)) o.2) args s 0 0 (hp_A G)) G 1 0 0 18 [] [.int t0] h := by
  unfold f_J0_isLatin1_aae02_18 at hf
  exact wk_zreturn X dJ0_isLatin1_aae02_18 hf
def f_J0_isLatin1_aae02_17  (h : hp_H) : Option (Int32 × hp_H) := f_J0_isLatin1_aae02_18 0 h
set_option maxRecDepth 20000 in
theorem w_J0_isLatin1_aae02_17 (X : wx G p s m args meth c cJ0_isLatin1_aae02 1 RJ0 (some .boolean))  (h : hp_H) (hf : f_J0_isLatin1_aae02_17 h = some o) : wq p l e (mt_R (1) 0 0) s m args below meth c (MQ below (mt_Q G (some (.int o.1)) o.2) args s 0 0 (hp_A G)) G 1 0 0 17 [] [] h := by
  unfold f_J0_isLatin1_aae02_17 at hf
  refine wk_iconst X dJ0_isLatin1_aae02_17 ic_0 ?_
  exact wq_sub [] rfl (w_J0_isLatin1_aae02_18 X _ _ hf)
end Sf_J0_isLatin1_aae02
def f_J0_isLatin1_aae02 (x0 : UInt32) (h : hp_H) : Option (Int32 × hp_H) := gs x0 (if (1 : Int32) = 0 then (f_J0_isLatin1_aae02_17 h) else ((js_C x0).bind fun v1 => if v1 = 0 then (f_J0_isLatin1_aae02_18 1 h) else (f_J0_isLatin1_aae02_17 h)))
set_option maxRecDepth 20000 in
theorem c_J0_isLatin1_aae02 (l : Launch) (x0 : UInt32) (h : hp_H) (r : Int32 × hp_H) (hf : f_J0_isLatin1_aae02 x0 h = some r) : ct l 1 yJ0_isLatin1_aae02 cJ0_isLatin1_aae02 1 (some .boolean) x0 [] h (some (.int r.1)) r.2 := by
  unfold f_J0_isLatin1_aae02 at hf
  refine ct_of (lv := [(0, .float x0)]) hf (by decide +kernel) (Nat.le_of_ble_eq_true rfl) rfl (fun hf p e s m args below meth c G X => ?_)
  refine wk_getCS X dJ0_isLatin1_aae02_0 fl_J0_38 ?_
  refine wk_if_eq X 17 dJ0_isLatin1_aae02_3 (by decide) hf (fun hf => ?_) (fun hf => ?_)
  · exact wq_sub [] rfl (w_J0_isLatin1_aae02_17 X _ hf)
  · refine wk_aload_nS X dJ0_isLatin1_aae02_6 0 rfl ?_
    refine wk_getSC X dJ0_isLatin1_aae02_7 fl_J0_15 hf (fun v1 hf => ?_)
    refine wk_if_ne X 17 dJ0_isLatin1_aae02_10 (by decide) hf (fun hf => ?_) (fun hf => ?_)
    · exact wq_sub [] rfl (w_J0_isLatin1_aae02_17 X _ hf)
    · refine wk_iconst X dJ0_isLatin1_aae02_13 ic_1 ?_
      refine wk_goto X 18 dJ0_isLatin1_aae02_14 (by decide) ?_
      exact wq_sub [] rfl (w_J0_isLatin1_aae02_18 X _ _ hf)
section Sf_J1_canEncode_9a6ad
variable {p : Program} {l : Launch} {e : Env} {s : State} {m : MethodId} {args : Array Value} {below : List Frame} {meth : Method} {c : Code} {G : hp_G} {o : Int32 × hp_H}
def f_J1_canEncode_9a6ad_16 (t0 : Int32) (h : hp_H) : Option (Int32 × hp_H) := if t0 = 0 ∨ t0 = 1 then some (t0, h) else none
set_option maxRecDepth 20000 in
theorem w_J1_canEncode_9a6ad_16 (X : wx G p s m args meth c cJ1_canEncode_9a6ad 1 RJ1 (some .boolean)) (t0 : Int32) (h : hp_H) (hf : f_J1_canEncode_9a6ad_16 t0 h = some o) : wq p l e (mt_R (1) 0 0) s m args below meth c (MQ below (mt_Q G (some (.int o.1)) o.2) args s 0 0 (hp_A G)) G 1 0 0 16 [] [.int t0] h := by
  unfold f_J1_canEncode_9a6ad_16 at hf
  exact wk_zreturn X dJ1_canEncode_9a6ad_16 hf
def f_J1_canEncode_9a6ad_15  (h : hp_H) : Option (Int32 × hp_H) := f_J1_canEncode_9a6ad_16 0 h
set_option maxRecDepth 20000 in
theorem w_J1_canEncode_9a6ad_15 (X : wx G p s m args meth c cJ1_canEncode_9a6ad 1 RJ1 (some .boolean))  (h : hp_H) (hf : f_J1_canEncode_9a6ad_15 h = some o) : wq p l e (mt_R (1) 0 0) s m args below meth c (MQ below (mt_Q G (some (.int o.1)) o.2) args s 0 0 (hp_A G)) G 1 0 0 15 [] [] h := by
  unfold f_J1_canEncode_9a6ad_15 at hf
  refine wk_iconst X dJ1_canEncode_9a6ad_15 ic_0 ?_
  exact wq_sub [] rfl (w_J1_canEncode_9a6ad_16 X _ _ hf)
end Sf_J1_canEncode_9a6ad
def f_J1_canEncode_9a6ad (x0 : Int32) (h : hp_H) : Option (Int32 × hp_H) := if x0 < 0 then (f_J1_canEncode_9a6ad_15 h) else (if 255 < x0 then (f_J1_canEncode_9a6ad_15 h) else (f_J1_canEncode_9a6ad_16 1 h))
set_option maxRecDepth 20000 in
theorem c_J1_canEncode_9a6ad (l : Launch) (x0 : Int32) (h : hp_H) (r : Int32 × hp_H) (hf : f_J1_canEncode_9a6ad x0 h = some r) : cs l 1 yJ1_canEncode_9a6ad cJ1_canEncode_9a6ad 1 (some .boolean) [.int x0] h (some (.int r.1)) r.2 := by
  unfold f_J1_canEncode_9a6ad at hf
  refine mt_of (lv := [(0, .int x0)]) (by decide +kernel) (Nat.le_of_ble_eq_true rfl) rfl (fun p e s m args below meth c G X => ?_)
  refine wk_iload_n X dJ1_canEncode_9a6ad_0 0 rfl ?_
  refine wk_if_lt X 15 dJ1_canEncode_9a6ad_1 (by decide) hf (fun hf => ?_) (fun hf => ?_)
  · exact wq_sub [] rfl (w_J1_canEncode_9a6ad_15 X _ hf)
  · refine wk_iload_n X dJ1_canEncode_9a6ad_4 0 rfl ?_
    refine wk_sipush X dJ1_canEncode_9a6ad_5 is_255 ?_
    refine wk_icmp_gt X 15 dJ1_canEncode_9a6ad_8 (by decide) hf (fun hf => ?_) (fun hf => ?_)
    · exact wq_sub [] rfl (w_J1_canEncode_9a6ad_15 X _ hf)
    · refine wk_iconst X dJ1_canEncode_9a6ad_11 ic_1 ?_
      refine wk_goto X 16 dJ1_canEncode_9a6ad_12 (by decide) ?_
      exact wq_sub [] rfl (w_J1_canEncode_9a6ad_16 X _ _ hf)
section Sf_J1_indexOfChar_4cfef
variable {p : Program} {l : Launch} {e : Env} {s : State} {m : MethodId} {args : Array Value} {below : List Frame} {meth : Method} {c : Code} {G : hp_G} {o : Int32 × hp_H}
def f_J1_indexOfChar_4cfef_31  (h : hp_H) : Option (Int32 × hp_H) := some ((-1), h)
set_option maxRecDepth 20000 in
theorem w_J1_indexOfChar_4cfef_31 (X : wx G p s m args meth c cJ1_indexOfChar_4cfef 6 RJ1 (some .int))  (h : hp_H) (hf : f_J1_indexOfChar_4cfef_31 h = some o) : wq p l e (mt_R (1) 0 0) s m args below meth c (MQ below (mt_Q G (some (.int o.1)) o.2) args s 0 0 (hp_A G)) G 6 0 0 31 [] [] h := by
  unfold f_J1_indexOfChar_4cfef_31 at hf
  refine wk_iconst X dJ1_indexOfChar_4cfef_31 ic_m1 ?_
  exact wk_ireturn X dJ1_indexOfChar_4cfef_32 hf
def f_J1_indexOfChar_4cfef_22 (x5 : Int32) (h : hp_H) : Option (Int32 × hp_H) := some (x5, h)
set_option maxRecDepth 20000 in
theorem w_J1_indexOfChar_4cfef_22 (X : wx G p s m args meth c cJ1_indexOfChar_4cfef 6 RJ1 (some .int)) (x5 : Int32) (h : hp_H) (hf : f_J1_indexOfChar_4cfef_22 x5 h = some o) : wq p l e (mt_R (1) 0 0) s m args below meth c (MQ below (mt_Q G (some (.int o.1)) o.2) args s 0 0 (hp_A G)) G 6 0 0 22 [(5, .int x5)] [] h := by
  unfold f_J1_indexOfChar_4cfef_22 at hf
  refine wk_iload X dJ1_indexOfChar_4cfef_22 0 rfl ?_
  exact wk_ireturn X dJ1_indexOfChar_4cfef_24 hf
def f_J1_indexOfChar_4cfef_7 (k7 : UInt32 → Int32 → Int32 → Int32 → hp_H → Option (Int32 × hp_H)) (x0 : UInt32) (x3 : Int32) (x4 : Int32) (x5 : Int32) (h : hp_H) : Option (Int32 × hp_H) := if x3 ≤ x5 then (f_J1_indexOfChar_4cfef_31 h) else ((js_B x0 x5).bind fun v1 => if v1 = x4 then (f_J1_indexOfChar_4cfef_22 x5 h) else (k7 x0 x3 x4 (x5 + 1) h))
set_option maxRecDepth 20000 in
theorem w_J1_indexOfChar_4cfef_7 (X : wx G p s m args meth c cJ1_indexOfChar_4cfef 6 RJ1 (some .int)) (k7 : UInt32 → Int32 → Int32 → Int32 → hp_H → Option (Int32 × hp_H)) (hk7 : ∀ (x0 : UInt32) (x3 : Int32) (x4 : Int32) (x5 : Int32) (h : hp_H), k7 x0 x3 x4 x5 h = some o → wq p l e (mt_R (1) 0 0) s m args below meth c (MQ below (mt_Q G (some (.int o.1)) o.2) args s 0 0 (hp_A G)) G 6 0 0 7 [(0, .float x0), (3, .int x3), (4, .int x4), (5, .int x5)] [] h) (x0 : UInt32) (x3 : Int32) (x4 : Int32) (x5 : Int32) (h : hp_H) (hf : f_J1_indexOfChar_4cfef_7 k7 x0 x3 x4 x5 h = some o) : wq p l e (mt_R (1) 0 0) s m args below meth c (MQ below (mt_Q G (some (.int o.1)) o.2) args s 0 0 (hp_A G)) G 6 0 0 7 [(0, .float x0), (3, .int x3), (4, .int x4), (5, .int x5)] [] h := by
  unfold f_J1_indexOfChar_4cfef_7 at hf
  refine wk_iload X dJ1_indexOfChar_4cfef_7 3 rfl ?_
  refine wk_iload_n X dJ1_indexOfChar_4cfef_9 1 rfl ?_
  refine wk_icmp_ge X 31 dJ1_indexOfChar_4cfef_10 (by decide) hf (fun hf => ?_) (fun hf => ?_)
  · exact wq_sub [] rfl (w_J1_indexOfChar_4cfef_31 X _ hf)
  · refine wk_aload_nS X dJ1_indexOfChar_4cfef_13 0 rfl ?_
    refine wk_iload X dJ1_indexOfChar_4cfef_14 3 rfl ?_
    refine wk_baldV X dJ1_indexOfChar_4cfef_16 hf (fun v1 hf => ?_)
    refine wk_iload X dJ1_indexOfChar_4cfef_17 2 rfl ?_
    refine wk_icmp_ne X 25 dJ1_indexOfChar_4cfef_19 (by decide) hf (fun hf => ?_) (fun hf => ?_)
    · refine wk_iinc (lv' := [(5, .int (x5 + 1)), (0, .float x0), (3, .int x3), (4, .int x4)]) X dJ1_indexOfChar_4cfef_25 3 rfl ic_1 (by decide) rfl ?_
      refine wk_goto X 7 dJ1_indexOfChar_4cfef_28 (by decide) ?_
      exact wq_sub [1, 2, 3, 0] rfl (hk7 _ _ _ _ _ hf)
    · exact wq_sub [3] rfl (w_J1_indexOfChar_4cfef_22 X _ _ hf)
def l_J1_indexOfChar_4cfef_7 (x0 : UInt32) (x3 : Int32) (x4 : Int32) (x5 : Int32) (h : hp_H) : Option (Int32 × hp_H) := lp (fun k (s : UInt32 × Int32 × Int32 × Int32 × hp_H) => f_J1_indexOfChar_4cfef_7  (fun a0 a1 a2 a3 a4 => k (a0, a1, a2, a3, a4)) s.1 s.2.1 s.2.2.1 s.2.2.2.1 s.2.2.2.2) 100000 (x0, x3, x4, x5, h)
theorem wl_J1_indexOfChar_4cfef_7 (X : wx G p s m args meth c cJ1_indexOfChar_4cfef 6 RJ1 (some .int)) (x0 : UInt32) (x3 : Int32) (x4 : Int32) (x5 : Int32) (h : hp_H) (hf : l_J1_indexOfChar_4cfef_7 x0 x3 x4 x5 h = some o) : wq p l e (mt_R (1) 0 0) s m args below meth c (MQ below (mt_Q G (some (.int o.1)) o.2) args s 0 0 (hp_A G)) G 6 0 0 7 [(0, .float x0), (3, .int x3), (4, .int x4), (5, .int x5)] [] h :=
  lp_ind (P := fun (s_ : UInt32 × Int32 × Int32 × Int32 × hp_H) => wq p l e (mt_R (1) 0 0) s m args below meth c (MQ below (mt_Q G (some (.int o.1)) o.2) args s 0 0 (hp_A G)) G 6 0 0 7 [(0, .float s_.1), (3, .int s_.2.1), (4, .int s_.2.2.1), (5, .int s_.2.2.2.1)] [] s_.2.2.2.2) (fun k s hk hf => w_J1_indexOfChar_4cfef_7 X  (fun a0 a1 a2 a3 a4 => k (a0, a1, a2, a3, a4)) (fun a0 a1 a2 a3 a4 hf => hk (a0, a1, a2, a3, a4) hf) s.1 s.2.1 s.2.2.1 s.2.2.2.1 s.2.2.2.2 hf) 100000 (x0, x3, x4, x5, h) hf
end Sf_J1_indexOfChar_4cfef
def f_J1_indexOfChar_4cfef (x0 : UInt32) (x1 : Int32) (x2 : Int32) (x3 : Int32) (h : hp_H) : Option (Int32 × hp_H) := l_J1_indexOfChar_4cfef_7 x0 x3 (hp_i2b x1) x2 h
set_option maxRecDepth 20000 in
theorem c_J1_indexOfChar_4cfef (l : Launch) (x0 : UInt32) (x1 : Int32) (x2 : Int32) (x3 : Int32) (h : hp_H) (r : Int32 × hp_H) (hf : f_J1_indexOfChar_4cfef x0 x1 x2 x3 h = some r) : cs l 1 yJ1_indexOfChar_4cfef cJ1_indexOfChar_4cfef 6 (some .int) [.float x0, .int x1, .int x2, .int x3] h (some (.int r.1)) r.2 := by
  unfold f_J1_indexOfChar_4cfef at hf
  refine mt_of (lv := [(0, .float x0), (1, .int x1), (2, .int x2), (3, .int x3)]) (by decide +kernel) (Nat.le_of_ble_eq_true rfl) rfl (fun p e s m args below meth c G X => ?_)
  refine wk_iload_n X dJ1_indexOfChar_4cfef_0 1 rfl ?_
  refine wk_i2b X dJ1_indexOfChar_4cfef_1 ?_
  refine wk_istore (lv' := [(4, .int (hp_i2b x1)), (0, .float x0), (1, .int x1), (2, .int x2), (3, .int x3)]) X dJ1_indexOfChar_4cfef_2 (by decide) rfl ?_
  refine wk_iload_n X dJ1_indexOfChar_4cfef_4 3 rfl ?_
  refine wk_istore (lv' := [(5, .int x2), (4, .int (hp_i2b x1)), (0, .float x0), (1, .int x1), (2, .int x2), (3, .int x3)]) X dJ1_indexOfChar_4cfef_5 (by decide) rfl ?_
  exact wq_sub [2, 5, 1, 0] rfl (wl_J1_indexOfChar_4cfef_7 X _ _ _ _ _ hf)
section Sf_J1_indexOf_4cfef
variable {p : Program} {l : Launch} {e : Env} {s : State} {m : MethodId} {args : Array Value} {below : List Frame} {meth : Method} {c : Code} {G : hp_G} {o : Int32 × hp_H}
end Sf_J1_indexOf_4cfef
def f_J1_indexOf_4cfef (x0 : UInt32) (x1 : Int32) (x2 : Int32) (x3 : Int32) (h : hp_H) : Option (Int32 × hp_H) := (f_J1_canEncode_9a6ad x1 h).bind fun r1 => if r1.1 = 0 then (some ((-1), r1.2)) else ((js_L x0).bind fun v2 => if (hp_max x2 0) < (hp_min x3 v2) then ((f_J1_indexOfChar_4cfef x0 x1 (hp_max x2 0) (hp_min x3 v2) r1.2).bind fun r3 => some (r3.1, r3.2)) else (some ((-1), r1.2)))
set_option maxRecDepth 20000 in
theorem c_J1_indexOf_4cfef (l : Launch) (x0 : UInt32) (x1 : Int32) (x2 : Int32) (x3 : Int32) (h : hp_H) (r : Int32 × hp_H) (hf : f_J1_indexOf_4cfef x0 x1 x2 x3 h = some r) : cs l 2 yJ1_indexOf_4cfef cJ1_indexOf_4cfef 4 (some .int) [.float x0, .int x1, .int x2, .int x3] h (some (.int r.1)) r.2 := by
  unfold f_J1_indexOf_4cfef at hf
  refine mt_of (lv := [(0, .float x0), (1, .int x1), (2, .int x2), (3, .int x3)]) (by decide +kernel) (Nat.le_of_ble_eq_true rfl) rfl (fun p e s m args below meth c G X => ?_)
  refine wk_iload_n X dJ1_indexOf_4cfef_0 1 rfl ?_
  refine wk_callSi X [.int x1] [] dJ1_indexOf_4cfef_1 rfl vo_J1_88 rfl (by decide) (Nat.le_of_ble_eq_true rfl) hf (c_J1_canEncode_9a6ad l _ _) (fun r1 hf => ?_)
  refine wk_if_ne X 9 dJ1_indexOf_4cfef_4 (by decide) hf (fun hf => ?_) (fun hf => ?_)
  · refine wk_iload_n X dJ1_indexOf_4cfef_9 2 rfl ?_
    refine wk_iconst X dJ1_indexOf_4cfef_10 ic_0 ?_
    refine wk_max X dJ1_indexOf_4cfef_11 ml_J1_92 (by decide) (Nat.le_of_ble_eq_true rfl) ?_
    refine wk_istore_n (lv' := [(2, .int (hp_max x2 0)), (0, .float x0), (1, .int x1), (3, .int x3)]) X dJ1_indexOf_4cfef_14 (by decide) rfl ?_
    refine wk_iload_n X dJ1_indexOf_4cfef_15 3 rfl ?_
    refine wk_aload_nS X dJ1_indexOf_4cfef_16 1 rfl ?_
    refine wk_alenV X dJ1_indexOf_4cfef_17 hf (fun v2 hf => ?_)
    refine wk_min X dJ1_indexOf_4cfef_18 ml_J1_38 (by decide) (Nat.le_of_ble_eq_true rfl) ?_
    refine wk_istore_n (lv' := [(3, .int (hp_min x3 v2)), (2, .int (hp_max x2 0)), (0, .float x0), (1, .int x1)]) X dJ1_indexOf_4cfef_21 (by decide) rfl ?_
    refine wk_iload_n X dJ1_indexOf_4cfef_22 1 rfl ?_
    refine wk_iload_n X dJ1_indexOf_4cfef_23 0 rfl ?_
    refine wk_icmp_lt X 29 dJ1_indexOf_4cfef_24 (by decide) hf (fun hf => ?_) (fun hf => ?_)
    · refine wk_aload_nS X dJ1_indexOf_4cfef_29 2 rfl ?_
      refine wk_iload_n X dJ1_indexOf_4cfef_30 3 rfl ?_
      refine wk_iload_n X dJ1_indexOf_4cfef_31 1 rfl ?_
      refine wk_iload_n X dJ1_indexOf_4cfef_32 0 rfl ?_
      refine wk_callSi X [.float x0, .int x1, .int (hp_max x2 0), .int (hp_min x3 v2)] [] dJ1_indexOf_4cfef_33 rfl vo_J1_95 rfl (by decide) (Nat.le_of_ble_eq_true rfl) hf (c_J1_indexOfChar_4cfef l _ _ _ _ _) (fun r3 hf => ?_)
      exact wk_ireturn X dJ1_indexOf_4cfef_36 hf
    · refine wk_iconst X dJ1_indexOf_4cfef_27 ic_m1 ?_
      exact wk_ireturn X dJ1_indexOf_4cfef_28 hf
  · refine wk_iconst X dJ1_indexOf_4cfef_7 ic_m1 ?_
    exact wk_ireturn X dJ1_indexOf_4cfef_8 hf
section Sf_J0_coder_7d493
variable {p : Program} {l : Launch} {e : Env} {s : State} {m : MethodId} {args : Array Value} {below : List Frame} {meth : Method} {c : Code} {G : hp_G} {o : Int32 × hp_H}
def f_J0_coder_7d493_14 (t0 : Int32) (h : hp_H) : Option (Int32 × hp_H) := if hp_i2b t0 = t0 then some (t0, h) else none
set_option maxRecDepth 20000 in
theorem w_J0_coder_7d493_14 (X : wx G p s m args meth c cJ0_coder_7d493 1 RJ0 (some .byte)) (t0 : Int32) (h : hp_H) (hf : f_J0_coder_7d493_14 t0 h = some o) : wq p l e (mt_R (1) 0 0) s m args below meth c (MQ below (mt_Q G (some (.int o.1)) o.2) args s 0 0 (hp_A G)) G 1 0 0 14 [] [.int t0] h := by
  unfold f_J0_coder_7d493_14 at hf
  exact wk_breturn X dJ0_coder_7d493_14 hf
end Sf_J0_coder_7d493
def f_J0_coder_7d493 (x0 : UInt32) (h : hp_H) : Option (Int32 × hp_H) := gs x0 (if (1 : Int32) = 0 then (f_J0_coder_7d493_14 1 h) else ((js_C x0).bind fun v1 => f_J0_coder_7d493_14 v1 h))
set_option maxRecDepth 20000 in
theorem c_J0_coder_7d493 (l : Launch) (x0 : UInt32) (h : hp_H) (r : Int32 × hp_H) (hf : f_J0_coder_7d493 x0 h = some r) : ct l 1 yJ0_coder_7d493 cJ0_coder_7d493 1 (some .byte) x0 [] h (some (.int r.1)) r.2 := by
  unfold f_J0_coder_7d493 at hf
  refine ct_of (lv := [(0, .float x0)]) hf (by decide +kernel) (Nat.le_of_ble_eq_true rfl) rfl (fun hf p e s m args below meth c G X => ?_)
  refine wk_getCS X dJ0_coder_7d493_0 fl_J0_38 ?_
  refine wk_if_eq X 13 dJ0_coder_7d493_3 (by decide) hf (fun hf => ?_) (fun hf => ?_)
  · refine wk_iconst X dJ0_coder_7d493_13 ic_1 ?_
    exact wq_sub [] rfl (w_J0_coder_7d493_14 X _ _ hf)
  · refine wk_aload_nS X dJ0_coder_7d493_6 0 rfl ?_
    refine wk_getSC X dJ0_coder_7d493_7 fl_J0_15 hf (fun v1 hf => ?_)
    refine wk_goto X 14 dJ0_coder_7d493_10 (by decide) ?_
    exact wq_sub [] rfl (w_J0_coder_7d493_14 X _ _ hf)
section Sf_J0_length_8abf5
variable {p : Program} {l : Launch} {e : Env} {s : State} {m : MethodId} {args : Array Value} {below : List Frame} {meth : Method} {c : Code} {G : hp_G} {o : Int32 × hp_H}
end Sf_J0_length_8abf5
def f_J0_length_8abf5 (x0 : UInt32) (h : hp_H) : Option (Int32 × hp_H) := gs x0 ((js_V x0).bind fun v1 => (js_L v1).bind fun v2 => (f_J0_coder_7d493 x0 h).bind fun r3 => some (v2 >>> (r3.1 &&& 31), r3.2))
set_option maxRecDepth 20000 in
theorem c_J0_length_8abf5 (l : Launch) (x0 : UInt32) (h : hp_H) (r : Int32 × hp_H) (hf : f_J0_length_8abf5 x0 h = some r) : ct l 2 yJ0_length_8abf5 cJ0_length_8abf5 1 (some .int) x0 [] h (some (.int r.1)) r.2 := by
  unfold f_J0_length_8abf5 at hf
  refine ct_of (lv := [(0, .float x0)]) hf (by decide +kernel) (Nat.le_of_ble_eq_true rfl) rfl (fun hf p e s m args below meth c G X => ?_)
  refine wk_aload_nS X dJ0_length_8abf5_0 0 rfl ?_
  refine wk_getSV X dJ0_length_8abf5_1 fl_J0_9 hf (fun v1 hf => ?_)
  refine wk_alenV X dJ0_length_8abf5_4 hf (fun v2 hf => ?_)
  refine wk_aload_nS X dJ0_length_8abf5_5 0 rfl ?_
  refine wk_callTi X [] [.int v2] dJ0_length_8abf5_6 rfl vo_J0_335 rfl (by decide) (Nat.le_of_ble_eq_true rfl) hf (c_J0_coder_7d493 l _ _) (fun r3 hf => ?_)
  refine wk_ishr X dJ0_length_8abf5_9 ?_
  exact wk_ireturn X dJ0_length_8abf5_10 hf
section Sf_J0_indexOf_7cf53
variable {p : Program} {l : Launch} {e : Env} {s : State} {m : MethodId} {args : Array Value} {below : List Frame} {meth : Method} {c : Code} {G : hp_G} {o : Int32 × hp_H}
end Sf_J0_indexOf_7cf53
def f_J0_indexOf_7cf53 (x0 : UInt32) (x1 : Int32) (x2 : Int32) (h : hp_H) : Option (Int32 × hp_H) := gs x0 ((f_J0_isLatin1_aae02 x0 h).bind fun r1 => if r1.1 = 0 then ((js_V x0).bind fun v2 => (f_J0_length_8abf5 x0 r1.2).bind fun r3 => none) else ((js_V x0).bind fun v4 => (f_J0_length_8abf5 x0 r1.2).bind fun r5 => (f_J1_indexOf_4cfef v4 x1 x2 r5.1 r5.2).bind fun r6 => some (r6.1, r6.2)))
set_option maxRecDepth 20000 in
theorem c_J0_indexOf_7cf53 (l : Launch) (x0 : UInt32) (x1 : Int32) (x2 : Int32) (h : hp_H) (r : Int32 × hp_H) (hf : f_J0_indexOf_7cf53 x0 x1 x2 h = some r) : ct l 3 yJ0_indexOf_7cf53 cJ0_indexOf_7cf53 3 (some .int) x0 [.int x1, .int x2] h (some (.int r.1)) r.2 := by
  unfold f_J0_indexOf_7cf53 at hf
  refine ct_of (lv := [(0, .float x0), (1, .int x1), (2, .int x2)]) hf (by decide +kernel) (Nat.le_of_ble_eq_true rfl) rfl (fun hf p e s m args below meth c G X => ?_)
  refine wk_aload_nS X dJ0_indexOf_7cf53_0 0 rfl ?_
  refine wk_callTi X [] [] dJ0_indexOf_7cf53_1 rfl vo_J0_492 rfl (by decide) (Nat.le_of_ble_eq_true rfl) hf (c_J0_isLatin1_aae02 l _ _) (fun r1 hf => ?_)
  refine wk_if_eq X 23 dJ0_indexOf_7cf53_4 (by decide) hf (fun hf => ?_) (fun hf => ?_)
  · refine wk_aload_nS X dJ0_indexOf_7cf53_23 0 rfl ?_
    refine wk_getSV X dJ0_indexOf_7cf53_24 fl_J0_9 hf (fun v2 hf => ?_)
    refine wk_iload_n X dJ0_indexOf_7cf53_27 1 rfl ?_
    refine wk_iload_n X dJ0_indexOf_7cf53_28 2 rfl ?_
    refine wk_aload_nS X dJ0_indexOf_7cf53_29 0 rfl ?_
    refine wk_callTi X [] [.int x2, .int x1, .float v2] dJ0_indexOf_7cf53_30 rfl vo_J0_505 rfl (by decide) (Nat.le_of_ble_eq_true rfl) hf (c_J0_length_8abf5 l _ _) (fun r3 hf => ?_)
    exact nomatch hf
  · refine wk_aload_nS X dJ0_indexOf_7cf53_7 0 rfl ?_
    refine wk_getSV X dJ0_indexOf_7cf53_8 fl_J0_9 hf (fun v4 hf => ?_)
    refine wk_iload_n X dJ0_indexOf_7cf53_11 1 rfl ?_
    refine wk_iload_n X dJ0_indexOf_7cf53_12 2 rfl ?_
    refine wk_aload_nS X dJ0_indexOf_7cf53_13 0 rfl ?_
    refine wk_callTi X [] [.int x2, .int x1, .float v4] dJ0_indexOf_7cf53_14 rfl vo_J0_505 rfl (by decide) (Nat.le_of_ble_eq_true rfl) hf (c_J0_length_8abf5 l _ _) (fun r5 hf => ?_)
    refine wk_callSi X [.float v4, .int x1, .int x2, .int r5.1] [] dJ0_indexOf_7cf53_17 rfl vo_J0_637 rfl (by decide) (Nat.le_of_ble_eq_true rfl) hf (c_J1_indexOf_4cfef l _ _ _ _ _) (fun r6 hf => ?_)
    refine wk_goto X 36 dJ0_indexOf_7cf53_20 (by decide) ?_
    exact wk_ireturn X dJ0_indexOf_7cf53_36 hf
section Sf_J0_indexOf_0f7a4
variable {p : Program} {l : Launch} {e : Env} {s : State} {m : MethodId} {args : Array Value} {below : List Frame} {meth : Method} {c : Code} {G : hp_G} {o : Int32 × hp_H}
end Sf_J0_indexOf_0f7a4
def f_J0_indexOf_0f7a4 (x0 : UInt32) (x1 : Int32) (h : hp_H) : Option (Int32 × hp_H) := gs x0 ((f_J0_indexOf_7cf53 x0 x1 0 h).bind fun r1 => some (r1.1, r1.2))
set_option maxRecDepth 20000 in
theorem c_J0_indexOf_0f7a4 (l : Launch) (x0 : UInt32) (x1 : Int32) (h : hp_H) (r : Int32 × hp_H) (hf : f_J0_indexOf_0f7a4 x0 x1 h = some r) : ct l 4 yJ0_indexOf_0f7a4 cJ0_indexOf_0f7a4 2 (some .int) x0 [.int x1] h (some (.int r.1)) r.2 := by
  unfold f_J0_indexOf_0f7a4 at hf
  refine ct_of (lv := [(0, .float x0), (1, .int x1)]) hf (by decide +kernel) (Nat.le_of_ble_eq_true rfl) rfl (fun hf p e s m args below meth c G X => ?_)
  refine wk_aload_nS X dJ0_indexOf_0f7a4_0 0 rfl ?_
  refine wk_iload_n X dJ0_indexOf_0f7a4_1 1 rfl ?_
  refine wk_iconst X dJ0_indexOf_0f7a4_2 ic_0 ?_
  refine wk_callTi X [.int x1, .int 0] [] dJ0_indexOf_0f7a4_3 rfl vo_J0_633 rfl (by decide) (Nat.le_of_ble_eq_true rfl) hf (c_J0_indexOf_7cf53 l _ _ _ _) (fun r1 hf => ?_)
  exact wk_ireturn X dJ0_indexOf_0f7a4_6 hf
section Sf_X6_add
variable {p : Program} {l : Launch} {e : Env} {s : State} {m : MethodId} {args : Array Value} {below : List Frame} {meth : Method} {c : Code} {G : hp_G} {o : hp_H}
end Sf_X6_add
def f_X6_add (x0 : Nat) (x1 : Int32) (h : hp_H) : Option (hp_H) := gd h x0 6 ((rd_R h x0 6 1).bind fun v1 => (rd_I h x0 6 3).bind fun v2 => (f_X2_set v1 v2 x1 h).bind fun r3 => (rd_I r3 x0 6 3).bind fun v4 => (wr_I r3 x0 6 3 (v4 + 1)).bind fun h5 => some h5)
set_option maxRecDepth 20000 in
theorem c_X6_add (l : Launch) (x0 : Nat) (x1 : Int32) (h : hp_H) (r : hp_H) (hf : f_X6_add x0 x1 h = some r) : cv l (2) yX6_add cX6_add 2 none 6 x0 [.int x1] h none r := by
  unfold f_X6_add at hf
  refine cv_of (lv := [(0, .ref x0), (1, .int x1)]) hf (by decide +kernel) (Nat.le_of_ble_eq_true rfl) rfl (fun hf p e s m args below meth c G X => ?_)
  refine wk_aload_n X dX6_add_0 0 rfl ?_
  refine wk_getR X dX6_add_1 fo_X6_20 hf (fun v1 hf => ?_)
  refine wk_aload_n X dX6_add_4 0 rfl ?_
  refine wk_getI X dX6_add_5 fo_X6_26 hf (fun v2 hf => ?_)
  refine wk_iload_n X dX6_add_8 1 rfl ?_
  refine wk_callVv X [.int v2, .int x1] [] dX6_add_9 rfl vo_X6_30 rfl (by decide) (Nat.le_of_ble_eq_true rfl) hf (c_X2_set l _ _ _ _) (fun r3 hf => ?_)
  refine wk_aload_n X dX6_add_12 0 rfl ?_
  refine wk_dup X dX6_add_13 rfl ?_
  refine wk_getI X dX6_add_14 fo_X6_26 hf (fun v4 hf => ?_)
  refine wk_iconst X dX6_add_17 ic_1 ?_
  refine wk_iadd X dX6_add_18 ?_
  refine wk_putI X dX6_add_19 fo_X6_26 hf (fun h5 hf => ?_)
  exact wk_return X dX6_add_22 hf
section Sf_J3_checkIndex_8e157
variable {p : Program} {l : Launch} {e : Env} {s : State} {m : MethodId} {args : Array Value} {below : List Frame} {meth : Method} {c : Code} {G : hp_G} {o : Int32 × hp_H}
def f_J3_checkIndex_8e157_9 (x0 : Int32) (x1 : Int32) (x2 : UInt32) (h : hp_H) : Option (Int32 × hp_H) := none
set_option maxRecDepth 20000 in
theorem w_J3_checkIndex_8e157_9 (X : wx G p s m args meth c cJ3_checkIndex_8e157 3 RJ3 (some .int)) (x0 : Int32) (x1 : Int32) (x2 : UInt32) (h : hp_H) (hf : f_J3_checkIndex_8e157_9 x0 x1 x2 h = some o) : wq p l e (mt_R (1) 0 0) s m args below meth c (MQ below (mt_Q G (some (.int o.1)) o.2) args s 0 0 (hp_A G)) G 3 0 0 9 [(0, .int x0), (1, .int x1), (2, .float x2)] [] h := by
  unfold f_J3_checkIndex_8e157_9 at hf
  refine wk_aload_nS X dJ3_checkIndex_8e157_9 2 rfl ?_
  refine wk_iload_n X dJ3_checkIndex_8e157_10 0 rfl ?_
  refine wk_iload_n X dJ3_checkIndex_8e157_11 1 rfl ?_
  exact nomatch hf
end Sf_J3_checkIndex_8e157
def f_J3_checkIndex_8e157 (x0 : Int32) (x1 : Int32) (x2 : UInt32) (h : hp_H) : Option (Int32 × hp_H) := if x0 < 0 then (f_J3_checkIndex_8e157_9 x0 x1 x2 h) else (if x0 < x1 then (some (x0, h)) else (f_J3_checkIndex_8e157_9 x0 x1 x2 h))
set_option maxRecDepth 20000 in
theorem c_J3_checkIndex_8e157 (l : Launch) (x0 : Int32) (x1 : Int32) (x2 : UInt32) (h : hp_H) (r : Int32 × hp_H) (hf : f_J3_checkIndex_8e157 x0 x1 x2 h = some r) : cs l 1 yJ3_checkIndex_8e157 cJ3_checkIndex_8e157 3 (some .int) [.int x0, .int x1, .float x2] h (some (.int r.1)) r.2 := by
  unfold f_J3_checkIndex_8e157 at hf
  refine mt_of (lv := [(0, .int x0), (1, .int x1), (2, .float x2)]) (by decide +kernel) (Nat.le_of_ble_eq_true rfl) rfl (fun p e s m args below meth c G X => ?_)
  refine wk_iload_n X dJ3_checkIndex_8e157_0 0 rfl ?_
  refine wk_if_lt X 9 dJ3_checkIndex_8e157_1 (by decide) hf (fun hf => ?_) (fun hf => ?_)
  · exact wq_sub [0, 1, 2] rfl (w_J3_checkIndex_8e157_9 X _ _ _ _ hf)
  · refine wk_iload_n X dJ3_checkIndex_8e157_4 0 rfl ?_
    refine wk_iload_n X dJ3_checkIndex_8e157_5 1 rfl ?_
    refine wk_icmp_lt X 16 dJ3_checkIndex_8e157_6 (by decide) hf (fun hf => ?_) (fun hf => ?_)
    · refine wk_iload_n X dJ3_checkIndex_8e157_16 0 rfl ?_
      exact wk_ireturn X dJ3_checkIndex_8e157_17 hf
    · exact wq_sub [0, 1, 2] rfl (w_J3_checkIndex_8e157_9 X _ _ _ _ hf)
section Sf_J0_checkIndex_df160
variable {p : Program} {l : Launch} {e : Env} {s : State} {m : MethodId} {args : Array Value} {below : List Frame} {meth : Method} {c : Code} {G : hp_G} {o : hp_H}
end Sf_J0_checkIndex_df160
def f_J0_checkIndex_df160 (x0 : Int32) (x1 : Int32) (h : hp_H) : Option (hp_H) := (f_J3_checkIndex_8e157 x0 x1 99 h).bind fun r1 => some r1.2
set_option maxRecDepth 20000 in
theorem c_J0_checkIndex_df160 (l : Launch) (x0 : Int32) (x1 : Int32) (h : hp_H) (r : hp_H) (hf : f_J0_checkIndex_df160 x0 x1 h = some r) : cs l 2 yJ0_checkIndex_df160 cJ0_checkIndex_df160 2 none [.int x0, .int x1] h none r := by
  unfold f_J0_checkIndex_df160 at hf
  refine mt_of (lv := [(0, .int x0), (1, .int x1)]) (by decide +kernel) (Nat.le_of_ble_eq_true rfl) rfl (fun p e s m args below meth c G X => ?_)
  refine wk_iload_n X dJ0_checkIndex_df160_0 0 rfl ?_
  refine wk_iload_n X dJ0_checkIndex_df160_1 1 rfl ?_
  refine wk_getSF X dJ0_checkIndex_df160_2 fl_J0_1053 ?_
  refine wk_callSi X [.int x0, .int x1, .float 99] [] dJ0_checkIndex_df160_5 rfl vo_J0_1059 rfl (by decide) (Nat.le_of_ble_eq_true rfl) hf (c_J3_checkIndex_8e157 l _ _ _ _) (fun r1 hf => ?_)
  refine wk_pop X dJ0_checkIndex_df160_8 rfl ?_
  exact wk_return X dJ0_checkIndex_df160_9 hf
section Sf_J1_charAt_3b067
variable {p : Program} {l : Launch} {e : Env} {s : State} {m : MethodId} {args : Array Value} {below : List Frame} {meth : Method} {c : Code} {G : hp_G} {o : Int32 × hp_H}
end Sf_J1_charAt_3b067
def f_J1_charAt_3b067 (x0 : UInt32) (x1 : Int32) (h : hp_H) : Option (Int32 × hp_H) := (js_L x0).bind fun v1 => (f_J0_checkIndex_df160 x1 v1 h).bind fun r2 => (js_B x0 x1).bind fun v3 => if hp_i2c (hp_i2c (v3 &&& 255)) = (hp_i2c (v3 &&& 255)) then some (hp_i2c (v3 &&& 255), r2) else none
set_option maxRecDepth 20000 in
theorem c_J1_charAt_3b067 (l : Launch) (x0 : UInt32) (x1 : Int32) (h : hp_H) (r : Int32 × hp_H) (hf : f_J1_charAt_3b067 x0 x1 h = some r) : cs l 3 yJ1_charAt_3b067 cJ1_charAt_3b067 2 (some .char) [.float x0, .int x1] h (some (.int r.1)) r.2 := by
  unfold f_J1_charAt_3b067 at hf
  refine mt_of (lv := [(0, .float x0), (1, .int x1)]) (by decide +kernel) (Nat.le_of_ble_eq_true rfl) rfl (fun p e s m args below meth c G X => ?_)
  refine wk_iload_n X dJ1_charAt_3b067_0 1 rfl ?_
  refine wk_aload_nS X dJ1_charAt_3b067_1 0 rfl ?_
  refine wk_alenV X dJ1_charAt_3b067_2 hf (fun v1 hf => ?_)
  refine wk_callSv X [.int x1, .int v1] [] dJ1_charAt_3b067_3 rfl vo_J1_9 rfl (by decide) (Nat.le_of_ble_eq_true rfl) hf (c_J0_checkIndex_df160 l _ _ _) (fun r2 hf => ?_)
  refine wk_aload_nS X dJ1_charAt_3b067_6 0 rfl ?_
  refine wk_iload_n X dJ1_charAt_3b067_7 1 rfl ?_
  refine wk_baldV X dJ1_charAt_3b067_8 hf (fun v3 hf => ?_)
  refine wk_sipush X dJ1_charAt_3b067_9 is_255 ?_
  refine wk_iand X dJ1_charAt_3b067_12 ?_
  refine wk_i2c X dJ1_charAt_3b067_13 ?_
  exact wk_creturn X dJ1_charAt_3b067_14 hf
section Sf_J0_charAt_5068e
variable {p : Program} {l : Launch} {e : Env} {s : State} {m : MethodId} {args : Array Value} {below : List Frame} {meth : Method} {c : Code} {G : hp_G} {o : Int32 × hp_H}
end Sf_J0_charAt_5068e
def f_J0_charAt_5068e (x0 : UInt32) (x1 : Int32) (h : hp_H) : Option (Int32 × hp_H) := gs x0 ((f_J0_isLatin1_aae02 x0 h).bind fun r1 => if r1.1 = 0 then ((js_V x0).bind fun v2 => none) else ((js_V x0).bind fun v3 => (f_J1_charAt_3b067 v3 x1 r1.2).bind fun r4 => if hp_i2c r4.1 = r4.1 then some (r4.1, r4.2) else none))
set_option maxRecDepth 20000 in
theorem c_J0_charAt_5068e (l : Launch) (x0 : UInt32) (x1 : Int32) (h : hp_H) (r : Int32 × hp_H) (hf : f_J0_charAt_5068e x0 x1 h = some r) : ct l 4 yJ0_charAt_5068e cJ0_charAt_5068e 2 (some .char) x0 [.int x1] h (some (.int r.1)) r.2 := by
  unfold f_J0_charAt_5068e at hf
  refine ct_of (lv := [(0, .float x0), (1, .int x1)]) hf (by decide +kernel) (Nat.le_of_ble_eq_true rfl) rfl (fun hf p e s m args below meth c G X => ?_)
  refine wk_aload_nS X dJ0_charAt_5068e_0 0 rfl ?_
  refine wk_callTi X [] [] dJ0_charAt_5068e_1 rfl vo_J0_492 rfl (by decide) (Nat.le_of_ble_eq_true rfl) hf (c_J0_isLatin1_aae02 l _ _) (fun r1 hf => ?_)
  refine wk_if_eq X 16 dJ0_charAt_5068e_4 (by decide) hf (fun hf => ?_) (fun hf => ?_)
  · refine wk_aload_nS X dJ0_charAt_5068e_16 0 rfl ?_
    refine wk_getSV X dJ0_charAt_5068e_17 fl_J0_9 hf (fun v2 hf => ?_)
    refine wk_iload_n X dJ0_charAt_5068e_20 1 rfl ?_
    exact nomatch hf
  · refine wk_aload_nS X dJ0_charAt_5068e_7 0 rfl ?_
    refine wk_getSV X dJ0_charAt_5068e_8 fl_J0_9 hf (fun v3 hf => ?_)
    refine wk_iload_n X dJ0_charAt_5068e_11 1 rfl ?_
    refine wk_callSi X [.float v3, .int x1] [] dJ0_charAt_5068e_12 rfl vo_J0_495 rfl (by decide) (Nat.le_of_ble_eq_true rfl) hf (c_J1_charAt_3b067 l _ _ _) (fun r4 hf => ?_)
    exact wk_creturn X dJ0_charAt_5068e_15 hf
