section S_X2_at
variable {p : Program} {l : Launch} {e : Env} {s : State} {m : MethodId} {args : Array Value} {below : List Frame} {meth : Method} {c : Code} {G : hp_G} {o : Int32 × hp_H}
def f_X2_at_23 (t0 : Int32) (h : hp_H) : Option (Int32 × hp_H) := some (t0, h)
set_option maxRecDepth 20000 in
theorem w_X2_at_23 (X : wx G p s m args meth c cX2_at 2 RX2 (some .int)) (t0 : Int32) (h : hp_H) (hf : f_X2_at_23 t0 h = some o) : wq p l e (mt_R 1 0 0) s m args below meth c (MQ below (mt_Q G (some (.int o.1)) o.2) args s 0 0 (hp_A G)) G 2 0 0 23 [] [.int t0] h := by
  unfold f_X2_at_23 at hf
  exact wk_ireturn X dX2_at_23 hf
def f_X2_at_22  (h : hp_H) : Option (Int32 × hp_H) := f_X2_at_23 0 h
set_option maxRecDepth 20000 in
theorem w_X2_at_22 (X : wx G p s m args meth c cX2_at 2 RX2 (some .int))  (h : hp_H) (hf : f_X2_at_22 h = some o) : wq p l e (mt_R 1 0 0) s m args below meth c (MQ below (mt_Q G (some (.int o.1)) o.2) args s 0 0 (hp_A G)) G 2 0 0 22 [] [] h := by
  unfold f_X2_at_22 at hf
  refine wk_iconst X dX2_at_22 ic_0 ?_
  exact wq_sub [] rfl (w_X2_at_23 X _ _ hf)
end S_X2_at
def f_X2_at (x0 : Nat) (x1 : Int32) (h : hp_H) : Option (Int32 × hp_H) := gd h x0 2 (if x1 < 0 then (f_X2_at_22 h) else ((rd_R h x0 2 0).bind fun v1 => (rd_L h v1).bind fun v2 => if v2 ≤ x1 then (f_X2_at_22 h) else ((rd_R h x0 2 0).bind fun v3 => (rd_A h 0 v3 x1).bind fun v4 => f_X2_at_23 v4 h)))
set_option maxRecDepth 20000 in
theorem c_X2_at (l : Launch) (x0 : Nat) (x1 : Int32) (h : hp_H) (r : Int32 × hp_H) (hf : f_X2_at x0 x1 h = some r) : cv l 1 yX2_at cX2_at 2 (some .int) 2 x0 [.int x1] h (some (.int r.1)) r.2 := by
  unfold f_X2_at at hf
  refine cv_of (lv := [(0, .ref x0), (1, .int x1)]) hf (by decide +kernel) (Nat.le_of_ble_eq_true rfl) rfl (fun hf p e s m args below meth c G X => ?_)
  refine wk_iload_n X dX2_at_0 1 rfl ?_
  refine wk_if_lt X 22 dX2_at_1 (by decide) hf (fun hf => ?_) (fun hf => ?_)
  · exact wq_sub [] rfl (w_X2_at_22 X _ hf)
  · refine wk_iload_n X dX2_at_4 1 rfl ?_
    refine wk_aload_n X dX2_at_5 0 rfl ?_
    refine wk_getR X dX2_at_6 fo_X2_13 hf (fun v1 hf => ?_)
    refine wk_alen X dX2_at_9 hf (fun v2 hf => ?_)
    refine wk_icmp_ge X 22 dX2_at_10 (by decide) hf (fun hf => ?_) (fun hf => ?_)
    · exact wq_sub [] rfl (w_X2_at_22 X _ hf)
    · refine wk_aload_n X dX2_at_13 0 rfl ?_
      refine wk_getR X dX2_at_14 fo_X2_13 hf (fun v3 hf => ?_)
      refine wk_iload_n X dX2_at_17 1 rfl ?_
      refine wk_iald X dX2_at_18 hf (fun v4 hf => ?_)
      refine wk_goto X 23 dX2_at_19 (by decide) ?_
      exact wq_sub [] rfl (w_X2_at_23 X _ _ hf)
section S_X2_set
variable {p : Program} {l : Launch} {e : Env} {s : State} {m : MethodId} {args : Array Value} {below : List Frame} {meth : Method} {c : Code} {G : hp_G} {o : hp_H}
def f_X2_set_20  (h : hp_H) : Option (hp_H) := some h
set_option maxRecDepth 20000 in
theorem w_X2_set_20 (X : wx G p s m args meth c cX2_set 3 RX2 none)  (h : hp_H) (hf : f_X2_set_20 h = some o) : wq p l e (mt_R 1 0 0) s m args below meth c (MQ below (mt_Q G none o) args s 0 0 (hp_A G)) G 3 0 0 20 [] [] h := by
  unfold f_X2_set_20 at hf
  exact wk_return X dX2_set_20 hf
end S_X2_set
def f_X2_set (x0 : Nat) (x1 : Int32) (x2 : Int32) (h : hp_H) : Option (hp_H) := gd h x0 2 (if x1 < 0 then (f_X2_set_20 h) else ((rd_R h x0 2 0).bind fun v1 => (rd_L h v1).bind fun v2 => if v2 ≤ x1 then (f_X2_set_20 h) else ((rd_R h x0 2 0).bind fun v3 => (wr_A h v3 x1 x2).bind fun h4 => f_X2_set_20 h4)))
set_option maxRecDepth 20000 in
theorem c_X2_set (l : Launch) (x0 : Nat) (x1 : Int32) (x2 : Int32) (h : hp_H) (r : hp_H) (hf : f_X2_set x0 x1 x2 h = some r) : cv l 1 yX2_set cX2_set 3 none 2 x0 [.int x1, .int x2] h none r := by
  unfold f_X2_set at hf
  refine cv_of (lv := [(0, .ref x0), (1, .int x1), (2, .int x2)]) hf (by decide +kernel) (Nat.le_of_ble_eq_true rfl) rfl (fun hf p e s m args below meth c G X => ?_)
  refine wk_iload_n X dX2_set_0 1 rfl ?_
  refine wk_if_lt X 20 dX2_set_1 (by decide) hf (fun hf => ?_) (fun hf => ?_)
  · exact wq_sub [] rfl (w_X2_set_20 X _ hf)
  · refine wk_iload_n X dX2_set_4 1 rfl ?_
    refine wk_aload_n X dX2_set_5 0 rfl ?_
    refine wk_getR X dX2_set_6 fo_X2_13 hf (fun v1 hf => ?_)
    refine wk_alen X dX2_set_9 hf (fun v2 hf => ?_)
    refine wk_icmp_ge X 20 dX2_set_10 (by decide) hf (fun hf => ?_) (fun hf => ?_)
    · exact wq_sub [] rfl (w_X2_set_20 X _ hf)
    · refine wk_aload_n X dX2_set_13 0 rfl ?_
      refine wk_getR X dX2_set_14 fo_X2_13 hf (fun v3 hf => ?_)
      refine wk_iload_n X dX2_set_17 1 rfl ?_
      refine wk_iload_n X dX2_set_18 2 rfl ?_
      refine wk_iast X dX2_set_19 hf (fun h4 hf => ?_)
      exact wq_sub [] rfl (w_X2_set_20 X _ hf)
section S_X2_copyFrom
variable {p : Program} {l : Launch} {e : Env} {s : State} {m : MethodId} {args : Array Value} {below : List Frame} {meth : Method} {c : Code} {G : hp_G} {o : hp_H}
def f_X2_copyFrom_38  (h : hp_H) : Option (hp_H) := some h
set_option maxRecDepth 20000 in
theorem w_X2_copyFrom_38 (X : wx G p s m args meth c cX2_copyFrom 3 RX2 none)  (h : hp_H) (hf : f_X2_copyFrom_38 h = some o) : wq p l e (mt_R 1 0 0) s m args below meth c (MQ below (mt_Q G none o) args s 0 0 (hp_A G)) G 3 0 0 38 [] [] h := by
  unfold f_X2_copyFrom_38 at hf
  exact wk_return X dX2_copyFrom_38 hf
def f_X2_copyFrom_2 (k2 : Nat → Nat → Int32 → hp_H → Option (hp_H)) (x0 : Nat) (x1 : Nat) (x2 : Int32) (h : hp_H) : Option (hp_H) := (rd_R h x0 2 0).bind fun v1 => (rd_L h v1).bind fun v2 => if v2 ≤ x2 then (f_X2_copyFrom_38 h) else ((rd_R h x1 2 0).bind fun v3 => (rd_L h v3).bind fun v4 => if v4 ≤ x2 then (f_X2_copyFrom_38 h) else ((rd_R h x0 2 0).bind fun v5 => (rd_R h x1 2 0).bind fun v6 => (rd_A h 0 v6 x2).bind fun v7 => (wr_A h v5 x2 v7).bind fun h8 => k2 x0 x1 (x2 + 1) h8))
set_option maxRecDepth 20000 in
theorem w_X2_copyFrom_2 (X : wx G p s m args meth c cX2_copyFrom 3 RX2 none) (k2 : Nat → Nat → Int32 → hp_H → Option (hp_H)) (hk2 : ∀ (x0 : Nat) (x1 : Nat) (x2 : Int32) (h : hp_H), k2 x0 x1 x2 h = some o → wq p l e (mt_R 1 0 0) s m args below meth c (MQ below (mt_Q G none o) args s 0 0 (hp_A G)) G 3 0 0 2 [(0, .ref x0), (1, .ref x1), (2, .int x2)] [] h) (x0 : Nat) (x1 : Nat) (x2 : Int32) (h : hp_H) (hf : f_X2_copyFrom_2 k2 x0 x1 x2 h = some o) : wq p l e (mt_R 1 0 0) s m args below meth c (MQ below (mt_Q G none o) args s 0 0 (hp_A G)) G 3 0 0 2 [(0, .ref x0), (1, .ref x1), (2, .int x2)] [] h := by
  unfold f_X2_copyFrom_2 at hf
  refine wk_iload_n X dX2_copyFrom_2 2 rfl ?_
  refine wk_aload_n X dX2_copyFrom_3 0 rfl ?_
  refine wk_getR X dX2_copyFrom_4 fo_X2_13 hf (fun v1 hf => ?_)
  refine wk_alen X dX2_copyFrom_7 hf (fun v2 hf => ?_)
  refine wk_icmp_ge X 38 dX2_copyFrom_8 (by decide) hf (fun hf => ?_) (fun hf => ?_)
  · exact wq_sub [] rfl (w_X2_copyFrom_38 X _ hf)
  · refine wk_iload_n X dX2_copyFrom_11 2 rfl ?_
    refine wk_aload_n X dX2_copyFrom_12 1 rfl ?_
    refine wk_getR X dX2_copyFrom_13 fo_X2_13 hf (fun v3 hf => ?_)
    refine wk_alen X dX2_copyFrom_16 hf (fun v4 hf => ?_)
    refine wk_icmp_ge X 38 dX2_copyFrom_17 (by decide) hf (fun hf => ?_) (fun hf => ?_)
    · exact wq_sub [] rfl (w_X2_copyFrom_38 X _ hf)
    · refine wk_aload_n X dX2_copyFrom_20 0 rfl ?_
      refine wk_getR X dX2_copyFrom_21 fo_X2_13 hf (fun v5 hf => ?_)
      refine wk_iload_n X dX2_copyFrom_24 2 rfl ?_
      refine wk_aload_n X dX2_copyFrom_25 1 rfl ?_
      refine wk_getR X dX2_copyFrom_26 fo_X2_13 hf (fun v6 hf => ?_)
      refine wk_iload_n X dX2_copyFrom_29 2 rfl ?_
      refine wk_iald X dX2_copyFrom_30 hf (fun v7 hf => ?_)
      refine wk_iast X dX2_copyFrom_31 hf (fun h8 hf => ?_)
      refine wk_iinc (lv' := [(2, .int (x2 + 1)), (0, .ref x0), (1, .ref x1)]) X dX2_copyFrom_32 2 rfl ic_1 (by decide) rfl ?_
      refine wk_goto X 2 dX2_copyFrom_35 (by decide) ?_
      exact wq_sub [1, 2, 0] rfl (hk2 _ _ _ _ hf)
def l_X2_copyFrom_2 (x0 : Nat) (x1 : Nat) (x2 : Int32) (h : hp_H) : Option (hp_H) := lp (fun k (s : Nat × Nat × Int32 × hp_H) => f_X2_copyFrom_2  (fun a0 a1 a2 a3 => k (a0, a1, a2, a3)) s.1 s.2.1 s.2.2.1 s.2.2.2) 100000 (x0, x1, x2, h)
theorem wl_X2_copyFrom_2 (X : wx G p s m args meth c cX2_copyFrom 3 RX2 none) (x0 : Nat) (x1 : Nat) (x2 : Int32) (h : hp_H) (hf : l_X2_copyFrom_2 x0 x1 x2 h = some o) : wq p l e (mt_R 1 0 0) s m args below meth c (MQ below (mt_Q G none o) args s 0 0 (hp_A G)) G 3 0 0 2 [(0, .ref x0), (1, .ref x1), (2, .int x2)] [] h :=
  lp_ind (P := fun (s_ : Nat × Nat × Int32 × hp_H) => wq p l e (mt_R 1 0 0) s m args below meth c (MQ below (mt_Q G none o) args s 0 0 (hp_A G)) G 3 0 0 2 [(0, .ref s_.1), (1, .ref s_.2.1), (2, .int s_.2.2.1)] [] s_.2.2.2) (fun k s hk hf => w_X2_copyFrom_2 X  (fun a0 a1 a2 a3 => k (a0, a1, a2, a3)) (fun a0 a1 a2 a3 hf => hk (a0, a1, a2, a3) hf) s.1 s.2.1 s.2.2.1 s.2.2.2 hf) 100000 (x0, x1, x2, h) hf
end S_X2_copyFrom
def f_X2_copyFrom (x0 : Nat) (x1 : Nat) (h : hp_H) : Option (hp_H) := gd h x0 2 (l_X2_copyFrom_2 x0 x1 0 h)
set_option maxRecDepth 20000 in
theorem c_X2_copyFrom (l : Launch) (x0 : Nat) (x1 : Nat) (h : hp_H) (r : hp_H) (hf : f_X2_copyFrom x0 x1 h = some r) : cv l 1 yX2_copyFrom cX2_copyFrom 3 none 2 x0 [.ref x1] h none r := by
  unfold f_X2_copyFrom at hf
  refine cv_of (lv := [(0, .ref x0), (1, .ref x1)]) hf (by decide +kernel) (Nat.le_of_ble_eq_true rfl) rfl (fun hf p e s m args below meth c G X => ?_)
  refine wk_iconst X dX2_copyFrom_0 ic_0 ?_
  refine wk_istore_n (lv' := [(2, .int 0), (0, .ref x0), (1, .ref x1)]) X dX2_copyFrom_1 (by decide) rfl ?_
  exact wq_sub [1, 2, 0] rfl (wl_X2_copyFrom_2 X _ _ _ _ hf)
section S_X1_clear
variable {p : Program} {l : Launch} {e : Env} {s : State} {m : MethodId} {args : Array Value} {below : List Frame} {meth : Method} {c : Code} {G : hp_G} {o : hp_H}
end S_X1_clear
def f_X1_clear (x0 : Nat) (h : hp_H) : Option (hp_H) := gd h x0 1 ((wr_I h x0 1 0 8).bind fun h1 => (wr_I h1 x0 1 1 0).bind fun h2 => (wr_I h2 x0 1 2 0).bind fun h3 => (wr_I h3 x0 1 3 2).bind fun h4 => (wr_I h4 x0 1 4 0).bind fun h5 => (rd_R h5 x0 1 6).bind fun v6 => (wr_I h5 v6 6 3 0).bind fun h7 => some h7)
set_option maxRecDepth 20000 in
theorem c_X1_clear (l : Launch) (x0 : Nat) (h : hp_H) (r : hp_H) (hf : f_X1_clear x0 h = some r) : cv l 1 yX1_clear cX1_clear 1 none 1 x0 [] h none r := by
  unfold f_X1_clear at hf
  refine cv_of (lv := [(0, .ref x0)]) hf (by decide +kernel) (Nat.le_of_ble_eq_true rfl) rfl (fun hf p e s m args below meth c G X => ?_)
  refine wk_aload_n X dX1_clear_0 0 rfl ?_
  refine wk_bipush X dX1_clear_1 ib_8 ?_
  refine wk_putI X dX1_clear_3 fo_X1_9 hf (fun h1 hf => ?_)
  refine wk_aload_n X dX1_clear_6 0 rfl ?_
  refine wk_iconst X dX1_clear_7 ic_0 ?_
  refine wk_putI X dX1_clear_8 fo_X1_15 hf (fun h2 hf => ?_)
  refine wk_aload_n X dX1_clear_11 0 rfl ?_
  refine wk_iconst X dX1_clear_12 ic_0 ?_
  refine wk_putI X dX1_clear_13 fo_X1_18 hf (fun h3 hf => ?_)
  refine wk_aload_n X dX1_clear_16 0 rfl ?_
  refine wk_iconst X dX1_clear_17 ic_2 ?_
  refine wk_putI X dX1_clear_18 fo_X1_21 hf (fun h4 hf => ?_)
  refine wk_aload_n X dX1_clear_21 0 rfl ?_
  refine wk_iconst X dX1_clear_22 ic_0 ?_
  refine wk_putI X dX1_clear_23 fo_X1_24 hf (fun h5 hf => ?_)
  refine wk_aload_n X dX1_clear_26 0 rfl ?_
  refine wk_getR X dX1_clear_27 fo_X1_39 hf (fun v6 hf => ?_)
  refine wk_iconst X dX1_clear_30 ic_0 ?_
  refine wk_putI X dX1_clear_31 fo_X1_43 hf (fun h7 hf => ?_)
  exact wk_return X dX1_clear_34 hf
section S_X6_copyFrom
variable {p : Program} {l : Launch} {e : Env} {s : State} {m : MethodId} {args : Array Value} {below : List Frame} {meth : Method} {c : Code} {G : hp_G} {o : hp_H}
end S_X6_copyFrom
def f_X6_copyFrom (x0 : Nat) (x1 : Nat) (h : hp_H) : Option (hp_H) := gd h x0 6 ((rd_R h x0 6 1).bind fun v1 => (rd_R h x1 6 1).bind fun v2 => (f_X2_copyFrom v1 v2 h).bind fun r3 => (rd_I r3 x1 6 3).bind fun v4 => (wr_I r3 x0 6 3 v4).bind fun h5 => some h5)
set_option maxRecDepth 20000 in
theorem c_X6_copyFrom (l : Launch) (x0 : Nat) (x1 : Nat) (h : hp_H) (r : hp_H) (hf : f_X6_copyFrom x0 x1 h = some r) : cv l 2 yX6_copyFrom cX6_copyFrom 2 none 6 x0 [.ref x1] h none r := by
  unfold f_X6_copyFrom at hf
  refine cv_of (lv := [(0, .ref x0), (1, .ref x1)]) hf (by decide +kernel) (Nat.le_of_ble_eq_true rfl) rfl (fun hf p e s m args below meth c G X => ?_)
  refine wk_aload_n X dX6_copyFrom_0 0 rfl ?_
  refine wk_getR X dX6_copyFrom_1 fo_X6_20 hf (fun v1 hf => ?_)
  refine wk_aload_n X dX6_copyFrom_4 1 rfl ?_
  refine wk_getR X dX6_copyFrom_5 fo_X6_20 hf (fun v2 hf => ?_)
  refine wk_callVv X [.ref v2] [] dX6_copyFrom_8 rfl vo_X6_42 rfl (by decide) (Nat.le_of_ble_eq_true rfl) hf (c_X2_copyFrom l _ _ _) (fun r3 hf => ?_)
  refine wk_aload_n X dX6_copyFrom_11 0 rfl ?_
  refine wk_aload_n X dX6_copyFrom_12 1 rfl ?_
  refine wk_getI X dX6_copyFrom_13 fo_X6_26 hf (fun v4 hf => ?_)
  refine wk_putI X dX6_copyFrom_16 fo_X6_26 hf (fun h5 hf => ?_)
  exact wk_return X dX6_copyFrom_19 hf
section S_X1_copyFrom
variable {p : Program} {l : Launch} {e : Env} {s : State} {m : MethodId} {args : Array Value} {below : List Frame} {meth : Method} {c : Code} {G : hp_G} {o : hp_H}
end S_X1_copyFrom
def f_X1_copyFrom (x0 : Nat) (x1 : Nat) (h : hp_H) : Option (hp_H) := gd h x0 1 ((rd_I h x1 1 0).bind fun v1 => (wr_I h x0 1 0 v1).bind fun h2 => (rd_I h2 x1 1 1).bind fun v3 => (wr_I h2 x0 1 1 v3).bind fun h4 => (rd_I h4 x1 1 2).bind fun v5 => (wr_I h4 x0 1 2 v5).bind fun h6 => (rd_I h6 x1 1 3).bind fun v7 => (wr_I h6 x0 1 3 v7).bind fun h8 => (rd_I h8 x1 1 4).bind fun v9 => (wr_I h8 x0 1 4 v9).bind fun h10 => (rd_R h10 x0 1 5).bind fun v11 => (rd_R h10 x1 1 5).bind fun v12 => (f_X2_copyFrom v11 v12 h10).bind fun r13 => (rd_R r13 x0 1 6).bind fun v14 => (rd_R r13 x1 1 6).bind fun v15 => (f_X6_copyFrom v14 v15 r13).bind fun r16 => some r16)
set_option maxRecDepth 20000 in
theorem c_X1_copyFrom (l : Launch) (x0 : Nat) (x1 : Nat) (h : hp_H) (r : hp_H) (hf : f_X1_copyFrom x0 x1 h = some r) : cv l 3 yX1_copyFrom cX1_copyFrom 2 none 1 x0 [.ref x1] h none r := by
  unfold f_X1_copyFrom at hf
  refine cv_of (lv := [(0, .ref x0), (1, .ref x1)]) hf (by decide +kernel) (Nat.le_of_ble_eq_true rfl) rfl (fun hf p e s m args below meth c G X => ?_)
  refine wk_aload_n X dX1_copyFrom_0 0 rfl ?_
  refine wk_aload_n X dX1_copyFrom_1 1 rfl ?_
  refine wk_getI X dX1_copyFrom_2 fo_X1_9 hf (fun v1 hf => ?_)
  refine wk_putI X dX1_copyFrom_5 fo_X1_9 hf (fun h2 hf => ?_)
  refine wk_aload_n X dX1_copyFrom_8 0 rfl ?_
  refine wk_aload_n X dX1_copyFrom_9 1 rfl ?_
  refine wk_getI X dX1_copyFrom_10 fo_X1_15 hf (fun v3 hf => ?_)
  refine wk_putI X dX1_copyFrom_13 fo_X1_15 hf (fun h4 hf => ?_)
  refine wk_aload_n X dX1_copyFrom_16 0 rfl ?_
  refine wk_aload_n X dX1_copyFrom_17 1 rfl ?_
  refine wk_getI X dX1_copyFrom_18 fo_X1_18 hf (fun v5 hf => ?_)
  refine wk_putI X dX1_copyFrom_21 fo_X1_18 hf (fun h6 hf => ?_)
  refine wk_aload_n X dX1_copyFrom_24 0 rfl ?_
  refine wk_aload_n X dX1_copyFrom_25 1 rfl ?_
  refine wk_getI X dX1_copyFrom_26 fo_X1_21 hf (fun v7 hf => ?_)
  refine wk_putI X dX1_copyFrom_29 fo_X1_21 hf (fun h8 hf => ?_)
  refine wk_aload_n X dX1_copyFrom_32 0 rfl ?_
  refine wk_aload_n X dX1_copyFrom_33 1 rfl ?_
  refine wk_getI X dX1_copyFrom_34 fo_X1_24 hf (fun v9 hf => ?_)
  refine wk_putI X dX1_copyFrom_37 fo_X1_24 hf (fun h10 hf => ?_)
  refine wk_aload_n X dX1_copyFrom_40 0 rfl ?_
  refine wk_getR X dX1_copyFrom_41 fo_X1_32 hf (fun v11 hf => ?_)
  refine wk_aload_n X dX1_copyFrom_44 1 rfl ?_
  refine wk_getR X dX1_copyFrom_45 fo_X1_32 hf (fun v12 hf => ?_)
  refine wk_callVv X [.ref v12] [] dX1_copyFrom_48 rfl vo_X1_46 rfl (by decide) (Nat.le_of_ble_eq_true rfl) hf (c_X2_copyFrom l _ _ _) (fun r13 hf => ?_)
  refine wk_aload_n X dX1_copyFrom_51 0 rfl ?_
  refine wk_getR X dX1_copyFrom_52 fo_X1_39 hf (fun v14 hf => ?_)
  refine wk_aload_n X dX1_copyFrom_55 1 rfl ?_
  refine wk_getR X dX1_copyFrom_56 fo_X1_39 hf (fun v15 hf => ?_)
  refine wk_callVv X [.ref v15] [] dX1_copyFrom_59 rfl vo_X1_50 rfl (by decide) (Nat.le_of_ble_eq_true rfl) hf (c_X6_copyFrom l _ _ _) (fun r16 hf => ?_)
  exact wk_return X dX1_copyFrom_62 hf
section S_X1_allBeats
variable {p : Program} {l : Launch} {e : Env} {s : State} {m : MethodId} {args : Array Value} {below : List Frame} {meth : Method} {c : Code} {G : hp_G} {o : Int32 × hp_H}
end S_X1_allBeats
def f_X1_allBeats (x0 : Nat) (h : hp_H) : Option (Int32 × hp_H) := gd h x0 1 ((rd_I h x0 1 0).bind fun v1 => some ((1 <<< (v1 &&& 31)) - 1, h))
set_option maxRecDepth 20000 in
theorem c_X1_allBeats (l : Launch) (x0 : Nat) (h : hp_H) (r : Int32 × hp_H) (hf : f_X1_allBeats x0 h = some r) : cv l 1 yX1_allBeats cX1_allBeats 1 (some .int) 1 x0 [] h (some (.int r.1)) r.2 := by
  unfold f_X1_allBeats at hf
  refine cv_of (lv := [(0, .ref x0)]) hf (by decide +kernel) (Nat.le_of_ble_eq_true rfl) rfl (fun hf p e s m args below meth c G X => ?_)
  refine wk_iconst X dX1_allBeats_0 ic_1 ?_
  refine wk_aload_n X dX1_allBeats_1 0 rfl ?_
  refine wk_getI X dX1_allBeats_2 fo_X1_9 hf (fun v1 hf => ?_)
  refine wk_ishl X dX1_allBeats_5 ?_
  refine wk_iconst X dX1_allBeats_6 ic_1 ?_
  refine wk_isub X dX1_allBeats_7 ?_
  exact wk_ireturn X dX1_allBeats_8 hf
section S_X1_allMen
variable {p : Program} {l : Launch} {e : Env} {s : State} {m : MethodId} {args : Array Value} {below : List Frame} {meth : Method} {c : Code} {G : hp_G} {o : Int32 × hp_H}
end S_X1_allMen
def f_X1_allMen (x0 : Nat) (h : hp_H) : Option (Int32 × hp_H) := gd h x0 1 ((rd_I h x0 1 1).bind fun v1 => some ((1 <<< (v1 &&& 31)) - 1, h))
set_option maxRecDepth 20000 in
theorem c_X1_allMen (l : Launch) (x0 : Nat) (h : hp_H) (r : Int32 × hp_H) (hf : f_X1_allMen x0 h = some r) : cv l 1 yX1_allMen cX1_allMen 1 (some .int) 1 x0 [] h (some (.int r.1)) r.2 := by
  unfold f_X1_allMen at hf
  refine cv_of (lv := [(0, .ref x0)]) hf (by decide +kernel) (Nat.le_of_ble_eq_true rfl) rfl (fun hf p e s m args below meth c G X => ?_)
  refine wk_iconst X dX1_allMen_0 ic_1 ?_
  refine wk_aload_n X dX1_allMen_1 0 rfl ?_
  refine wk_getI X dX1_allMen_2 fo_X1_15 hf (fun v1 hf => ?_)
  refine wk_ishl X dX1_allMen_5 ?_
  refine wk_iconst X dX1_allMen_6 ic_1 ?_
  refine wk_isub X dX1_allMen_7 ?_
  exact wk_ireturn X dX1_allMen_8 hf
section S_X1_mudOf
variable {p : Program} {l : Launch} {e : Env} {s : State} {m : MethodId} {args : Array Value} {below : List Frame} {meth : Method} {c : Code} {G : hp_G} {o : Int32 × hp_H}
def f_X1_mudOf_24 (t0 : Int32) (h : hp_H) : Option (Int32 × hp_H) := some (t0, h)
set_option maxRecDepth 20000 in
theorem w_X1_mudOf_24 (X : wx G p s m args meth c cX1_mudOf 2 RX1 (some .int)) (t0 : Int32) (h : hp_H) (hf : f_X1_mudOf_24 t0 h = some o) : wq p l e (mt_R 2 0 0) s m args below meth c (MQ below (mt_Q G (some (.int o.1)) o.2) args s 0 0 (hp_A G)) G 2 0 0 24 [] [.int t0] h := by
  unfold f_X1_mudOf_24 at hf
  exact wk_ireturn X dX1_mudOf_24 hf
end S_X1_mudOf
def f_X1_mudOf (x0 : Nat) (x1 : Int32) (h : hp_H) : Option (Int32 × hp_H) := gd h x0 1 ((rd_I h x0 1 4).bind fun v1 => if 0 < v1 then ((rd_R h x0 1 5).bind fun v2 => (rd_I h x0 1 4).bind fun v3 => (hp_rem x1 v3).bind fun v4 => (f_X2_at v2 v4 h).bind fun r5 => f_X1_mudOf_24 r5.1 r5.2) else (f_X1_mudOf_24 2 h))
set_option maxRecDepth 20000 in
theorem c_X1_mudOf (l : Launch) (x0 : Nat) (x1 : Int32) (h : hp_H) (r : Int32 × hp_H) (hf : f_X1_mudOf x0 x1 h = some r) : cv l 2 yX1_mudOf cX1_mudOf 2 (some .int) 1 x0 [.int x1] h (some (.int r.1)) r.2 := by
  unfold f_X1_mudOf at hf
  refine cv_of (lv := [(0, .ref x0), (1, .int x1)]) hf (by decide +kernel) (Nat.le_of_ble_eq_true rfl) rfl (fun hf p e s m args below meth c G X => ?_)
  refine wk_aload_n X dX1_mudOf_0 0 rfl ?_
  refine wk_getI X dX1_mudOf_1 fo_X1_24 hf (fun v1 hf => ?_)
  refine wk_if_gt X 11 dX1_mudOf_4 (by decide) hf (fun hf => ?_) (fun hf => ?_)
  · refine wk_aload_n X dX1_mudOf_11 0 rfl ?_
    refine wk_getR X dX1_mudOf_12 fo_X1_32 hf (fun v2 hf => ?_)
    refine wk_iload_n X dX1_mudOf_15 1 rfl ?_
    refine wk_aload_n X dX1_mudOf_16 0 rfl ?_
    refine wk_getI X dX1_mudOf_17 fo_X1_24 hf (fun v3 hf => ?_)
    refine wk_irem X dX1_mudOf_20 hf (fun v4 hf => ?_)
    refine wk_callVi X [.int v4] [] dX1_mudOf_21 rfl vo_X1_53 rfl (by decide) (Nat.le_of_ble_eq_true rfl) hf (c_X2_at l _ _ _) (fun r5 hf => ?_)
    exact wq_sub [] rfl (w_X1_mudOf_24 X _ _ hf)
  · refine wk_iconst X dX1_mudOf_7 ic_2 ?_
    refine wk_goto X 24 dX1_mudOf_8 (by decide) ?_
    exact wq_sub [] rfl (w_X1_mudOf_24 X _ _ hf)
section S_X2_fill
variable {p : Program} {l : Launch} {e : Env} {s : State} {m : MethodId} {args : Array Value} {below : List Frame} {meth : Method} {c : Code} {G : hp_G} {o : hp_H}
def f_X2_fill_2 (k2 : Nat → Int32 → Int32 → hp_H → Option (hp_H)) (x0 : Nat) (x1 : Int32) (x2 : Int32) (h : hp_H) : Option (hp_H) := (rd_R h x0 2 0).bind fun v1 => (rd_L h v1).bind fun v2 => if v2 ≤ x2 then (some h) else ((rd_R h x0 2 0).bind fun v3 => (wr_A h v3 x2 x1).bind fun h4 => k2 x0 x1 (x2 + 1) h4)
set_option maxRecDepth 20000 in
theorem w_X2_fill_2 (X : wx G p s m args meth c cX2_fill 3 RX2 none) (k2 : Nat → Int32 → Int32 → hp_H → Option (hp_H)) (hk2 : ∀ (x0 : Nat) (x1 : Int32) (x2 : Int32) (h : hp_H), k2 x0 x1 x2 h = some o → wq p l e (mt_R 1 0 0) s m args below meth c (MQ below (mt_Q G none o) args s 0 0 (hp_A G)) G 3 0 0 2 [(0, .ref x0), (1, .int x1), (2, .int x2)] [] h) (x0 : Nat) (x1 : Int32) (x2 : Int32) (h : hp_H) (hf : f_X2_fill_2 k2 x0 x1 x2 h = some o) : wq p l e (mt_R 1 0 0) s m args below meth c (MQ below (mt_Q G none o) args s 0 0 (hp_A G)) G 3 0 0 2 [(0, .ref x0), (1, .int x1), (2, .int x2)] [] h := by
  unfold f_X2_fill_2 at hf
  refine wk_iload_n X dX2_fill_2 2 rfl ?_
  refine wk_aload_n X dX2_fill_3 0 rfl ?_
  refine wk_getR X dX2_fill_4 fo_X2_13 hf (fun v1 hf => ?_)
  refine wk_alen X dX2_fill_7 hf (fun v2 hf => ?_)
  refine wk_icmp_ge X 24 dX2_fill_8 (by decide) hf (fun hf => ?_) (fun hf => ?_)
  · exact wk_return X dX2_fill_24 hf
  · refine wk_aload_n X dX2_fill_11 0 rfl ?_
    refine wk_getR X dX2_fill_12 fo_X2_13 hf (fun v3 hf => ?_)
    refine wk_iload_n X dX2_fill_15 2 rfl ?_
    refine wk_iload_n X dX2_fill_16 1 rfl ?_
    refine wk_iast X dX2_fill_17 hf (fun h4 hf => ?_)
    refine wk_iinc (lv' := [(2, .int (x2 + 1)), (0, .ref x0), (1, .int x1)]) X dX2_fill_18 2 rfl ic_1 (by decide) rfl ?_
    refine wk_goto X 2 dX2_fill_21 (by decide) ?_
    exact wq_sub [1, 2, 0] rfl (hk2 _ _ _ _ hf)
def l_X2_fill_2 (x0 : Nat) (x1 : Int32) (x2 : Int32) (h : hp_H) : Option (hp_H) := lp (fun k (s : Nat × Int32 × Int32 × hp_H) => f_X2_fill_2  (fun a0 a1 a2 a3 => k (a0, a1, a2, a3)) s.1 s.2.1 s.2.2.1 s.2.2.2) 100000 (x0, x1, x2, h)
theorem wl_X2_fill_2 (X : wx G p s m args meth c cX2_fill 3 RX2 none) (x0 : Nat) (x1 : Int32) (x2 : Int32) (h : hp_H) (hf : l_X2_fill_2 x0 x1 x2 h = some o) : wq p l e (mt_R 1 0 0) s m args below meth c (MQ below (mt_Q G none o) args s 0 0 (hp_A G)) G 3 0 0 2 [(0, .ref x0), (1, .int x1), (2, .int x2)] [] h :=
  lp_ind (P := fun (s_ : Nat × Int32 × Int32 × hp_H) => wq p l e (mt_R 1 0 0) s m args below meth c (MQ below (mt_Q G none o) args s 0 0 (hp_A G)) G 3 0 0 2 [(0, .ref s_.1), (1, .int s_.2.1), (2, .int s_.2.2.1)] [] s_.2.2.2) (fun k s hk hf => w_X2_fill_2 X  (fun a0 a1 a2 a3 => k (a0, a1, a2, a3)) (fun a0 a1 a2 a3 hf => hk (a0, a1, a2, a3) hf) s.1 s.2.1 s.2.2.1 s.2.2.2 hf) 100000 (x0, x1, x2, h) hf
end S_X2_fill
def f_X2_fill (x0 : Nat) (x1 : Int32) (h : hp_H) : Option (hp_H) := gd h x0 2 (l_X2_fill_2 x0 x1 0 h)
set_option maxRecDepth 20000 in
theorem c_X2_fill (l : Launch) (x0 : Nat) (x1 : Int32) (h : hp_H) (r : hp_H) (hf : f_X2_fill x0 x1 h = some r) : cv l 1 yX2_fill cX2_fill 3 none 2 x0 [.int x1] h none r := by
  unfold f_X2_fill at hf
  refine cv_of (lv := [(0, .ref x0), (1, .int x1)]) hf (by decide +kernel) (Nat.le_of_ble_eq_true rfl) rfl (fun hf p e s m args below meth c G X => ?_)
  refine wk_iconst X dX2_fill_0 ic_0 ?_
  refine wk_istore_n (lv' := [(2, .int 0), (0, .ref x0), (1, .int x1)]) X dX2_fill_1 (by decide) rfl ?_
  exact wq_sub [1, 2, 0] rfl (wl_X2_fill_2 X _ _ _ _ hf)
section S_X6_give
variable {p : Program} {l : Launch} {e : Env} {s : State} {m : MethodId} {args : Array Value} {below : List Frame} {meth : Method} {c : Code} {G : hp_G} {o : hp_H}
end S_X6_give
def f_X6_give (x0 : Nat) (x1 : Int32) (x2 : Int32) (h : hp_H) : Option (hp_H) := gd h x0 6 ((rd_R h x0 6 2).bind fun v1 => (f_X2_set v1 ((-1) - x1) x2 h).bind fun r2 => some r2)
set_option maxRecDepth 20000 in
theorem c_X6_give (l : Launch) (x0 : Nat) (x1 : Int32) (x2 : Int32) (h : hp_H) (r : hp_H) (hf : f_X6_give x0 x1 x2 h = some r) : cv l 2 yX6_give cX6_give 3 none 6 x0 [.int x1, .int x2] h none r := by
  unfold f_X6_give at hf
  refine cv_of (lv := [(0, .ref x0), (1, .int x1), (2, .int x2)]) hf (by decide +kernel) (Nat.le_of_ble_eq_true rfl) rfl (fun hf p e s m args below meth c G X => ?_)
  refine wk_aload_n X dX6_give_0 0 rfl ?_
  refine wk_getR X dX6_give_1 fo_X6_23 hf (fun v1 hf => ?_)
  refine wk_iconst X dX6_give_4 ic_m1 ?_
  refine wk_iload_n X dX6_give_5 1 rfl ?_
  refine wk_isub X dX6_give_6 ?_
  refine wk_iload_n X dX6_give_7 2 rfl ?_
  refine wk_callVv X [.int ((-1) - x1), .int x2] [] dX6_give_8 rfl vo_X6_30 rfl (by decide) (Nat.le_of_ble_eq_true rfl) hf (c_X2_set l _ _ _ _) (fun r2 hf => ?_)
  exact wk_return X dX6_give_11 hf
section S_X6_joined
variable {p : Program} {l : Launch} {e : Env} {s : State} {m : MethodId} {args : Array Value} {below : List Frame} {meth : Method} {c : Code} {G : hp_G} {o : Int32 × hp_H}
def f_X6_joined_117 (t0 : Int32) (h : hp_H) : Option (Int32 × hp_H) := some (t0, h)
set_option maxRecDepth 20000 in
theorem w_X6_joined_117 (X : wx G p s m args meth c cX6_joined 3 RX6 (some .int)) (t0 : Int32) (h : hp_H) (hf : f_X6_joined_117 t0 h = some o) : wq p l e (mt_R 1 0 0) s m args below meth c (MQ below (mt_Q G (some (.int o.1)) o.2) args s 0 0 (hp_A G)) G 3 0 0 117 [] [.int t0] h := by
  unfold f_X6_joined_117 at hf
  exact wk_ireturn X dX6_joined_117 hf
def f_X6_joined_112  (h : hp_H) : Option (Int32 × hp_H) := f_X6_joined_117 1 h
set_option maxRecDepth 20000 in
theorem w_X6_joined_112 (X : wx G p s m args meth c cX6_joined 3 RX6 (some .int))  (h : hp_H) (hf : f_X6_joined_112 h = some o) : wq p l e (mt_R 1 0 0) s m args below meth c (MQ below (mt_Q G (some (.int o.1)) o.2) args s 0 0 (hp_A G)) G 3 0 0 112 [] [] h := by
  unfold f_X6_joined_112 at hf
  refine wk_iconst X dX6_joined_112 ic_1 ?_
  refine wk_goto X 117 dX6_joined_113 (by decide) ?_
  exact wq_sub [] rfl (w_X6_joined_117 X _ _ hf)
def f_X6_joined_103 (t0 : Int32) (h : hp_H) : Option (Int32 × hp_H) := some (t0, h)
set_option maxRecDepth 20000 in
theorem w_X6_joined_103 (X : wx G p s m args meth c cX6_joined 3 RX6 (some .int)) (t0 : Int32) (h : hp_H) (hf : f_X6_joined_103 t0 h = some o) : wq p l e (mt_R 1 0 0) s m args below meth c (MQ below (mt_Q G (some (.int o.1)) o.2) args s 0 0 (hp_A G)) G 3 0 0 103 [] [.int t0] h := by
  unfold f_X6_joined_103 at hf
  exact wk_ireturn X dX6_joined_103 hf
def f_X6_joined_102  (h : hp_H) : Option (Int32 × hp_H) := f_X6_joined_103 0 h
set_option maxRecDepth 20000 in
theorem w_X6_joined_102 (X : wx G p s m args meth c cX6_joined 3 RX6 (some .int))  (h : hp_H) (hf : f_X6_joined_102 h = some o) : wq p l e (mt_R 1 0 0) s m args below meth c (MQ below (mt_Q G (some (.int o.1)) o.2) args s 0 0 (hp_A G)) G 3 0 0 102 [] [] h := by
  unfold f_X6_joined_102 at hf
  refine wk_iconst X dX6_joined_102 ic_0 ?_
  exact wq_sub [] rfl (w_X6_joined_103 X _ _ hf)
def f_X6_joined_89 (t0 : Int32) (h : hp_H) : Option (Int32 × hp_H) := some (t0, h)
set_option maxRecDepth 20000 in
theorem w_X6_joined_89 (X : wx G p s m args meth c cX6_joined 3 RX6 (some .int)) (t0 : Int32) (h : hp_H) (hf : f_X6_joined_89 t0 h = some o) : wq p l e (mt_R 1 0 0) s m args below meth c (MQ below (mt_Q G (some (.int o.1)) o.2) args s 0 0 (hp_A G)) G 3 0 0 89 [] [.int t0] h := by
  unfold f_X6_joined_89 at hf
  exact wk_ireturn X dX6_joined_89 hf
def f_X6_joined_78 (t0 : Int32) (h : hp_H) : Option (Int32 × hp_H) := some (t0, h)
set_option maxRecDepth 20000 in
theorem w_X6_joined_78 (X : wx G p s m args meth c cX6_joined 3 RX6 (some .int)) (t0 : Int32) (h : hp_H) (hf : f_X6_joined_78 t0 h = some o) : wq p l e (mt_R 1 0 0) s m args below meth c (MQ below (mt_Q G (some (.int o.1)) o.2) args s 0 0 (hp_A G)) G 3 0 0 78 [] [.int t0] h := by
  unfold f_X6_joined_78 at hf
  exact wk_ireturn X dX6_joined_78 hf
def f_X6_joined_67 (t0 : Int32) (h : hp_H) : Option (Int32 × hp_H) := some (t0, h)
set_option maxRecDepth 20000 in
theorem w_X6_joined_67 (X : wx G p s m args meth c cX6_joined 3 RX6 (some .int)) (t0 : Int32) (h : hp_H) (hf : f_X6_joined_67 t0 h = some o) : wq p l e (mt_R 1 0 0) s m args below meth c (MQ below (mt_Q G (some (.int o.1)) o.2) args s 0 0 (hp_A G)) G 3 0 0 67 [] [.int t0] h := by
  unfold f_X6_joined_67 at hf
  exact wk_ireturn X dX6_joined_67 hf
end S_X6_joined
def f_X6_joined (x0 : Int32) (x1 : Int32) (x2 : Int32) (h : hp_H) : Option (Int32 × hp_H) := if x0 = (-14) then (if x1 = 0 then (f_X6_joined_102 h) else (if x2 = 0 then (f_X6_joined_102 h) else (f_X6_joined_103 1 h))) else (if x0 = (-13) then (if x1 = x2 then (f_X6_joined_89 1 h) else (f_X6_joined_89 0 h)) else (if x0 = (-12) then (if x2 ≤ x1 then (f_X6_joined_78 0 h) else (f_X6_joined_78 1 h)) else (if x0 = (-11) then (if x2 = 0 then (f_X6_joined_67 0 h) else ((hp_div x1 x2).bind fun v1 => f_X6_joined_67 v1 h)) else (if x0 = (-10) then (some (x1 * x2, h)) else (if x0 = (-9) then (some (x1 - x2, h)) else (if x0 = (-8) then (some (x1 + x2, h)) else (if x1 = 0 then (if x2 = 0 then (f_X6_joined_117 0 h) else (f_X6_joined_112 h)) else (f_X6_joined_112 h))))))))
set_option maxRecDepth 20000 in
theorem c_X6_joined (l : Launch) (x0 : Int32) (x1 : Int32) (x2 : Int32) (h : hp_H) (r : Int32 × hp_H) (hf : f_X6_joined x0 x1 x2 h = some r) : cs l 1 yX6_joined cX6_joined 3 (some .int) [.int x0, .int x1, .int x2] h (some (.int r.1)) r.2 := by
  unfold f_X6_joined at hf
  refine mt_of (lv := [(0, .int x0), (1, .int x1), (2, .int x2)]) (by decide +kernel) (Nat.le_of_ble_eq_true rfl) rfl (fun p e s m args below meth c G X => ?_)
  refine wk_iload_n X dX6_joined_0 0 rfl ?_
  refine wk_ts_in X 90 0 dX6_joined_1 (by decide) (by decide) (by decide) rfl (by decide) hf (fun hf => ?_) (fun n0 hf => ?_)
  · refine wk_iload_n X dX6_joined_90 1 rfl ?_
    refine wk_if_eq X 102 dX6_joined_91 (by decide) hf (fun hf => ?_) (fun hf => ?_)
    · exact wq_sub [] rfl (w_X6_joined_102 X _ hf)
    · refine wk_iload_n X dX6_joined_94 2 rfl ?_
      refine wk_if_eq X 102 dX6_joined_95 (by decide) hf (fun hf => ?_) (fun hf => ?_)
      · exact wq_sub [] rfl (w_X6_joined_102 X _ hf)
      · refine wk_iconst X dX6_joined_98 ic_1 ?_
        refine wk_goto X 103 dX6_joined_99 (by decide) ?_
        exact wq_sub [] rfl (w_X6_joined_103 X _ _ hf)
  refine wk_ts_in X 79 1 dX6_joined_1 (by decide) (by decide) (by decide) rfl (by decide) hf (fun hf => ?_) (fun n1 hf => ?_)
  · refine wk_iload_n X dX6_joined_79 1 rfl ?_
    refine wk_iload_n X dX6_joined_80 2 rfl ?_
    refine wk_icmp_ne X 88 dX6_joined_81 (by decide) hf (fun hf => ?_) (fun hf => ?_)
    · refine wk_iconst X dX6_joined_88 ic_0 ?_
      exact wq_sub [] rfl (w_X6_joined_89 X _ _ hf)
    · refine wk_iconst X dX6_joined_84 ic_1 ?_
      refine wk_goto X 89 dX6_joined_85 (by decide) ?_
      exact wq_sub [] rfl (w_X6_joined_89 X _ _ hf)
  refine wk_ts_in X 68 2 dX6_joined_1 (by decide) (by decide) (by decide) rfl (by decide) hf (fun hf => ?_) (fun n2 hf => ?_)
  · refine wk_iload_n X dX6_joined_68 1 rfl ?_
    refine wk_iload_n X dX6_joined_69 2 rfl ?_
    refine wk_icmp_ge X 77 dX6_joined_70 (by decide) hf (fun hf => ?_) (fun hf => ?_)
    · refine wk_iconst X dX6_joined_77 ic_0 ?_
      exact wq_sub [] rfl (w_X6_joined_78 X _ _ hf)
    · refine wk_iconst X dX6_joined_73 ic_1 ?_
      refine wk_goto X 78 dX6_joined_74 (by decide) ?_
      exact wq_sub [] rfl (w_X6_joined_78 X _ _ hf)
  refine wk_ts_in X 56 3 dX6_joined_1 (by decide) (by decide) (by decide) rfl (by decide) hf (fun hf => ?_) (fun n3 hf => ?_)
  · refine wk_iload_n X dX6_joined_56 2 rfl ?_
    refine wk_if_ne X 64 dX6_joined_57 (by decide) hf (fun hf => ?_) (fun hf => ?_)
    · refine wk_iload_n X dX6_joined_64 1 rfl ?_
      refine wk_iload_n X dX6_joined_65 2 rfl ?_
      refine wk_idiv X dX6_joined_66 hf (fun v1 hf => ?_)
      exact wq_sub [] rfl (w_X6_joined_67 X _ _ hf)
    · refine wk_iconst X dX6_joined_60 ic_0 ?_
      refine wk_goto X 67 dX6_joined_61 (by decide) ?_
      exact wq_sub [] rfl (w_X6_joined_67 X _ _ hf)
  refine wk_ts_in X 52 4 dX6_joined_1 (by decide) (by decide) (by decide) rfl (by decide) hf (fun hf => ?_) (fun n4 hf => ?_)
  · refine wk_iload_n X dX6_joined_52 1 rfl ?_
    refine wk_iload_n X dX6_joined_53 2 rfl ?_
    refine wk_imul X dX6_joined_54 ?_
    exact wk_ireturn X dX6_joined_55 hf
  refine wk_ts_in X 48 5 dX6_joined_1 (by decide) (by decide) (by decide) rfl (by decide) hf (fun hf => ?_) (fun n5 hf => ?_)
  · refine wk_iload_n X dX6_joined_48 1 rfl ?_
    refine wk_iload_n X dX6_joined_49 2 rfl ?_
    refine wk_isub X dX6_joined_50 ?_
    exact wk_ireturn X dX6_joined_51 hf
  refine wk_ts_in X 44 6 dX6_joined_1 (by decide) (by decide) (by decide) rfl (by decide) hf (fun hf => ?_) (fun n6 hf => ?_)
  · refine wk_iload_n X dX6_joined_44 1 rfl ?_
    refine wk_iload_n X dX6_joined_45 2 rfl ?_
    refine wk_iadd X dX6_joined_46 ?_
    exact wk_ireturn X dX6_joined_47 hf
  refine wk_ts_out X 104 dX6_joined_1 (fc_c n0 (fc_c n1 (fc_c n2 (fc_c n3 (fc_c n4 (fc_c n5 (fc_c n6 fc_n))))))) (by decide) (by decide) (by decide) ?_
  refine wk_iload_n X dX6_joined_104 1 rfl ?_
  refine wk_if_ne X 112 dX6_joined_105 (by decide) hf (fun hf => ?_) (fun hf => ?_)
  · exact wq_sub [] rfl (w_X6_joined_112 X _ hf)
  · refine wk_iload_n X dX6_joined_108 2 rfl ?_
    refine wk_if_eq X 116 dX6_joined_109 (by decide) hf (fun hf => ?_) (fun hf => ?_)
    · refine wk_iconst X dX6_joined_116 ic_0 ?_
      exact wq_sub [] rfl (w_X6_joined_117 X _ _ hf)
    · exact wq_sub [] rfl (w_X6_joined_112 X _ hf)
section S_X6_answer
variable {p : Program} {l : Launch} {e : Env} {s : State} {m : MethodId} {args : Array Value} {below : List Frame} {meth : Method} {c : Code} {G : hp_G} {o : Int32 × hp_H}
def f_X6_answer_137 (x0 : Nat) (h : hp_H) : Option (Int32 × hp_H) := (rd_R h x0 6 0).bind fun v1 => (f_X2_at v1 0 h).bind fun r2 => some (r2.1, r2.2)
set_option maxRecDepth 20000 in
theorem w_X6_answer_137 (X : wx G p s m args meth c cX6_answer 4 RX6 (some .int)) (x0 : Nat) (h : hp_H) (hf : f_X6_answer_137 x0 h = some o) : wq p l e (mt_R 2 0 0) s m args below meth c (MQ below (mt_Q G (some (.int o.1)) o.2) args s 0 0 (hp_A G)) G 4 0 0 137 [(0, .ref x0)] [] h := by
  unfold f_X6_answer_137 at hf
  refine wk_aload_n X dX6_answer_137 0 rfl ?_
  refine wk_getR X dX6_answer_138 fo_X6_14 hf (fun v1 hf => ?_)
  refine wk_iconst X dX6_answer_141 ic_0 ?_
  refine wk_callVi X [.int 0] [] dX6_answer_142 rfl vo_X6_34 rfl (by decide) (Nat.le_of_ble_eq_true rfl) hf (c_X2_at l _ _ _) (fun r2 hf => ?_)
  exact wk_ireturn X dX6_answer_145 hf
def f_X6_answer_131 (k4 : Nat → Int32 → Int32 → hp_H → Option (Int32 × hp_H)) (x0 : Nat) (x1 : Int32) (x2 : Int32) (h : hp_H) : Option (Int32 × hp_H) := k4 x0 x1 (x2 + 1) h
set_option maxRecDepth 20000 in
theorem w_X6_answer_131 (X : wx G p s m args meth c cX6_answer 4 RX6 (some .int)) (k4 : Nat → Int32 → Int32 → hp_H → Option (Int32 × hp_H)) (hk4 : ∀ (x0 : Nat) (x1 : Int32) (x2 : Int32) (h : hp_H), k4 x0 x1 x2 h = some o → wq p l e (mt_R 2 0 0) s m args below meth c (MQ below (mt_Q G (some (.int o.1)) o.2) args s 0 0 (hp_A G)) G 4 0 0 4 [(0, .ref x0), (1, .int x1), (2, .int x2)] [] h) (x0 : Nat) (x1 : Int32) (x2 : Int32) (h : hp_H) (hf : f_X6_answer_131 k4 x0 x1 x2 h = some o) : wq p l e (mt_R 2 0 0) s m args below meth c (MQ below (mt_Q G (some (.int o.1)) o.2) args s 0 0 (hp_A G)) G 4 0 0 131 [(0, .ref x0), (1, .int x1), (2, .int x2)] [] h := by
  unfold f_X6_answer_131 at hf
  refine wk_iinc (lv' := [(2, .int (x2 + 1)), (0, .ref x0), (1, .int x1)]) X dX6_answer_131 2 rfl ic_1 (by decide) rfl ?_
  refine wk_goto X 4 dX6_answer_134 (by decide) ?_
  exact wq_sub [1, 2, 0] rfl (hk4 _ _ _ _ hf)
def f_X6_answer_90 (k4 : Nat → Int32 → Int32 → hp_H → Option (Int32 × hp_H)) (x0 : Nat) (x1 : Int32) (x2 : Int32) (t0 : Nat) (t1 : Int32) (t2 : Int32) (h : hp_H) : Option (Int32 × hp_H) := (f_X2_set t0 t1 t2 h).bind fun r1 => f_X6_answer_131 k4 x0 x1 x2 r1
set_option maxRecDepth 20000 in
theorem w_X6_answer_90 (X : wx G p s m args meth c cX6_answer 4 RX6 (some .int)) (k4 : Nat → Int32 → Int32 → hp_H → Option (Int32 × hp_H)) (hk4 : ∀ (x0 : Nat) (x1 : Int32) (x2 : Int32) (h : hp_H), k4 x0 x1 x2 h = some o → wq p l e (mt_R 2 0 0) s m args below meth c (MQ below (mt_Q G (some (.int o.1)) o.2) args s 0 0 (hp_A G)) G 4 0 0 4 [(0, .ref x0), (1, .int x1), (2, .int x2)] [] h) (x0 : Nat) (x1 : Int32) (x2 : Int32) (t0 : Nat) (t1 : Int32) (t2 : Int32) (h : hp_H) (hf : f_X6_answer_90 k4 x0 x1 x2 t0 t1 t2 h = some o) : wq p l e (mt_R 2 0 0) s m args below meth c (MQ below (mt_Q G (some (.int o.1)) o.2) args s 0 0 (hp_A G)) G 4 0 0 90 [(0, .ref x0), (1, .int x1), (2, .int x2)] [.int t2, .int t1, .ref t0] h := by
  unfold f_X6_answer_90 at hf
  refine wk_callVv X [.int t1, .int t2] [] dX6_answer_90 rfl vo_X6_30 rfl (by decide) (Nat.le_of_ble_eq_true rfl) hf (c_X2_set l _ _ _ _) (fun r1 hf => ?_)
  refine wk_goto X 131 dX6_answer_93 (by decide) ?_
  exact wq_sub [0, 1, 2] rfl (w_X6_answer_131 X k4 hk4 _ _ _ _ hf)
def f_X6_answer_50 (k4 : Nat → Int32 → Int32 → hp_H → Option (Int32 × hp_H)) (x0 : Nat) (x1 : Int32) (x2 : Int32) (t0 : Nat) (t1 : Int32) (t2 : Int32) (h : hp_H) : Option (Int32 × hp_H) := (f_X2_set t0 t1 t2 h).bind fun r1 => f_X6_answer_131 k4 x0 (x1 + 1) x2 r1
set_option maxRecDepth 20000 in
theorem w_X6_answer_50 (X : wx G p s m args meth c cX6_answer 4 RX6 (some .int)) (k4 : Nat → Int32 → Int32 → hp_H → Option (Int32 × hp_H)) (hk4 : ∀ (x0 : Nat) (x1 : Int32) (x2 : Int32) (h : hp_H), k4 x0 x1 x2 h = some o → wq p l e (mt_R 2 0 0) s m args below meth c (MQ below (mt_Q G (some (.int o.1)) o.2) args s 0 0 (hp_A G)) G 4 0 0 4 [(0, .ref x0), (1, .int x1), (2, .int x2)] [] h) (x0 : Nat) (x1 : Int32) (x2 : Int32) (t0 : Nat) (t1 : Int32) (t2 : Int32) (h : hp_H) (hf : f_X6_answer_50 k4 x0 x1 x2 t0 t1 t2 h = some o) : wq p l e (mt_R 2 0 0) s m args below meth c (MQ below (mt_Q G (some (.int o.1)) o.2) args s 0 0 (hp_A G)) G 4 0 0 50 [(0, .ref x0), (1, .int x1), (2, .int x2)] [.int t2, .int t1, .ref t0] h := by
  unfold f_X6_answer_50 at hf
  refine wk_callVv X [.int t1, .int t2] [] dX6_answer_50 rfl vo_X6_30 rfl (by decide) (Nat.le_of_ble_eq_true rfl) hf (c_X2_set l _ _ _ _) (fun r1 hf => ?_)
  refine wk_iinc (lv' := [(1, .int (x1 + 1)), (0, .ref x0), (2, .int x2)]) X dX6_answer_53 1 rfl ic_1 (by decide) rfl ?_
  refine wk_goto X 131 dX6_answer_56 (by decide) ?_
  exact wq_sub [1, 0, 2] rfl (w_X6_answer_131 X k4 hk4 _ _ _ _ hf)
def f_X6_answer_4 (k4 : Nat → Int32 → Int32 → hp_H → Option (Int32 × hp_H)) (x0 : Nat) (x1 : Int32) (x2 : Int32) (h : hp_H) : Option (Int32 × hp_H) := (rd_I h x0 6 3).bind fun v1 => if v1 ≤ x2 then (f_X6_answer_137 x0 h) else ((rd_R h x0 6 1).bind fun v2 => (f_X2_at v2 x2 h).bind fun r3 => if r3.1 ≤ (-7) then (if r3.1 = (-7) then ((rd_R r3.2 x0 6 0).bind fun v11 => (rd_R r3.2 x0 6 0).bind fun v12 => (f_X2_at v12 (x1 - 1) r3.2).bind fun r13 => if r13.1 = 0 then (f_X6_answer_90 k4 x0 x1 x2 v11 (x1 - 1) 1 r13.2) else (f_X6_answer_90 k4 x0 x1 x2 v11 (x1 - 1) 0 r13.2)) else ((rd_R r3.2 x0 6 0).bind fun v4 => (rd_R r3.2 x0 6 0).bind fun v5 => (f_X2_at v5 ((x1 + (-1)) - 1) r3.2).bind fun r6 => (rd_R r6.2 x0 6 0).bind fun v7 => (f_X2_at v7 (x1 + (-1)) r6.2).bind fun r8 => (f_X6_joined r3.1 r6.1 r8.1 r8.2).bind fun r9 => (f_X2_set v4 ((x1 + (-1)) - 1) r9.1 r9.2).bind fun r10 => f_X6_answer_131 k4 x0 (x1 + (-1)) x2 r10)) else ((rd_R r3.2 x0 6 0).bind fun v14 => if r3.1 < 0 then ((rd_R r3.2 x0 6 2).bind fun v15 => (f_X2_at v15 ((-1) - r3.1) r3.2).bind fun r16 => f_X6_answer_50 k4 x0 x1 x2 v14 x1 r16.1 r16.2) else (f_X6_answer_50 k4 x0 x1 x2 v14 x1 r3.1 r3.2)))
set_option maxRecDepth 20000 in
theorem w_X6_answer_4 (X : wx G p s m args meth c cX6_answer 4 RX6 (some .int)) (k4 : Nat → Int32 → Int32 → hp_H → Option (Int32 × hp_H)) (hk4 : ∀ (x0 : Nat) (x1 : Int32) (x2 : Int32) (h : hp_H), k4 x0 x1 x2 h = some o → wq p l e (mt_R 2 0 0) s m args below meth c (MQ below (mt_Q G (some (.int o.1)) o.2) args s 0 0 (hp_A G)) G 4 0 0 4 [(0, .ref x0), (1, .int x1), (2, .int x2)] [] h) (x0 : Nat) (x1 : Int32) (x2 : Int32) (h : hp_H) (hf : f_X6_answer_4 k4 x0 x1 x2 h = some o) : wq p l e (mt_R 2 0 0) s m args below meth c (MQ below (mt_Q G (some (.int o.1)) o.2) args s 0 0 (hp_A G)) G 4 0 0 4 [(0, .ref x0), (1, .int x1), (2, .int x2)] [] h := by
  unfold f_X6_answer_4 at hf
  refine wk_iload_n X dX6_answer_4 2 rfl ?_
  refine wk_aload_n X dX6_answer_5 0 rfl ?_
  refine wk_getI X dX6_answer_6 fo_X6_26 hf (fun v1 hf => ?_)
  refine wk_icmp_ge X 137 dX6_answer_9 (by decide) hf (fun hf => ?_) (fun hf => ?_)
  · exact wq_sub [0] rfl (w_X6_answer_137 X _ _ hf)
  · refine wk_aload_n X dX6_answer_12 0 rfl ?_
    refine wk_getR X dX6_answer_13 fo_X6_20 hf (fun v2 hf => ?_)
    refine wk_iload_n X dX6_answer_16 2 rfl ?_
    refine wk_callVi X [.int x2] [] dX6_answer_17 rfl vo_X6_34 rfl (by decide) (Nat.le_of_ble_eq_true rfl) hf (c_X2_at l _ _ _) (fun r3 hf => ?_)
    refine wk_istore_n (lv' := [(3, .int r3.1), (0, .ref x0), (1, .int x1), (2, .int x2)]) X dX6_answer_20 (by decide) rfl ?_
    refine wk_iload_n X dX6_answer_21 0 rfl ?_
    refine wk_bipush X dX6_answer_22 ib_m7 ?_
    refine wk_icmp_le X 59 dX6_answer_24 (by decide) hf (fun hf => ?_) (fun hf => ?_)
    · refine wk_iload_n X dX6_answer_59 0 rfl ?_
      refine wk_bipush X dX6_answer_60 ib_m7 ?_
      refine wk_icmp_ne X 96 dX6_answer_62 (by decide) hf (fun hf => ?_) (fun hf => ?_)
      · refine wk_iinc (lv' := [(1, .int (x1 + (-1))), (3, .int r3.1), (0, .ref x0), (2, .int x2)]) X dX6_answer_96 2 rfl ic_m1 (by decide) rfl ?_
        refine wk_aload_n X dX6_answer_99 2 rfl ?_
        refine wk_getR X dX6_answer_100 fo_X6_14 hf (fun v4 hf => ?_)
        refine wk_iload_n X dX6_answer_103 0 rfl ?_
        refine wk_iconst X dX6_answer_104 ic_1 ?_
        refine wk_isub X dX6_answer_105 ?_
        refine wk_iload_n X dX6_answer_106 1 rfl ?_
        refine wk_aload_n X dX6_answer_107 2 rfl ?_
        refine wk_getR X dX6_answer_108 fo_X6_14 hf (fun v5 hf => ?_)
        refine wk_iload_n X dX6_answer_111 0 rfl ?_
        refine wk_iconst X dX6_answer_112 ic_1 ?_
        refine wk_isub X dX6_answer_113 ?_
        refine wk_callVi X [.int ((x1 + (-1)) - 1)] [.int r3.1, .int ((x1 + (-1)) - 1), .ref v4] dX6_answer_114 rfl vo_X6_34 rfl (by decide) (Nat.le_of_ble_eq_true rfl) hf (c_X2_at l _ _ _) (fun r6 hf => ?_)
        refine wk_aload_n X dX6_answer_117 2 rfl ?_
        refine wk_getR X dX6_answer_118 fo_X6_14 hf (fun v7 hf => ?_)
        refine wk_iload_n X dX6_answer_121 0 rfl ?_
        refine wk_callVi X [.int (x1 + (-1))] [.int r6.1, .int r3.1, .int ((x1 + (-1)) - 1), .ref v4] dX6_answer_122 rfl vo_X6_34 rfl (by decide) (Nat.le_of_ble_eq_true rfl) hf (c_X2_at l _ _ _) (fun r8 hf => ?_)
        refine wk_callSi X [.int r3.1, .int r6.1, .int r8.1] [.int ((x1 + (-1)) - 1), .ref v4] dX6_answer_125 rfl vo_X6_38 rfl (by decide) (Nat.le_of_ble_eq_true rfl) hf (c_X6_joined l _ _ _ _) (fun r9 hf => ?_)
        refine wk_callVv X [.int ((x1 + (-1)) - 1), .int r9.1] [] dX6_answer_128 rfl vo_X6_30 rfl (by decide) (Nat.le_of_ble_eq_true rfl) hf (c_X2_set l _ _ _ _) (fun r10 hf => ?_)
        exact wq_sub [2, 0, 3] rfl (w_X6_answer_131 X k4 hk4 _ _ _ _ hf)
      · refine wk_aload_n X dX6_answer_65 1 rfl ?_
        refine wk_getR X dX6_answer_66 fo_X6_14 hf (fun v11 hf => ?_)
        refine wk_iload_n X dX6_answer_69 2 rfl ?_
        refine wk_iconst X dX6_answer_70 ic_1 ?_
        refine wk_isub X dX6_answer_71 ?_
        refine wk_aload_n X dX6_answer_72 1 rfl ?_
        refine wk_getR X dX6_answer_73 fo_X6_14 hf (fun v12 hf => ?_)
        refine wk_iload_n X dX6_answer_76 2 rfl ?_
        refine wk_iconst X dX6_answer_77 ic_1 ?_
        refine wk_isub X dX6_answer_78 ?_
        refine wk_callVi X [.int (x1 - 1)] [.int (x1 - 1), .ref v11] dX6_answer_79 rfl vo_X6_34 rfl (by decide) (Nat.le_of_ble_eq_true rfl) hf (c_X2_at l _ _ _) (fun r13 hf => ?_)
        refine wk_if_ne X 89 dX6_answer_82 (by decide) hf (fun hf => ?_) (fun hf => ?_)
        · refine wk_iconst X dX6_answer_89 ic_0 ?_
          exact wq_sub [1, 2, 3] rfl (w_X6_answer_90 X k4 hk4 _ _ _ _ _ _ _ hf)
        · refine wk_iconst X dX6_answer_85 ic_1 ?_
          refine wk_goto X 90 dX6_answer_86 (by decide) ?_
          exact wq_sub [1, 2, 3] rfl (w_X6_answer_90 X k4 hk4 _ _ _ _ _ _ _ hf)
    · refine wk_aload_n X dX6_answer_27 1 rfl ?_
      refine wk_getR X dX6_answer_28 fo_X6_14 hf (fun v14 hf => ?_)
      refine wk_iload_n X dX6_answer_31 2 rfl ?_
      refine wk_iload_n X dX6_answer_32 0 rfl ?_
      refine wk_if_lt X 40 dX6_answer_33 (by decide) hf (fun hf => ?_) (fun hf => ?_)
      · refine wk_aload_n X dX6_answer_40 1 rfl ?_
        refine wk_getR X dX6_answer_41 fo_X6_23 hf (fun v15 hf => ?_)
        refine wk_iconst X dX6_answer_44 ic_m1 ?_
        refine wk_iload_n X dX6_answer_45 0 rfl ?_
        refine wk_isub X dX6_answer_46 ?_
        refine wk_callVi X [.int ((-1) - r3.1)] [.int x1, .ref v14] dX6_answer_47 rfl vo_X6_34 rfl (by decide) (Nat.le_of_ble_eq_true rfl) hf (c_X2_at l _ _ _) (fun r16 hf => ?_)
        exact wq_sub [1, 2, 3] rfl (w_X6_answer_50 X k4 hk4 _ _ _ _ _ _ _ hf)
      · refine wk_iload_n X dX6_answer_36 0 rfl ?_
        refine wk_goto X 50 dX6_answer_37 (by decide) ?_
        exact wq_sub [1, 2, 3] rfl (w_X6_answer_50 X k4 hk4 _ _ _ _ _ _ _ hf)
def l_X6_answer_4 (x0 : Nat) (x1 : Int32) (x2 : Int32) (h : hp_H) : Option (Int32 × hp_H) := lp (fun k (s : Nat × Int32 × Int32 × hp_H) => f_X6_answer_4  (fun a0 a1 a2 a3 => k (a0, a1, a2, a3)) s.1 s.2.1 s.2.2.1 s.2.2.2) 100000 (x0, x1, x2, h)
theorem wl_X6_answer_4 (X : wx G p s m args meth c cX6_answer 4 RX6 (some .int)) (x0 : Nat) (x1 : Int32) (x2 : Int32) (h : hp_H) (hf : l_X6_answer_4 x0 x1 x2 h = some o) : wq p l e (mt_R 2 0 0) s m args below meth c (MQ below (mt_Q G (some (.int o.1)) o.2) args s 0 0 (hp_A G)) G 4 0 0 4 [(0, .ref x0), (1, .int x1), (2, .int x2)] [] h :=
  lp_ind (P := fun (s_ : Nat × Int32 × Int32 × hp_H) => wq p l e (mt_R 2 0 0) s m args below meth c (MQ below (mt_Q G (some (.int o.1)) o.2) args s 0 0 (hp_A G)) G 4 0 0 4 [(0, .ref s_.1), (1, .int s_.2.1), (2, .int s_.2.2.1)] [] s_.2.2.2) (fun k s hk hf => w_X6_answer_4 X  (fun a0 a1 a2 a3 => k (a0, a1, a2, a3)) (fun a0 a1 a2 a3 hf => hk (a0, a1, a2, a3) hf) s.1 s.2.1 s.2.2.1 s.2.2.2 hf) 100000 (x0, x1, x2, h) hf
end S_X6_answer
def f_X6_answer (x0 : Nat) (h : hp_H) : Option (Int32 × hp_H) := gd h x0 6 (l_X6_answer_4 x0 0 0 h)
set_option maxRecDepth 20000 in
theorem c_X6_answer (l : Launch) (x0 : Nat) (h : hp_H) (r : Int32 × hp_H) (hf : f_X6_answer x0 h = some r) : cv l 2 yX6_answer cX6_answer 4 (some .int) 6 x0 [] h (some (.int r.1)) r.2 := by
  unfold f_X6_answer at hf
  refine cv_of (lv := [(0, .ref x0)]) hf (by decide +kernel) (Nat.le_of_ble_eq_true rfl) rfl (fun hf p e s m args below meth c G X => ?_)
  refine wk_iconst X dX6_answer_0 ic_0 ?_
  refine wk_istore_n (lv' := [(1, .int 0), (0, .ref x0)]) X dX6_answer_1 (by decide) rfl ?_
  refine wk_iconst X dX6_answer_2 ic_0 ?_
  refine wk_istore_n (lv' := [(2, .int 0), (1, .int 0), (0, .ref x0)]) X dX6_answer_3 (by decide) rfl ?_
  exact wq_sub [2, 1, 0] rfl (wl_X6_answer_4 X _ _ _ _ hf)
section S_J6_bitCount_0f7a4
variable {p : Program} {l : Launch} {e : Env} {s : State} {m : MethodId} {args : Array Value} {below : List Frame} {meth : Method} {c : Code} {G : hp_G} {o : Int32 × hp_H}
end S_J6_bitCount_0f7a4
def f_J6_bitCount_0f7a4 (x0 : Int32) (h : hp_H) : Option (Int32 × hp_H) := some ((((((((x0 - ((hp_ushr x0 1) &&& 1431655765)) &&& 858993459) + ((hp_ushr (x0 - ((hp_ushr x0 1) &&& 1431655765)) 2) &&& 858993459)) + (hp_ushr (((x0 - ((hp_ushr x0 1) &&& 1431655765)) &&& 858993459) + ((hp_ushr (x0 - ((hp_ushr x0 1) &&& 1431655765)) 2) &&& 858993459)) 4)) &&& 252645135) + (hp_ushr (((((x0 - ((hp_ushr x0 1) &&& 1431655765)) &&& 858993459) + ((hp_ushr (x0 - ((hp_ushr x0 1) &&& 1431655765)) 2) &&& 858993459)) + (hp_ushr (((x0 - ((hp_ushr x0 1) &&& 1431655765)) &&& 858993459) + ((hp_ushr (x0 - ((hp_ushr x0 1) &&& 1431655765)) 2) &&& 858993459)) 4)) &&& 252645135) 8)) + (hp_ushr ((((((x0 - ((hp_ushr x0 1) &&& 1431655765)) &&& 858993459) + ((hp_ushr (x0 - ((hp_ushr x0 1) &&& 1431655765)) 2) &&& 858993459)) + (hp_ushr (((x0 - ((hp_ushr x0 1) &&& 1431655765)) &&& 858993459) + ((hp_ushr (x0 - ((hp_ushr x0 1) &&& 1431655765)) 2) &&& 858993459)) 4)) &&& 252645135) + (hp_ushr (((((x0 - ((hp_ushr x0 1) &&& 1431655765)) &&& 858993459) + ((hp_ushr (x0 - ((hp_ushr x0 1) &&& 1431655765)) 2) &&& 858993459)) + (hp_ushr (((x0 - ((hp_ushr x0 1) &&& 1431655765)) &&& 858993459) + ((hp_ushr (x0 - ((hp_ushr x0 1) &&& 1431655765)) 2) &&& 858993459)) 4)) &&& 252645135) 8)) 16)) &&& 63, h)
set_option maxRecDepth 20000 in
theorem c_J6_bitCount_0f7a4 (l : Launch) (x0 : Int32) (h : hp_H) (r : Int32 × hp_H) (hf : f_J6_bitCount_0f7a4 x0 h = some r) : cs l 1 yJ6_bitCount_0f7a4 cJ6_bitCount_0f7a4 1 (some .int) [.int x0] h (some (.int r.1)) r.2 := by
  unfold f_J6_bitCount_0f7a4 at hf
  refine mt_of (lv := [(0, .int x0)]) (by decide +kernel) (Nat.le_of_ble_eq_true rfl) rfl (fun p e s m args below meth c G X => ?_)
  refine wk_iload_n X dJ6_bitCount_0f7a4_0 0 rfl ?_
  refine wk_iload_n X dJ6_bitCount_0f7a4_1 0 rfl ?_
  refine wk_iconst X dJ6_bitCount_0f7a4_2 ic_1 ?_
  refine wk_iushr X dJ6_bitCount_0f7a4_3 ?_
  refine wk_ldcw X dJ6_bitCount_0f7a4_4 mt_J6_265 ?_
  refine wk_iand X dJ6_bitCount_0f7a4_7 ?_
  refine wk_isub X dJ6_bitCount_0f7a4_8 ?_
  refine wk_istore_n (lv' := [(0, .int (x0 - ((hp_ushr x0 1) &&& 1431655765)))]) X dJ6_bitCount_0f7a4_9 (by decide) rfl ?_
  refine wk_iload_n X dJ6_bitCount_0f7a4_10 0 rfl ?_
  refine wk_ldcw X dJ6_bitCount_0f7a4_11 mt_J6_266 ?_
  refine wk_iand X dJ6_bitCount_0f7a4_14 ?_
  refine wk_iload_n X dJ6_bitCount_0f7a4_15 0 rfl ?_
  refine wk_iconst X dJ6_bitCount_0f7a4_16 ic_2 ?_
  refine wk_iushr X dJ6_bitCount_0f7a4_17 ?_
  refine wk_ldcw X dJ6_bitCount_0f7a4_18 mt_J6_266 ?_
  refine wk_iand X dJ6_bitCount_0f7a4_21 ?_
  refine wk_iadd X dJ6_bitCount_0f7a4_22 ?_
  refine wk_istore_n (lv' := [(0, .int (((x0 - ((hp_ushr x0 1) &&& 1431655765)) &&& 858993459) + ((hp_ushr (x0 - ((hp_ushr x0 1) &&& 1431655765)) 2) &&& 858993459)))]) X dJ6_bitCount_0f7a4_23 (by decide) rfl ?_
  refine wk_iload_n X dJ6_bitCount_0f7a4_24 0 rfl ?_
  refine wk_iload_n X dJ6_bitCount_0f7a4_25 0 rfl ?_
  refine wk_iconst X dJ6_bitCount_0f7a4_26 ic_4 ?_
  refine wk_iushr X dJ6_bitCount_0f7a4_27 ?_
  refine wk_iadd X dJ6_bitCount_0f7a4_28 ?_
  refine wk_ldcw X dJ6_bitCount_0f7a4_29 mt_J6_267 ?_
  refine wk_iand X dJ6_bitCount_0f7a4_32 ?_
  refine wk_istore_n (lv' := [(0, .int (((((x0 - ((hp_ushr x0 1) &&& 1431655765)) &&& 858993459) + ((hp_ushr (x0 - ((hp_ushr x0 1) &&& 1431655765)) 2) &&& 858993459)) + (hp_ushr (((x0 - ((hp_ushr x0 1) &&& 1431655765)) &&& 858993459) + ((hp_ushr (x0 - ((hp_ushr x0 1) &&& 1431655765)) 2) &&& 858993459)) 4)) &&& 252645135))]) X dJ6_bitCount_0f7a4_33 (by decide) rfl ?_
  refine wk_iload_n X dJ6_bitCount_0f7a4_34 0 rfl ?_
  refine wk_iload_n X dJ6_bitCount_0f7a4_35 0 rfl ?_
  refine wk_bipush X dJ6_bitCount_0f7a4_36 ib_8 ?_
  refine wk_iushr X dJ6_bitCount_0f7a4_38 ?_
  refine wk_iadd X dJ6_bitCount_0f7a4_39 ?_
  refine wk_istore_n (lv' := [(0, .int ((((((x0 - ((hp_ushr x0 1) &&& 1431655765)) &&& 858993459) + ((hp_ushr (x0 - ((hp_ushr x0 1) &&& 1431655765)) 2) &&& 858993459)) + (hp_ushr (((x0 - ((hp_ushr x0 1) &&& 1431655765)) &&& 858993459) + ((hp_ushr (x0 - ((hp_ushr x0 1) &&& 1431655765)) 2) &&& 858993459)) 4)) &&& 252645135) + (hp_ushr (((((x0 - ((hp_ushr x0 1) &&& 1431655765)) &&& 858993459) + ((hp_ushr (x0 - ((hp_ushr x0 1) &&& 1431655765)) 2) &&& 858993459)) + (hp_ushr (((x0 - ((hp_ushr x0 1) &&& 1431655765)) &&& 858993459) + ((hp_ushr (x0 - ((hp_ushr x0 1) &&& 1431655765)) 2) &&& 858993459)) 4)) &&& 252645135) 8)))]) X dJ6_bitCount_0f7a4_40 (by decide) rfl ?_
  refine wk_iload_n X dJ6_bitCount_0f7a4_41 0 rfl ?_
  refine wk_iload_n X dJ6_bitCount_0f7a4_42 0 rfl ?_
  refine wk_bipush X dJ6_bitCount_0f7a4_43 ib_16 ?_
  refine wk_iushr X dJ6_bitCount_0f7a4_45 ?_
  refine wk_iadd X dJ6_bitCount_0f7a4_46 ?_
  refine wk_istore_n (lv' := [(0, .int (((((((x0 - ((hp_ushr x0 1) &&& 1431655765)) &&& 858993459) + ((hp_ushr (x0 - ((hp_ushr x0 1) &&& 1431655765)) 2) &&& 858993459)) + (hp_ushr (((x0 - ((hp_ushr x0 1) &&& 1431655765)) &&& 858993459) + ((hp_ushr (x0 - ((hp_ushr x0 1) &&& 1431655765)) 2) &&& 858993459)) 4)) &&& 252645135) + (hp_ushr (((((x0 - ((hp_ushr x0 1) &&& 1431655765)) &&& 858993459) + ((hp_ushr (x0 - ((hp_ushr x0 1) &&& 1431655765)) 2) &&& 858993459)) + (hp_ushr (((x0 - ((hp_ushr x0 1) &&& 1431655765)) &&& 858993459) + ((hp_ushr (x0 - ((hp_ushr x0 1) &&& 1431655765)) 2) &&& 858993459)) 4)) &&& 252645135) 8)) + (hp_ushr ((((((x0 - ((hp_ushr x0 1) &&& 1431655765)) &&& 858993459) + ((hp_ushr (x0 - ((hp_ushr x0 1) &&& 1431655765)) 2) &&& 858993459)) + (hp_ushr (((x0 - ((hp_ushr x0 1) &&& 1431655765)) &&& 858993459) + ((hp_ushr (x0 - ((hp_ushr x0 1) &&& 1431655765)) 2) &&& 858993459)) 4)) &&& 252645135) + (hp_ushr (((((x0 - ((hp_ushr x0 1) &&& 1431655765)) &&& 858993459) + ((hp_ushr (x0 - ((hp_ushr x0 1) &&& 1431655765)) 2) &&& 858993459)) + (hp_ushr (((x0 - ((hp_ushr x0 1) &&& 1431655765)) &&& 858993459) + ((hp_ushr (x0 - ((hp_ushr x0 1) &&& 1431655765)) 2) &&& 858993459)) 4)) &&& 252645135) 8)) 16)))]) X dJ6_bitCount_0f7a4_47 (by decide) rfl ?_
  refine wk_iload_n X dJ6_bitCount_0f7a4_48 0 rfl ?_
  refine wk_bipush X dJ6_bitCount_0f7a4_49 ib_63 ?_
  refine wk_iand X dJ6_bitCount_0f7a4_51 ?_
  exact wk_ireturn X dJ6_bitCount_0f7a4_52 hf
section S_X10_holds
variable {p : Program} {l : Launch} {e : Env} {s : State} {m : MethodId} {args : Array Value} {below : List Frame} {meth : Method} {c : Code} {G : hp_G} {o : Int32 × hp_H}
def f_X10_holds_13 (t0 : Int32) (h : hp_H) : Option (Int32 × hp_H) := if t0 = 0 ∨ t0 = 1 then some (t0, h) else none
set_option maxRecDepth 20000 in
theorem w_X10_holds_13 (X : wx G p s m args meth c cX10_holds 2 RX10 (some .boolean)) (t0 : Int32) (h : hp_H) (hf : f_X10_holds_13 t0 h = some o) : wq p l e (mt_R 1 0 0) s m args below meth c (MQ below (mt_Q G (some (.int o.1)) o.2) args s 0 0 (hp_A G)) G 2 0 0 13 [] [.int t0] h := by
  unfold f_X10_holds_13 at hf
  exact wk_zreturn X dX10_holds_13 hf
end S_X10_holds
def f_X10_holds (x0 : Int32) (x1 : Int32) (h : hp_H) : Option (Int32 × hp_H) := if ((x0 >>> (x1 &&& 31)) &&& 1) = 0 then (f_X10_holds_13 0 h) else (f_X10_holds_13 1 h)
set_option maxRecDepth 20000 in
theorem c_X10_holds (l : Launch) (x0 : Int32) (x1 : Int32) (h : hp_H) (r : Int32 × hp_H) (hf : f_X10_holds x0 x1 h = some r) : cs l 1 yX10_holds cX10_holds 2 (some .boolean) [.int x0, .int x1] h (some (.int r.1)) r.2 := by
  unfold f_X10_holds at hf
  refine mt_of (lv := [(0, .int x0), (1, .int x1)]) (by decide +kernel) (Nat.le_of_ble_eq_true rfl) rfl (fun p e s m args below meth c G X => ?_)
  refine wk_iload_n X dX10_holds_0 0 rfl ?_
  refine wk_iload_n X dX10_holds_1 1 rfl ?_
  refine wk_ishr X dX10_holds_2 ?_
  refine wk_iconst X dX10_holds_3 ic_1 ?_
  refine wk_iand X dX10_holds_4 ?_
  refine wk_if_eq X 12 dX10_holds_5 (by decide) hf (fun hf => ?_) (fun hf => ?_)
  · refine wk_iconst X dX10_holds_12 ic_0 ?_
    exact wq_sub [] rfl (w_X10_holds_13 X _ _ hf)
  · refine wk_iconst X dX10_holds_8 ic_1 ?_
    refine wk_goto X 13 dX10_holds_9 (by decide) ?_
    exact wq_sub [] rfl (w_X10_holds_13 X _ _ hf)
section S_X6_add
variable {p : Program} {l : Launch} {e : Env} {s : State} {m : MethodId} {args : Array Value} {below : List Frame} {meth : Method} {c : Code} {G : hp_G} {o : hp_H}
end S_X6_add
def f_X6_add (x0 : Nat) (x1 : Int32) (h : hp_H) : Option (hp_H) := gd h x0 6 ((rd_R h x0 6 1).bind fun v1 => (rd_I h x0 6 3).bind fun v2 => (f_X2_set v1 v2 x1 h).bind fun r3 => (rd_I r3 x0 6 3).bind fun v4 => (wr_I r3 x0 6 3 (v4 + 1)).bind fun h5 => some h5)
set_option maxRecDepth 20000 in
theorem c_X6_add (l : Launch) (x0 : Nat) (x1 : Int32) (h : hp_H) (r : hp_H) (hf : f_X6_add x0 x1 h = some r) : cv l 2 yX6_add cX6_add 2 none 6 x0 [.int x1] h none r := by
  unfold f_X6_add at hf
  refine cv_of (lv := [(0, .ref x0), (1, .int x1)]) hf (by decide +kernel) (Nat.le_of_ble_eq_true rfl) rfl (fun hf p e s m args below meth c G X => ?_)
  refine wk_aload_n X dX6_add_0 0 rfl ?_
  refine wk_getR X dX6_add_1 fo_X6_20 hf (fun v1 hf => ?_)
  refine wk_aload_n X dX6_add_4 0 rfl ?_
  refine wk_getI X dX6_add_5 fo_X6_26 hf (fun v2 hf => ?_)
  refine wk_iload_n X dX6_add_8 1 rfl ?_
  refine wk_callVv X [.int v2, .int x1] [] dX6_add_9 rfl vo_X6_30 rfl (by decide) (Nat.le_of_ble_eq_true rfl) hf (c_X2_set l _ _ _ _) (fun r3 hf => ?_)
  refine wk_aload_n X dX6_add_12 0 rfl ?_
  refine wk_dup X dX6_add_13 rfl ?_
  refine wk_getI X dX6_add_14 fo_X6_26 hf (fun v4 hf => ?_)
  refine wk_iconst X dX6_add_17 ic_1 ?_
  refine wk_iadd X dX6_add_18 ?_
  refine wk_putI X dX6_add_19 fo_X6_26 hf (fun h5 hf => ?_)
  exact wk_return X dX6_add_22 hf
