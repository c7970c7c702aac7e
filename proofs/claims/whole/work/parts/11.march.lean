section Sf_X3_goBack
variable {p : Program} {l : Launch} {e : Env} {s : State} {m : MethodId} {args : Array Value} {below : List Frame} {meth : Method} {c : Code} {G : hp_G} {o : hp_H}
def f_X3_goBack_74 (x0 : Nat) (h : hp_H) : Option (hp_H) := (rd_I h x0 3 1).bind fun v1 => (wr_I h x0 3 1 (v1 - 1)).bind fun h2 => some h2
set_option maxRecDepth 20000 in
theorem w_X3_goBack_74 (X : wx G p s m args meth c cX3_goBack 3 RX3 none) (x0 : Nat) (h : hp_H) (hf : f_X3_goBack_74 x0 h = some o) : wq p l e (mt_R (2) 0 0) s m args below meth c (MQ below (mt_Q G none o) args s 0 0 (hp_A G)) G 3 0 0 74 [(0, .ref x0)] [] h := by
  unfold f_X3_goBack_74 at hf
  refine wk_aload_n X dX3_goBack_74 0 rfl ?_
  refine wk_dup X dX3_goBack_75 rfl ?_
  refine wk_getI X dX3_goBack_76 fo_X3_9 hf (fun v1 hf => ?_)
  refine wk_iconst X dX3_goBack_79 ic_1 ?_
  refine wk_isub X dX3_goBack_80 ?_
  refine wk_putI X dX3_goBack_81 fo_X3_9 hf (fun h2 hf => ?_)
  exact wk_return X dX3_goBack_84 hf
def f_X3_goBack_55 (x0 : Nat) (x1 : Int32) (h : hp_H) : Option (hp_H) := (rd_R h x0 3 0).bind fun v1 => (rd_I h v1 1 2).bind fun v2 => if v2 ≤ 0 then (f_X3_goBack_74 x0 h) else ((rd_R h x0 3 5).bind fun v3 => (f_X2_set v3 0 x1 h).bind fun r4 => f_X3_goBack_74 x0 r4)
set_option maxRecDepth 20000 in
theorem w_X3_goBack_55 (X : wx G p s m args meth c cX3_goBack 3 RX3 none) (x0 : Nat) (x1 : Int32) (h : hp_H) (hf : f_X3_goBack_55 x0 x1 h = some o) : wq p l e (mt_R (2) 0 0) s m args below meth c (MQ below (mt_Q G none o) args s 0 0 (hp_A G)) G 3 0 0 55 [(0, .ref x0), (1, .int x1)] [] h := by
  unfold f_X3_goBack_55 at hf
  refine wk_aload_n X dX3_goBack_55 0 rfl ?_
  refine wk_getR X dX3_goBack_56 fo_X3_33 hf (fun v1 hf => ?_)
  refine wk_getI X dX3_goBack_59 fo_X3_50 hf (fun v2 hf => ?_)
  refine wk_if_le X 74 dX3_goBack_62 (by decide) hf (fun hf => ?_) (fun hf => ?_)
  · exact wq_sub [0] rfl (w_X3_goBack_74 X _ _ hf)
  · refine wk_aload_n X dX3_goBack_65 0 rfl ?_
    refine wk_getR X dX3_goBack_66 fo_X3_30 hf (fun v3 hf => ?_)
    refine wk_iconst X dX3_goBack_69 ic_0 ?_
    refine wk_iload_n X dX3_goBack_70 1 rfl ?_
    refine wk_callVv X [.int 0, .int x1] [] dX3_goBack_71 rfl vo_X3_122 rfl (by decide) (Nat.le_of_ble_eq_true rfl) hf (c_X2_set l _ _ _ _) (fun r4 hf => ?_)
    exact wq_sub [0] rfl (w_X3_goBack_74 X _ _ hf)
def f_X3_goBack_27 (k27 : Nat → Int32 → Int32 → hp_H → Option (hp_H)) (x0 : Nat) (x1 : Int32) (x2 : Int32) (h : hp_H) : Option (hp_H) := if x2 ≤ 0 then (f_X3_goBack_55 x0 x1 h) else ((rd_R h x0 3 5).bind fun v1 => (rd_R h x0 3 5).bind fun v2 => (f_X2_at v2 (x2 - 1) h).bind fun r3 => (f_X2_set v1 x2 r3.1 r3.2).bind fun r4 => k27 x0 x1 (x2 + (-1)) r4)
set_option maxRecDepth 20000 in
theorem w_X3_goBack_27 (X : wx G p s m args meth c cX3_goBack 3 RX3 none) (k27 : Nat → Int32 → Int32 → hp_H → Option (hp_H)) (hk27 : ∀ (x0 : Nat) (x1 : Int32) (x2 : Int32) (h : hp_H), k27 x0 x1 x2 h = some o → wq p l e (mt_R (2) 0 0) s m args below meth c (MQ below (mt_Q G none o) args s 0 0 (hp_A G)) G 3 0 0 27 [(0, .ref x0), (1, .int x1), (2, .int x2)] [] h) (x0 : Nat) (x1 : Int32) (x2 : Int32) (h : hp_H) (hf : f_X3_goBack_27 k27 x0 x1 x2 h = some o) : wq p l e (mt_R (2) 0 0) s m args below meth c (MQ below (mt_Q G none o) args s 0 0 (hp_A G)) G 3 0 0 27 [(0, .ref x0), (1, .int x1), (2, .int x2)] [] h := by
  unfold f_X3_goBack_27 at hf
  refine wk_iload_n X dX3_goBack_27 2 rfl ?_
  refine wk_if_le X 55 dX3_goBack_28 (by decide) hf (fun hf => ?_) (fun hf => ?_)
  · exact wq_sub [0, 1] rfl (w_X3_goBack_55 X _ _ _ hf)
  · refine wk_aload_n X dX3_goBack_31 0 rfl ?_
    refine wk_getR X dX3_goBack_32 fo_X3_30 hf (fun v1 hf => ?_)
    refine wk_iload_n X dX3_goBack_35 2 rfl ?_
    refine wk_aload_n X dX3_goBack_36 0 rfl ?_
    refine wk_getR X dX3_goBack_37 fo_X3_30 hf (fun v2 hf => ?_)
    refine wk_iload_n X dX3_goBack_40 2 rfl ?_
    refine wk_iconst X dX3_goBack_41 ic_1 ?_
    refine wk_isub X dX3_goBack_42 ?_
    refine wk_callVi X [.int (x2 - 1)] [.int x2, .ref v1] dX3_goBack_43 rfl vo_X3_52 rfl (by decide) (Nat.le_of_ble_eq_true rfl) hf (c_X2_at l _ _ _) (fun r3 hf => ?_)
    refine wk_callVv X [.int x2, .int r3.1] [] dX3_goBack_46 rfl vo_X3_122 rfl (by decide) (Nat.le_of_ble_eq_true rfl) hf (c_X2_set l _ _ _ _) (fun r4 hf => ?_)
    refine wk_iinc (lv' := [(2, .int (x2 + (-1))), (0, .ref x0), (1, .int x1)]) X dX3_goBack_49 2 rfl ic_m1 (by decide) rfl ?_
    refine wk_goto X 27 dX3_goBack_52 (by decide) ?_
    exact wq_sub [1, 2, 0] rfl (hk27 _ _ _ _ hf)
def l_X3_goBack_27 (x0 : Nat) (x1 : Int32) (x2 : Int32) (h : hp_H) : Option (hp_H) := lp (fun k (s : Nat × Int32 × Int32 × hp_H) => f_X3_goBack_27  (fun a0 a1 a2 a3 => k (a0, a1, a2, a3)) s.1 s.2.1 s.2.2.1 s.2.2.2) 100000 (x0, x1, x2, h)
theorem wl_X3_goBack_27 (X : wx G p s m args meth c cX3_goBack 3 RX3 none) (x0 : Nat) (x1 : Int32) (x2 : Int32) (h : hp_H) (hf : l_X3_goBack_27 x0 x1 x2 h = some o) : wq p l e (mt_R (2) 0 0) s m args below meth c (MQ below (mt_Q G none o) args s 0 0 (hp_A G)) G 3 0 0 27 [(0, .ref x0), (1, .int x1), (2, .int x2)] [] h :=
  lp_ind (P := fun (s_ : Nat × Int32 × Int32 × hp_H) => wq p l e (mt_R (2) 0 0) s m args below meth c (MQ below (mt_Q G none o) args s 0 0 (hp_A G)) G 3 0 0 27 [(0, .ref s_.1), (1, .int s_.2.1), (2, .int s_.2.2.1)] [] s_.2.2.2) (fun k s hk hf => w_X3_goBack_27 X  (fun a0 a1 a2 a3 => k (a0, a1, a2, a3)) (fun a0 a1 a2 a3 hf => hk (a0, a1, a2, a3) hf) s.1 s.2.1 s.2.2.1 s.2.2.2 hf) 100000 (x0, x1, x2, h) hf
end Sf_X3_goBack
def f_X3_goBack (x0 : Nat) (h : hp_H) : Option (hp_H) := gd h x0 3 ((rd_R h x0 3 5).bind fun v1 => (rd_R h x0 3 0).bind fun v2 => (rd_I h v2 1 2).bind fun v3 => (f_X2_at v1 (v3 - 1) h).bind fun r4 => (rd_R r4.2 x0 3 0).bind fun v5 => (rd_I r4.2 v5 1 2).bind fun v6 => l_X3_goBack_27 x0 r4.1 (v6 - 1) r4.2)
set_option maxRecDepth 20000 in
theorem c_X3_goBack (l : Launch) (x0 : Nat) (h : hp_H) (r : hp_H) (hf : f_X3_goBack x0 h = some r) : cv l (2) yX3_goBack cX3_goBack 3 none 3 x0 [] h none r := by
  unfold f_X3_goBack at hf
  refine cv_of (lv := [(0, .ref x0)]) hf (by decide +kernel) (Nat.le_of_ble_eq_true rfl) rfl (fun hf p e s m args below meth c G X => ?_)
  refine wk_aload_n X dX3_goBack_0 0 rfl ?_
  refine wk_getR X dX3_goBack_1 fo_X3_30 hf (fun v1 hf => ?_)
  refine wk_aload_n X dX3_goBack_4 0 rfl ?_
  refine wk_getR X dX3_goBack_5 fo_X3_33 hf (fun v2 hf => ?_)
  refine wk_getI X dX3_goBack_8 fo_X3_50 hf (fun v3 hf => ?_)
  refine wk_iconst X dX3_goBack_11 ic_1 ?_
  refine wk_isub X dX3_goBack_12 ?_
  refine wk_callVi X [.int (v3 - 1)] [] dX3_goBack_13 rfl vo_X3_52 rfl (by decide) (Nat.le_of_ble_eq_true rfl) hf (c_X2_at l _ _ _) (fun r4 hf => ?_)
  refine wk_istore_n (lv' := [(1, .int r4.1), (0, .ref x0)]) X dX3_goBack_16 (by decide) rfl ?_
  refine wk_aload_n X dX3_goBack_17 1 rfl ?_
  refine wk_getR X dX3_goBack_18 fo_X3_33 hf (fun v5 hf => ?_)
  refine wk_getI X dX3_goBack_21 fo_X3_50 hf (fun v6 hf => ?_)
  refine wk_iconst X dX3_goBack_24 ic_1 ?_
  refine wk_isub X dX3_goBack_25 ?_
  refine wk_istore_n (lv' := [(2, .int (v6 - 1)), (1, .int r4.1), (0, .ref x0)]) X dX3_goBack_26 (by decide) rfl ?_
  exact wq_sub [2, 1, 0] rfl (wl_X3_goBack_27 X _ _ _ _ hf)
section Sf_X3_turnHeel
variable {p : Program} {l : Launch} {e : Env} {s : State} {m : MethodId} {args : Array Value} {below : List Frame} {meth : Method} {c : Code} {G : hp_G} {o : hp_H}
end Sf_X3_turnHeel
def f_X3_turnHeel (x0 : Nat) (x1 : Int32) (x2 : Int32) (h : hp_H) : Option (hp_H) := gd h x0 3 ((rd_R h x0 3 2).bind fun v1 => (rd_R h x0 3 2).bind fun v2 => (f_X2_at v2 x1 h).bind fun r3 => (f_X2_set v1 x1 (r3.1 ^^^ (1 <<< (x2 &&& 31))) r3.2).bind fun r4 => some r4)
set_option maxRecDepth 20000 in
theorem c_X3_turnHeel (l : Launch) (x0 : Nat) (x1 : Int32) (x2 : Int32) (h : hp_H) (r : hp_H) (hf : f_X3_turnHeel x0 x1 x2 h = some r) : cv l (2) yX3_turnHeel cX3_turnHeel 3 none 3 x0 [.int x1, .int x2] h none r := by
  unfold f_X3_turnHeel at hf
  refine cv_of (lv := [(0, .ref x0), (1, .int x1), (2, .int x2)]) hf (by decide +kernel) (Nat.le_of_ble_eq_true rfl) rfl (fun hf p e s m args below meth c G X => ?_)
  refine wk_aload_n X dX3_turnHeel_0 0 rfl ?_
  refine wk_getR X dX3_turnHeel_1 fo_X3_20 hf (fun v1 hf => ?_)
  refine wk_iload_n X dX3_turnHeel_4 1 rfl ?_
  refine wk_aload_n X dX3_turnHeel_5 0 rfl ?_
  refine wk_getR X dX3_turnHeel_6 fo_X3_20 hf (fun v2 hf => ?_)
  refine wk_iload_n X dX3_turnHeel_9 1 rfl ?_
  refine wk_callVi X [.int x1] [.int x1, .ref v1] dX3_turnHeel_10 rfl vo_X3_52 rfl (by decide) (Nat.le_of_ble_eq_true rfl) hf (c_X2_at l _ _ _) (fun r3 hf => ?_)
  refine wk_iconst X dX3_turnHeel_13 ic_1 ?_
  refine wk_iload_n X dX3_turnHeel_14 2 rfl ?_
  refine wk_ishl X dX3_turnHeel_15 ?_
  refine wk_ixor X dX3_turnHeel_16 ?_
  refine wk_callVv X [.int x1, .int (r3.1 ^^^ (1 <<< (x2 &&& 31)))] [] dX3_turnHeel_17 rfl vo_X3_122 rfl (by decide) (Nat.le_of_ble_eq_true rfl) hf (c_X2_set l _ _ _ _) (fun r4 hf => ?_)
  exact wk_return X dX3_turnHeel_20 hf
section Sf_X3_exchange
variable {p : Program} {l : Launch} {e : Env} {s : State} {m : MethodId} {args : Array Value} {below : List Frame} {meth : Method} {c : Code} {G : hp_G} {o : hp_H}
end Sf_X3_exchange
def f_X3_exchange (x0 : Nat) (x1 : Int32) (x2 : Int32) (h : hp_H) : Option (hp_H) := gd h x0 3 ((rd_R h x0 3 5).bind fun v1 => (f_X2_at v1 x1 h).bind fun r2 => (rd_R r2.2 x0 3 5).bind fun v3 => (rd_R r2.2 x0 3 5).bind fun v4 => (f_X2_at v4 x2 r2.2).bind fun r5 => (f_X2_set v3 x1 r5.1 r5.2).bind fun r6 => (rd_R r6 x0 3 5).bind fun v7 => (f_X2_set v7 x2 r2.1 r6).bind fun r8 => some r8)
set_option maxRecDepth 20000 in
theorem c_X3_exchange (l : Launch) (x0 : Nat) (x1 : Int32) (x2 : Int32) (h : hp_H) (r : hp_H) (hf : f_X3_exchange x0 x1 x2 h = some r) : cv l (2) yX3_exchange cX3_exchange 4 none 3 x0 [.int x1, .int x2] h none r := by
  unfold f_X3_exchange at hf
  refine cv_of (lv := [(0, .ref x0), (1, .int x1), (2, .int x2)]) hf (by decide +kernel) (Nat.le_of_ble_eq_true rfl) rfl (fun hf p e s m args below meth c G X => ?_)
  refine wk_aload_n X dX3_exchange_0 0 rfl ?_
  refine wk_getR X dX3_exchange_1 fo_X3_30 hf (fun v1 hf => ?_)
  refine wk_iload_n X dX3_exchange_4 1 rfl ?_
  refine wk_callVi X [.int x1] [] dX3_exchange_5 rfl vo_X3_52 rfl (by decide) (Nat.le_of_ble_eq_true rfl) hf (c_X2_at l _ _ _) (fun r2 hf => ?_)
  refine wk_istore_n (lv' := [(3, .int r2.1), (0, .ref x0), (1, .int x1), (2, .int x2)]) X dX3_exchange_8 (by decide) rfl ?_
  refine wk_aload_n X dX3_exchange_9 1 rfl ?_
  refine wk_getR X dX3_exchange_10 fo_X3_30 hf (fun v3 hf => ?_)
  refine wk_iload_n X dX3_exchange_13 2 rfl ?_
  refine wk_aload_n X dX3_exchange_14 1 rfl ?_
  refine wk_getR X dX3_exchange_15 fo_X3_30 hf (fun v4 hf => ?_)
  refine wk_iload_n X dX3_exchange_18 3 rfl ?_
  refine wk_callVi X [.int x2] [.int x1, .ref v3] dX3_exchange_19 rfl vo_X3_52 rfl (by decide) (Nat.le_of_ble_eq_true rfl) hf (c_X2_at l _ _ _) (fun r5 hf => ?_)
  refine wk_callVv X [.int x1, .int r5.1] [] dX3_exchange_22 rfl vo_X3_122 rfl (by decide) (Nat.le_of_ble_eq_true rfl) hf (c_X2_set l _ _ _ _) (fun r6 hf => ?_)
  refine wk_aload_n X dX3_exchange_25 1 rfl ?_
  refine wk_getR X dX3_exchange_26 fo_X3_30 hf (fun v7 hf => ?_)
  refine wk_iload_n X dX3_exchange_29 3 rfl ?_
  refine wk_iload_n X dX3_exchange_30 0 rfl ?_
  refine wk_callVv X [.int x2, .int r2.1] [] dX3_exchange_31 rfl vo_X3_122 rfl (by decide) (Nat.le_of_ble_eq_true rfl) hf (c_X2_set l _ _ _ _) (fun r8 hf => ?_)
  exact wk_return X dX3_exchange_34 hf
section Sf_X3_place
variable {p : Program} {l : Launch} {e : Env} {s : State} {m : MethodId} {args : Array Value} {below : List Frame} {meth : Method} {c : Code} {G : hp_G} {o : hp_H}
def f_X3_place_66  (h : hp_H) : Option (hp_H) := some h
set_option maxRecDepth 20000 in
theorem w_X3_place_66 (X : wx G p s m args meth c cX3_place 4 RX3 none)  (h : hp_H) (hf : f_X3_place_66 h = some o) : wq p l e (mt_R (2) 0 0) s m args below meth c (MQ below (mt_Q G none o) args s 0 0 (hp_A G)) G 4 0 0 66 [] [] h := by
  unfold f_X3_place_66 at hf
  exact wk_return X dX3_place_66 hf
def f_X3_place_41 (x0 : Nat) (x1 : Int32) (x2 : Int32) (h : hp_H) : Option (hp_H) := if x2 = (-1) then (f_X3_place_66 h) else ((rd_R h x0 3 5).bind fun v1 => (rd_R h x0 3 5).bind fun v2 => (f_X2_at v2 x2 h).bind fun r3 => (f_X2_set v1 x2 (r3.1 ||| (1 <<< (x1 &&& 31))) r3.2).bind fun r4 => f_X3_place_66 r4)
set_option maxRecDepth 20000 in
theorem w_X3_place_41 (X : wx G p s m args meth c cX3_place 4 RX3 none) (x0 : Nat) (x1 : Int32) (x2 : Int32) (h : hp_H) (hf : f_X3_place_41 x0 x1 x2 h = some o) : wq p l e (mt_R (2) 0 0) s m args below meth c (MQ below (mt_Q G none o) args s 0 0 (hp_A G)) G 4 0 0 41 [(0, .ref x0), (1, .int x1), (2, .int x2)] [] h := by
  unfold f_X3_place_41 at hf
  refine wk_iload_n X dX3_place_41 2 rfl ?_
  refine wk_iconst X dX3_place_42 ic_m1 ?_
  refine wk_icmp_eq X 66 dX3_place_43 (by decide) hf (fun hf => ?_) (fun hf => ?_)
  · exact wq_sub [] rfl (w_X3_place_66 X _ hf)
  · refine wk_aload_n X dX3_place_46 0 rfl ?_
    refine wk_getR X dX3_place_47 fo_X3_30 hf (fun v1 hf => ?_)
    refine wk_iload_n X dX3_place_50 2 rfl ?_
    refine wk_aload_n X dX3_place_51 0 rfl ?_
    refine wk_getR X dX3_place_52 fo_X3_30 hf (fun v2 hf => ?_)
    refine wk_iload_n X dX3_place_55 2 rfl ?_
    refine wk_callVi X [.int x2] [.int x2, .ref v1] dX3_place_56 rfl vo_X3_52 rfl (by decide) (Nat.le_of_ble_eq_true rfl) hf (c_X2_at l _ _ _) (fun r3 hf => ?_)
    refine wk_iconst X dX3_place_59 ic_1 ?_
    refine wk_iload_n X dX3_place_60 1 rfl ?_
    refine wk_ishl X dX3_place_61 ?_
    refine wk_ior X dX3_place_62 ?_
    refine wk_callVv X [.int x2, .int (r3.1 ||| (1 <<< (x1 &&& 31)))] [] dX3_place_63 rfl vo_X3_122 rfl (by decide) (Nat.le_of_ble_eq_true rfl) hf (c_X2_set l _ _ _ _) (fun r4 hf => ?_)
    exact wq_sub [] rfl (w_X3_place_66 X _ hf)
def f_X3_place_2 (k2 : Nat → Int32 → Int32 → Int32 → hp_H → Option (hp_H)) (x0 : Nat) (x1 : Int32) (x2 : Int32) (x3 : Int32) (h : hp_H) : Option (hp_H) := (rd_R h x0 3 0).bind fun v1 => (rd_I h v1 1 2).bind fun v2 => if v2 ≤ x3 then (f_X3_place_41 x0 x1 x2 h) else ((rd_R h x0 3 5).bind fun v3 => (rd_R h x0 3 5).bind fun v4 => (f_X2_at v4 x3 h).bind fun r5 => (f_X2_set v3 x3 (r5.1 &&& ((1 <<< (x1 &&& 31)) ^^^ ((-1) : Int32))) r5.2).bind fun r6 => k2 x0 x1 x2 (x3 + 1) r6)
set_option maxRecDepth 20000 in
theorem w_X3_place_2 (X : wx G p s m args meth c cX3_place 4 RX3 none) (k2 : Nat → Int32 → Int32 → Int32 → hp_H → Option (hp_H)) (hk2 : ∀ (x0 : Nat) (x1 : Int32) (x2 : Int32) (x3 : Int32) (h : hp_H), k2 x0 x1 x2 x3 h = some o → wq p l e (mt_R (2) 0 0) s m args below meth c (MQ below (mt_Q G none o) args s 0 0 (hp_A G)) G 4 0 0 2 [(0, .ref x0), (1, .int x1), (2, .int x2), (3, .int x3)] [] h) (x0 : Nat) (x1 : Int32) (x2 : Int32) (x3 : Int32) (h : hp_H) (hf : f_X3_place_2 k2 x0 x1 x2 x3 h = some o) : wq p l e (mt_R (2) 0 0) s m args below meth c (MQ below (mt_Q G none o) args s 0 0 (hp_A G)) G 4 0 0 2 [(0, .ref x0), (1, .int x1), (2, .int x2), (3, .int x3)] [] h := by
  unfold f_X3_place_2 at hf
  refine wk_iload_n X dX3_place_2 3 rfl ?_
  refine wk_aload_n X dX3_place_3 0 rfl ?_
  refine wk_getR X dX3_place_4 fo_X3_33 hf (fun v1 hf => ?_)
  refine wk_getI X dX3_place_7 fo_X3_50 hf (fun v2 hf => ?_)
  refine wk_icmp_ge X 41 dX3_place_10 (by decide) hf (fun hf => ?_) (fun hf => ?_)
  · exact wq_sub [0, 1, 2] rfl (w_X3_place_41 X _ _ _ _ hf)
  · refine wk_aload_n X dX3_place_13 0 rfl ?_
    refine wk_getR X dX3_place_14 fo_X3_30 hf (fun v3 hf => ?_)
    refine wk_iload_n X dX3_place_17 3 rfl ?_
    refine wk_aload_n X dX3_place_18 0 rfl ?_
    refine wk_getR X dX3_place_19 fo_X3_30 hf (fun v4 hf => ?_)
    refine wk_iload_n X dX3_place_22 3 rfl ?_
    refine wk_callVi X [.int x3] [.int x3, .ref v3] dX3_place_23 rfl vo_X3_52 rfl (by decide) (Nat.le_of_ble_eq_true rfl) hf (c_X2_at l _ _ _) (fun r5 hf => ?_)
    refine wk_iconst X dX3_place_26 ic_1 ?_
    refine wk_iload_n X dX3_place_27 1 rfl ?_
    refine wk_ishl X dX3_place_28 ?_
    refine wk_iconst X dX3_place_29 ic_m1 ?_
    refine wk_ixor X dX3_place_30 ?_
    refine wk_iand X dX3_place_31 ?_
    refine wk_callVv X [.int x3, .int (r5.1 &&& ((1 <<< (x1 &&& 31)) ^^^ ((-1) : Int32)))] [] dX3_place_32 rfl vo_X3_122 rfl (by decide) (Nat.le_of_ble_eq_true rfl) hf (c_X2_set l _ _ _ _) (fun r6 hf => ?_)
    refine wk_iinc (lv' := [(3, .int (x3 + 1)), (0, .ref x0), (1, .int x1), (2, .int x2)]) X dX3_place_35 3 rfl ic_1 (by decide) rfl ?_
    refine wk_goto X 2 dX3_place_38 (by decide) ?_
    exact wq_sub [1, 2, 3, 0] rfl (hk2 _ _ _ _ _ hf)
def l_X3_place_2 (x0 : Nat) (x1 : Int32) (x2 : Int32) (x3 : Int32) (h : hp_H) : Option (hp_H) := lp (fun k (s : Nat × Int32 × Int32 × Int32 × hp_H) => f_X3_place_2  (fun a0 a1 a2 a3 a4 => k (a0, a1, a2, a3, a4)) s.1 s.2.1 s.2.2.1 s.2.2.2.1 s.2.2.2.2) 100000 (x0, x1, x2, x3, h)
theorem wl_X3_place_2 (X : wx G p s m args meth c cX3_place 4 RX3 none) (x0 : Nat) (x1 : Int32) (x2 : Int32) (x3 : Int32) (h : hp_H) (hf : l_X3_place_2 x0 x1 x2 x3 h = some o) : wq p l e (mt_R (2) 0 0) s m args below meth c (MQ below (mt_Q G none o) args s 0 0 (hp_A G)) G 4 0 0 2 [(0, .ref x0), (1, .int x1), (2, .int x2), (3, .int x3)] [] h :=
  lp_ind (P := fun (s_ : Nat × Int32 × Int32 × Int32 × hp_H) => wq p l e (mt_R (2) 0 0) s m args below meth c (MQ below (mt_Q G none o) args s 0 0 (hp_A G)) G 4 0 0 2 [(0, .ref s_.1), (1, .int s_.2.1), (2, .int s_.2.2.1), (3, .int s_.2.2.2.1)] [] s_.2.2.2.2) (fun k s hk hf => w_X3_place_2 X  (fun a0 a1 a2 a3 a4 => k (a0, a1, a2, a3, a4)) (fun a0 a1 a2 a3 a4 hf => hk (a0, a1, a2, a3, a4) hf) s.1 s.2.1 s.2.2.1 s.2.2.2.1 s.2.2.2.2 hf) 100000 (x0, x1, x2, x3, h) hf
end Sf_X3_place
def f_X3_place (x0 : Nat) (x1 : Int32) (x2 : Int32) (h : hp_H) : Option (hp_H) := gd h x0 3 (l_X3_place_2 x0 x1 x2 0 h)
set_option maxRecDepth 20000 in
theorem c_X3_place (l : Launch) (x0 : Nat) (x1 : Int32) (x2 : Int32) (h : hp_H) (r : hp_H) (hf : f_X3_place x0 x1 x2 h = some r) : cv l (2) yX3_place cX3_place 4 none 3 x0 [.int x1, .int x2] h none r := by
  unfold f_X3_place at hf
  refine cv_of (lv := [(0, .ref x0), (1, .int x1), (2, .int x2)]) hf (by decide +kernel) (Nat.le_of_ble_eq_true rfl) rfl (fun hf p e s m args below meth c G X => ?_)
  refine wk_iconst X dX3_place_0 ic_0 ?_
  refine wk_istore_n (lv' := [(3, .int 0), (0, .ref x0), (1, .int x1), (2, .int x2)]) X dX3_place_1 (by decide) rfl ?_
  exact wq_sub [1, 2, 3, 0] rfl (wl_X3_place_2 X _ _ _ _ _ hf)
section Sf_X3_clear
variable {p : Program} {l : Launch} {e : Env} {s : State} {m : MethodId} {args : Array Value} {below : List Frame} {meth : Method} {c : Code} {G : hp_G} {o : hp_H}
end Sf_X3_clear
def f_X3_clear (x0 : Nat) (h : hp_H) : Option (hp_H) := gd h x0 3 ((wr_I h x0 3 1 0).bind fun h1 => (rd_R h1 x0 3 2).bind fun v2 => (f_X2_fill v2 0 h1).bind fun r3 => (rd_R r3 x0 3 3).bind fun v4 => (f_X2_fill v4 0 r3).bind fun r5 => (rd_R r5 x0 3 4).bind fun v6 => (f_X2_fill v6 0 r5).bind fun r7 => (rd_R r7 x0 3 5).bind fun v8 => (f_X2_fill v8 0 r7).bind fun r9 => some r9)
set_option maxRecDepth 20000 in
theorem c_X3_clear (l : Launch) (x0 : Nat) (h : hp_H) (r : hp_H) (hf : f_X3_clear x0 h = some r) : cv l (2) yX3_clear cX3_clear 1 none 3 x0 [] h none r := by
  unfold f_X3_clear at hf
  refine cv_of (lv := [(0, .ref x0)]) hf (by decide +kernel) (Nat.le_of_ble_eq_true rfl) rfl (fun hf p e s m args below meth c G X => ?_)
  refine wk_aload_n X dX3_clear_0 0 rfl ?_
  refine wk_iconst X dX3_clear_1 ic_0 ?_
  refine wk_putI X dX3_clear_2 fo_X3_9 hf (fun h1 hf => ?_)
  refine wk_aload_n X dX3_clear_5 0 rfl ?_
  refine wk_getR X dX3_clear_6 fo_X3_20 hf (fun v2 hf => ?_)
  refine wk_iconst X dX3_clear_9 ic_0 ?_
  refine wk_callVv X [.int 0] [] dX3_clear_10 rfl vo_X3_37 rfl (by decide) (Nat.le_of_ble_eq_true rfl) hf (c_X2_fill l _ _ _) (fun r3 hf => ?_)
  refine wk_aload_n X dX3_clear_13 0 rfl ?_
  refine wk_getR X dX3_clear_14 fo_X3_24 hf (fun v4 hf => ?_)
  refine wk_iconst X dX3_clear_17 ic_0 ?_
  refine wk_callVv X [.int 0] [] dX3_clear_18 rfl vo_X3_37 rfl (by decide) (Nat.le_of_ble_eq_true rfl) hf (c_X2_fill l _ _ _) (fun r5 hf => ?_)
  refine wk_aload_n X dX3_clear_21 0 rfl ?_
  refine wk_getR X dX3_clear_22 fo_X3_27 hf (fun v6 hf => ?_)
  refine wk_iconst X dX3_clear_25 ic_0 ?_
  refine wk_callVv X [.int 0] [] dX3_clear_26 rfl vo_X3_37 rfl (by decide) (Nat.le_of_ble_eq_true rfl) hf (c_X2_fill l _ _ _) (fun r7 hf => ?_)
  refine wk_aload_n X dX3_clear_29 0 rfl ?_
  refine wk_getR X dX3_clear_30 fo_X3_30 hf (fun v8 hf => ?_)
  refine wk_iconst X dX3_clear_33 ic_0 ?_
  refine wk_callVv X [.int 0] [] dX3_clear_34 rfl vo_X3_37 rfl (by decide) (Nat.le_of_ble_eq_true rfl) hf (c_X2_fill l _ _ _) (fun r9 hf => ?_)
  exact wk_return X dX3_clear_37 hf
section Sf_X3_copyFrom
variable {p : Program} {l : Launch} {e : Env} {s : State} {m : MethodId} {args : Array Value} {below : List Frame} {meth : Method} {c : Code} {G : hp_G} {o : hp_H}
end Sf_X3_copyFrom
def f_X3_copyFrom (x0 : Nat) (x1 : Nat) (h : hp_H) : Option (hp_H) := gd h x0 3 ((rd_I h x1 3 1).bind fun v1 => (wr_I h x0 3 1 v1).bind fun h2 => (rd_R h2 x0 3 2).bind fun v3 => (rd_R h2 x1 3 2).bind fun v4 => (f_X2_copyFrom v3 v4 h2).bind fun r5 => (rd_R r5 x0 3 3).bind fun v6 => (rd_R r5 x1 3 3).bind fun v7 => (f_X2_copyFrom v6 v7 r5).bind fun r8 => (rd_R r8 x0 3 4).bind fun v9 => (rd_R r8 x1 3 4).bind fun v10 => (f_X2_copyFrom v9 v10 r8).bind fun r11 => (rd_R r11 x0 3 5).bind fun v12 => (rd_R r11 x1 3 5).bind fun v13 => (f_X2_copyFrom v12 v13 r11).bind fun r14 => some r14)
set_option maxRecDepth 20000 in
theorem c_X3_copyFrom (l : Launch) (x0 : Nat) (x1 : Nat) (h : hp_H) (r : hp_H) (hf : f_X3_copyFrom x0 x1 h = some r) : cv l (2) yX3_copyFrom cX3_copyFrom 2 none 3 x0 [.ref x1] h none r := by
  unfold f_X3_copyFrom at hf
  refine cv_of (lv := [(0, .ref x0), (1, .ref x1)]) hf (by decide +kernel) (Nat.le_of_ble_eq_true rfl) rfl (fun hf p e s m args below meth c G X => ?_)
  refine wk_aload_n X dX3_copyFrom_0 0 rfl ?_
  refine wk_aload_n X dX3_copyFrom_1 1 rfl ?_
  refine wk_getI X dX3_copyFrom_2 fo_X3_9 hf (fun v1 hf => ?_)
  refine wk_putI X dX3_copyFrom_5 fo_X3_9 hf (fun h2 hf => ?_)
  refine wk_aload_n X dX3_copyFrom_8 0 rfl ?_
  refine wk_getR X dX3_copyFrom_9 fo_X3_20 hf (fun v3 hf => ?_)
  refine wk_aload_n X dX3_copyFrom_12 1 rfl ?_
  refine wk_getR X dX3_copyFrom_13 fo_X3_20 hf (fun v4 hf => ?_)
  refine wk_callVv X [.ref v4] [] dX3_copyFrom_16 rfl vo_X3_40 rfl (by decide) (Nat.le_of_ble_eq_true rfl) hf (c_X2_copyFrom l _ _ _) (fun r5 hf => ?_)
  refine wk_aload_n X dX3_copyFrom_19 0 rfl ?_
  refine wk_getR X dX3_copyFrom_20 fo_X3_24 hf (fun v6 hf => ?_)
  refine wk_aload_n X dX3_copyFrom_23 1 rfl ?_
  refine wk_getR X dX3_copyFrom_24 fo_X3_24 hf (fun v7 hf => ?_)
  refine wk_callVv X [.ref v7] [] dX3_copyFrom_27 rfl vo_X3_40 rfl (by decide) (Nat.le_of_ble_eq_true rfl) hf (c_X2_copyFrom l _ _ _) (fun r8 hf => ?_)
  refine wk_aload_n X dX3_copyFrom_30 0 rfl ?_
  refine wk_getR X dX3_copyFrom_31 fo_X3_27 hf (fun v9 hf => ?_)
  refine wk_aload_n X dX3_copyFrom_34 1 rfl ?_
  refine wk_getR X dX3_copyFrom_35 fo_X3_27 hf (fun v10 hf => ?_)
  refine wk_callVv X [.ref v10] [] dX3_copyFrom_38 rfl vo_X3_40 rfl (by decide) (Nat.le_of_ble_eq_true rfl) hf (c_X2_copyFrom l _ _ _) (fun r11 hf => ?_)
  refine wk_aload_n X dX3_copyFrom_41 0 rfl ?_
  refine wk_getR X dX3_copyFrom_42 fo_X3_30 hf (fun v12 hf => ?_)
  refine wk_aload_n X dX3_copyFrom_45 1 rfl ?_
  refine wk_getR X dX3_copyFrom_46 fo_X3_30 hf (fun v13 hf => ?_)
  refine wk_callVv X [.ref v13] [] dX3_copyFrom_49 rfl vo_X3_40 rfl (by decide) (Nat.le_of_ble_eq_true rfl) hf (c_X2_copyFrom l _ _ _) (fun r14 hf => ?_)
  exact wk_return X dX3_copyFrom_52 hf
section Sf_X3_mudIn
variable {p : Program} {l : Launch} {e : Env} {s : State} {m : MethodId} {args : Array Value} {below : List Frame} {meth : Method} {c : Code} {G : hp_G} {o : Int32 × hp_H}
end Sf_X3_mudIn
def f_X3_mudIn (x0 : Nat) (x1 : Int32) (h : hp_H) : Option (Int32 × hp_H) := gd h x0 3 ((rd_R h x0 3 0).bind fun v1 => (rd_I h x0 3 1).bind fun v2 => (f_X1_mudOf v1 (v2 + x1) h).bind fun r3 => some (r3.1, r3.2))
set_option maxRecDepth 20000 in
theorem c_X3_mudIn (l : Launch) (x0 : Nat) (x1 : Int32) (h : hp_H) (r : Int32 × hp_H) (hf : f_X3_mudIn x0 x1 h = some r) : cv l (3) yX3_mudIn cX3_mudIn 2 (some .int) 3 x0 [.int x1] h (some (.int r.1)) r.2 := by
  unfold f_X3_mudIn at hf
  refine cv_of (lv := [(0, .ref x0), (1, .int x1)]) hf (by decide +kernel) (Nat.le_of_ble_eq_true rfl) rfl (fun hf p e s m args below meth c G X => ?_)
  refine wk_aload_n X dX3_mudIn_0 0 rfl ?_
  refine wk_getR X dX3_mudIn_1 fo_X3_33 hf (fun v1 hf => ?_)
  refine wk_aload_n X dX3_mudIn_4 0 rfl ?_
  refine wk_getI X dX3_mudIn_5 fo_X3_9 hf (fun v2 hf => ?_)
  refine wk_iload_n X dX3_mudIn_8 1 rfl ?_
  refine wk_iadd X dX3_mudIn_9 ?_
  refine wk_callVi X [.int (v2 + x1)] [] dX3_mudIn_10 rfl vo_X3_44 rfl (by decide) (Nat.le_of_ble_eq_true rfl) hf (c_X1_mudOf l _ _ _) (fun r3 hf => ?_)
  exact wk_ireturn X dX3_mudIn_13 hf
section Sf_X3_menAt
variable {p : Program} {l : Launch} {e : Env} {s : State} {m : MethodId} {args : Array Value} {below : List Frame} {meth : Method} {c : Code} {G : hp_G} {o : Int32 × hp_H}
def f_X3_menAt_15  (h : hp_H) : Option (Int32 × hp_H) := some (0, h)
set_option maxRecDepth 20000 in
theorem w_X3_menAt_15 (X : wx G p s m args meth c cX3_menAt 3 RX3 (some .int))  (h : hp_H) (hf : f_X3_menAt_15 h = some o) : wq p l e (mt_R (2) 0 0) s m args below meth c (MQ below (mt_Q G (some (.int o.1)) o.2) args s 0 0 (hp_A G)) G 3 0 0 15 [] [] h := by
  unfold f_X3_menAt_15 at hf
  refine wk_iconst X dX3_menAt_15 ic_0 ?_
  exact wk_ireturn X dX3_menAt_16 hf
end Sf_X3_menAt
def f_X3_menAt (x0 : Nat) (x1 : Int32) (x2 : Int32) (h : hp_H) : Option (Int32 × hp_H) := gd h x0 3 (if x1 < 0 then (f_X3_menAt_15 h) else ((rd_R h x0 3 0).bind fun v1 => (rd_I h v1 1 2).bind fun v2 => if x1 < v2 then ((rd_R h x0 3 5).bind fun v3 => (rd_R h x0 3 0).bind fun v4 => (rd_I h v4 1 2).bind fun v5 => (hp_rem (x1 + x2) v5).bind fun v6 => (f_X2_at v3 v6 h).bind fun r7 => some (r7.1, r7.2)) else (f_X3_menAt_15 h)))
set_option maxRecDepth 20000 in
theorem c_X3_menAt (l : Launch) (x0 : Nat) (x1 : Int32) (x2 : Int32) (h : hp_H) (r : Int32 × hp_H) (hf : f_X3_menAt x0 x1 x2 h = some r) : cv l (2) yX3_menAt cX3_menAt 3 (some .int) 3 x0 [.int x1, .int x2] h (some (.int r.1)) r.2 := by
  unfold f_X3_menAt at hf
  refine cv_of (lv := [(0, .ref x0), (1, .int x1), (2, .int x2)]) hf (by decide +kernel) (Nat.le_of_ble_eq_true rfl) rfl (fun hf p e s m args below meth c G X => ?_)
  refine wk_iload_n X dX3_menAt_0 1 rfl ?_
  refine wk_if_lt X 15 dX3_menAt_1 (by decide) hf (fun hf => ?_) (fun hf => ?_)
  · exact wq_sub [] rfl (w_X3_menAt_15 X _ hf)
  · refine wk_iload_n X dX3_menAt_4 1 rfl ?_
    refine wk_aload_n X dX3_menAt_5 0 rfl ?_
    refine wk_getR X dX3_menAt_6 fo_X3_33 hf (fun v1 hf => ?_)
    refine wk_getI X dX3_menAt_9 fo_X3_50 hf (fun v2 hf => ?_)
    refine wk_icmp_lt X 17 dX3_menAt_12 (by decide) hf (fun hf => ?_) (fun hf => ?_)
    · refine wk_aload_n X dX3_menAt_17 0 rfl ?_
      refine wk_getR X dX3_menAt_18 fo_X3_30 hf (fun v3 hf => ?_)
      refine wk_iload_n X dX3_menAt_21 1 rfl ?_
      refine wk_iload_n X dX3_menAt_22 2 rfl ?_
      refine wk_iadd X dX3_menAt_23 ?_
      refine wk_aload_n X dX3_menAt_24 0 rfl ?_
      refine wk_getR X dX3_menAt_25 fo_X3_33 hf (fun v4 hf => ?_)
      refine wk_getI X dX3_menAt_28 fo_X3_50 hf (fun v5 hf => ?_)
      refine wk_irem X dX3_menAt_31 hf (fun v6 hf => ?_)
      refine wk_callVi X [.int v6] [] dX3_menAt_32 rfl vo_X3_52 rfl (by decide) (Nat.le_of_ble_eq_true rfl) hf (c_X2_at l _ _ _) (fun r7 hf => ?_)
      exact wk_ireturn X dX3_menAt_35 hf
    · exact wq_sub [] rfl (w_X3_menAt_15 X _ hf)
section Sf_X3_besideAt
variable {p : Program} {l : Launch} {e : Env} {s : State} {m : MethodId} {args : Array Value} {below : List Frame} {meth : Method} {c : Code} {G : hp_G} {o : Int32 × hp_H}
end Sf_X3_besideAt
def f_X3_besideAt (x0 : Nat) (x1 : Int32) (x2 : Int32) (h : hp_H) : Option (Int32 × hp_H) := gd h x0 3 ((f_X3_menAt x0 (x1 - 1) x2 h).bind fun r1 => (f_X3_menAt x0 (x1 + 1) x2 r1.2).bind fun r2 => some (r1.1 ||| r2.1, r2.2))
set_option maxRecDepth 20000 in
theorem c_X3_besideAt (l : Launch) (x0 : Nat) (x1 : Int32) (x2 : Int32) (h : hp_H) (r : Int32 × hp_H) (hf : f_X3_besideAt x0 x1 x2 h = some r) : cv l (3) yX3_besideAt cX3_besideAt 3 (some .int) 3 x0 [.int x1, .int x2] h (some (.int r.1)) r.2 := by
  unfold f_X3_besideAt at hf
  refine cv_of (lv := [(0, .ref x0), (1, .int x1), (2, .int x2)]) hf (by decide +kernel) (Nat.le_of_ble_eq_true rfl) rfl (fun hf p e s m args below meth c G X => ?_)
  refine wk_aload_n X dX3_besideAt_0 0 rfl ?_
  refine wk_iload_n X dX3_besideAt_1 1 rfl ?_
  refine wk_iconst X dX3_besideAt_2 ic_1 ?_
  refine wk_isub X dX3_besideAt_3 ?_
  refine wk_iload_n X dX3_besideAt_4 2 rfl ?_
  refine wk_callVi X [.int (x1 - 1), .int x2] [] dX3_besideAt_5 rfl vo_X3_55 rfl (by decide) (Nat.le_of_ble_eq_true rfl) hf (c_X3_menAt l _ _ _ _) (fun r1 hf => ?_)
  refine wk_aload_n X dX3_besideAt_8 0 rfl ?_
  refine wk_iload_n X dX3_besideAt_9 1 rfl ?_
  refine wk_iconst X dX3_besideAt_10 ic_1 ?_
  refine wk_iadd X dX3_besideAt_11 ?_
  refine wk_iload_n X dX3_besideAt_12 2 rfl ?_
  refine wk_callVi X [.int (x1 + 1), .int x2] [.int r1.1] dX3_besideAt_13 rfl vo_X3_55 rfl (by decide) (Nat.le_of_ble_eq_true rfl) hf (c_X3_menAt l _ _ _ _) (fun r2 hf => ?_)
  refine wk_ior X dX3_besideAt_16 ?_
  exact wk_ireturn X dX3_besideAt_17 hf
section Sf_X3_loudAt
variable {p : Program} {l : Launch} {e : Env} {s : State} {m : MethodId} {args : Array Value} {below : List Frame} {meth : Method} {c : Code} {G : hp_G} {o : Int32 × hp_H}
def f_X3_loudAt_60 (x3 : Int32) (h : hp_H) : Option (Int32 × hp_H) := some (x3, h)
set_option maxRecDepth 20000 in
theorem w_X3_loudAt_60 (X : wx G p s m args meth c cX3_loudAt 5 RX3 (some .int)) (x3 : Int32) (h : hp_H) (hf : f_X3_loudAt_60 x3 h = some o) : wq p l e (mt_R (2) 0 0) s m args below meth c (MQ below (mt_Q G (some (.int o.1)) o.2) args s 0 0 (hp_A G)) G 5 0 0 60 [(3, .int x3)] [] h := by
  unfold f_X3_loudAt_60 at hf
  refine wk_iload_n X dX3_loudAt_60 0 rfl ?_
  exact wk_ireturn X dX3_loudAt_61 hf
def f_X3_loudAt_54 (k5 : Nat → Int32 → Int32 → Int32 → Int32 → hp_H → Option (Int32 × hp_H)) (x0 : Nat) (x1 : Int32) (x2 : Int32) (x3 : Int32) (x4 : Int32) (h : hp_H) : Option (Int32 × hp_H) := k5 x0 x1 x2 x3 (x4 + 1) h
set_option maxRecDepth 20000 in
theorem w_X3_loudAt_54 (X : wx G p s m args meth c cX3_loudAt 5 RX3 (some .int)) (k5 : Nat → Int32 → Int32 → Int32 → Int32 → hp_H → Option (Int32 × hp_H)) (hk5 : ∀ (x0 : Nat) (x1 : Int32) (x2 : Int32) (x3 : Int32) (x4 : Int32) (h : hp_H), k5 x0 x1 x2 x3 x4 h = some o → wq p l e (mt_R (2) 0 0) s m args below meth c (MQ below (mt_Q G (some (.int o.1)) o.2) args s 0 0 (hp_A G)) G 5 0 0 5 [(0, .ref x0), (1, .int x1), (2, .int x2), (3, .int x3), (4, .int x4)] [] h) (x0 : Nat) (x1 : Int32) (x2 : Int32) (x3 : Int32) (x4 : Int32) (h : hp_H) (hf : f_X3_loudAt_54 k5 x0 x1 x2 x3 x4 h = some o) : wq p l e (mt_R (2) 0 0) s m args below meth c (MQ below (mt_Q G (some (.int o.1)) o.2) args s 0 0 (hp_A G)) G 5 0 0 54 [(0, .ref x0), (1, .int x1), (2, .int x2), (3, .int x3), (4, .int x4)] [] h := by
  unfold f_X3_loudAt_54 at hf
  refine wk_iinc (lv' := [(4, .int (x4 + 1)), (0, .ref x0), (1, .int x1), (2, .int x2), (3, .int x3)]) X dX3_loudAt_54 4 rfl ic_1 (by decide) rfl ?_
  refine wk_goto X 5 dX3_loudAt_57 (by decide) ?_
  exact wq_sub [1, 2, 3, 4, 0] rfl (hk5 _ _ _ _ _ _ hf)
def f_X3_loudAt_5 (k5 : Nat → Int32 → Int32 → Int32 → Int32 → hp_H → Option (Int32 × hp_H)) (x0 : Nat) (x1 : Int32) (x2 : Int32) (x3 : Int32) (x4 : Int32) (h : hp_H) : Option (Int32 × hp_H) := (rd_R h x0 3 0).bind fun v1 => (rd_I h v1 1 1).bind fun v2 => if v2 ≤ x4 then (f_X3_loudAt_60 x3 h) else ((f_X10_holds x2 x4 h).bind fun r3 => if r3.1 = 0 then (f_X3_loudAt_54 k5 x0 x1 x2 x3 x4 r3.2) else ((rd_R r3.2 x0 3 2).bind fun v4 => (f_X2_at v4 x4 r3.2).bind fun r5 => (f_X10_holds r5.1 x1 r5.2).bind fun r6 => if r6.1 = 0 then (f_X3_loudAt_54 k5 x0 x1 x2 x3 x4 r6.2) else ((rd_R r6.2 x0 3 3).bind fun v7 => (f_X2_at v7 x4 r6.2).bind fun r8 => f_X3_loudAt_54 k5 x0 x1 x2 (x3 + r8.1) x4 r8.2)))
set_option maxRecDepth 20000 in
theorem w_X3_loudAt_5 (X : wx G p s m args meth c cX3_loudAt 5 RX3 (some .int)) (k5 : Nat → Int32 → Int32 → Int32 → Int32 → hp_H → Option (Int32 × hp_H)) (hk5 : ∀ (x0 : Nat) (x1 : Int32) (x2 : Int32) (x3 : Int32) (x4 : Int32) (h : hp_H), k5 x0 x1 x2 x3 x4 h = some o → wq p l e (mt_R (2) 0 0) s m args below meth c (MQ below (mt_Q G (some (.int o.1)) o.2) args s 0 0 (hp_A G)) G 5 0 0 5 [(0, .ref x0), (1, .int x1), (2, .int x2), (3, .int x3), (4, .int x4)] [] h) (x0 : Nat) (x1 : Int32) (x2 : Int32) (x3 : Int32) (x4 : Int32) (h : hp_H) (hf : f_X3_loudAt_5 k5 x0 x1 x2 x3 x4 h = some o) : wq p l e (mt_R (2) 0 0) s m args below meth c (MQ below (mt_Q G (some (.int o.1)) o.2) args s 0 0 (hp_A G)) G 5 0 0 5 [(0, .ref x0), (1, .int x1), (2, .int x2), (3, .int x3), (4, .int x4)] [] h := by
  unfold f_X3_loudAt_5 at hf
  refine wk_iload X dX3_loudAt_5 4 rfl ?_
  refine wk_aload_n X dX3_loudAt_7 0 rfl ?_
  refine wk_getR X dX3_loudAt_8 fo_X3_33 hf (fun v1 hf => ?_)
  refine wk_getI X dX3_loudAt_11 fo_X3_104 hf (fun v2 hf => ?_)
  refine wk_icmp_ge X 60 dX3_loudAt_14 (by decide) hf (fun hf => ?_) (fun hf => ?_)
  · exact wq_sub [3] rfl (w_X3_loudAt_60 X _ _ hf)
  · refine wk_iload_n X dX3_loudAt_17 2 rfl ?_
    refine wk_iload X dX3_loudAt_18 4 rfl ?_
    refine wk_callSNi X [.int x2, .int x4] [] dX3_loudAt_20 rfl vo_X3_107 rfl (by decide) (Nat.le_of_ble_eq_true rfl) hf (c_X10_holds l _ _ _) (fun r3 hf => ?_)
    refine wk_if_eq X 54 dX3_loudAt_23 (by decide) hf (fun hf => ?_) (fun hf => ?_)
    · exact wq_sub [0, 1, 2, 3, 4] rfl (w_X3_loudAt_54 X k5 hk5 _ _ _ _ _ _ hf)
    · refine wk_aload_n X dX3_loudAt_26 0 rfl ?_
      refine wk_getR X dX3_loudAt_27 fo_X3_20 hf (fun v4 hf => ?_)
      refine wk_iload X dX3_loudAt_30 4 rfl ?_
      refine wk_callVi X [.int x4] [] dX3_loudAt_32 rfl vo_X3_52 rfl (by decide) (Nat.le_of_ble_eq_true rfl) hf (c_X2_at l _ _ _) (fun r5 hf => ?_)
      refine wk_iload_n X dX3_loudAt_35 1 rfl ?_
      refine wk_callSNi X [.int r5.1, .int x1] [] dX3_loudAt_36 rfl vo_X3_107 rfl (by decide) (Nat.le_of_ble_eq_true rfl) hf (c_X10_holds l _ _ _) (fun r6 hf => ?_)
      refine wk_if_eq X 54 dX3_loudAt_39 (by decide) hf (fun hf => ?_) (fun hf => ?_)
      · exact wq_sub [0, 1, 2, 3, 4] rfl (w_X3_loudAt_54 X k5 hk5 _ _ _ _ _ _ hf)
      · refine wk_iload_n X dX3_loudAt_42 3 rfl ?_
        refine wk_aload_n X dX3_loudAt_43 0 rfl ?_
        refine wk_getR X dX3_loudAt_44 fo_X3_24 hf (fun v7 hf => ?_)
        refine wk_iload X dX3_loudAt_47 4 rfl ?_
        refine wk_callVi X [.int x4] [.int x3] dX3_loudAt_49 rfl vo_X3_52 rfl (by decide) (Nat.le_of_ble_eq_true rfl) hf (c_X2_at l _ _ _) (fun r8 hf => ?_)
        refine wk_iadd X dX3_loudAt_52 ?_
        refine wk_istore_n (lv' := [(3, .int (x3 + r8.1)), (0, .ref x0), (1, .int x1), (2, .int x2), (4, .int x4)]) X dX3_loudAt_53 (by decide) rfl ?_
        exact wq_sub [1, 2, 3, 0, 4] rfl (w_X3_loudAt_54 X k5 hk5 _ _ _ _ _ _ hf)
def l_X3_loudAt_5 (x0 : Nat) (x1 : Int32) (x2 : Int32) (x3 : Int32) (x4 : Int32) (h : hp_H) : Option (Int32 × hp_H) := lp (fun k (s : Nat × Int32 × Int32 × Int32 × Int32 × hp_H) => f_X3_loudAt_5  (fun a0 a1 a2 a3 a4 a5 => k (a0, a1, a2, a3, a4, a5)) s.1 s.2.1 s.2.2.1 s.2.2.2.1 s.2.2.2.2.1 s.2.2.2.2.2) 100000 (x0, x1, x2, x3, x4, h)
theorem wl_X3_loudAt_5 (X : wx G p s m args meth c cX3_loudAt 5 RX3 (some .int)) (x0 : Nat) (x1 : Int32) (x2 : Int32) (x3 : Int32) (x4 : Int32) (h : hp_H) (hf : l_X3_loudAt_5 x0 x1 x2 x3 x4 h = some o) : wq p l e (mt_R (2) 0 0) s m args below meth c (MQ below (mt_Q G (some (.int o.1)) o.2) args s 0 0 (hp_A G)) G 5 0 0 5 [(0, .ref x0), (1, .int x1), (2, .int x2), (3, .int x3), (4, .int x4)] [] h :=
  lp_ind (P := fun (s_ : Nat × Int32 × Int32 × Int32 × Int32 × hp_H) => wq p l e (mt_R (2) 0 0) s m args below meth c (MQ below (mt_Q G (some (.int o.1)) o.2) args s 0 0 (hp_A G)) G 5 0 0 5 [(0, .ref s_.1), (1, .int s_.2.1), (2, .int s_.2.2.1), (3, .int s_.2.2.2.1), (4, .int s_.2.2.2.2.1)] [] s_.2.2.2.2.2) (fun k s hk hf => w_X3_loudAt_5 X  (fun a0 a1 a2 a3 a4 a5 => k (a0, a1, a2, a3, a4, a5)) (fun a0 a1 a2 a3 a4 a5 hf => hk (a0, a1, a2, a3, a4, a5) hf) s.1 s.2.1 s.2.2.1 s.2.2.2.1 s.2.2.2.2.1 s.2.2.2.2.2 hf) 100000 (x0, x1, x2, x3, x4, h) hf
end Sf_X3_loudAt
def f_X3_loudAt (x0 : Nat) (x1 : Int32) (x2 : Int32) (h : hp_H) : Option (Int32 × hp_H) := gd h x0 3 (l_X3_loudAt_5 x0 x1 x2 0 0 h)
set_option maxRecDepth 20000 in
theorem c_X3_loudAt (l : Launch) (x0 : Nat) (x1 : Int32) (x2 : Int32) (h : hp_H) (r : Int32 × hp_H) (hf : f_X3_loudAt x0 x1 x2 h = some r) : cv l (2) yX3_loudAt cX3_loudAt 5 (some .int) 3 x0 [.int x1, .int x2] h (some (.int r.1)) r.2 := by
  unfold f_X3_loudAt at hf
  refine cv_of (lv := [(0, .ref x0), (1, .int x1), (2, .int x2)]) hf (by decide +kernel) (Nat.le_of_ble_eq_true rfl) rfl (fun hf p e s m args below meth c G X => ?_)
  refine wk_iconst X dX3_loudAt_0 ic_0 ?_
  refine wk_istore_n (lv' := [(3, .int 0), (0, .ref x0), (1, .int x1), (2, .int x2)]) X dX3_loudAt_1 (by decide) rfl ?_
  refine wk_iconst X dX3_loudAt_2 ic_0 ?_
  refine wk_istore (lv' := [(4, .int 0), (3, .int 0), (0, .ref x0), (1, .int x1), (2, .int x2)]) X dX3_loudAt_3 (by decide) rfl ?_
  exact wq_sub [2, 3, 4, 1, 0] rfl (wl_X3_loudAt_5 X _ _ _ _ _ _ hf)
section Sf_X3_hearsBeat
variable {p : Program} {l : Launch} {e : Env} {s : State} {m : MethodId} {args : Array Value} {below : List Frame} {meth : Method} {c : Code} {G : hp_G} {o : Int32 × hp_H}
def f_X3_hearsBeat_109 (t0 : Int32) (h : hp_H) : Option (Int32 × hp_H) := some (t0, h)
set_option maxRecDepth 20000 in
theorem w_X3_hearsBeat_109 (X : wx G p s m args meth c cX3_hearsBeat 8 RX3 (some .int)) (t0 : Int32) (h : hp_H) (hf : f_X3_hearsBeat_109 t0 h = some o) : wq p l e (mt_R (3) 0 0) s m args below meth c (MQ below (mt_Q G (some (.int o.1)) o.2) args s 0 0 (hp_A G)) G 8 0 0 109 [] [.int t0] h := by
  unfold f_X3_hearsBeat_109 at hf
  exact wk_ireturn X dX3_hearsBeat_109 hf
def f_X3_hearsBeat_37 (t0 : Int32) (h : hp_H) : Option (Int32 × hp_H) := some (t0, h)
set_option maxRecDepth 20000 in
theorem w_X3_hearsBeat_37 (X : wx G p s m args meth c cX3_hearsBeat 8 RX3 (some .int)) (t0 : Int32) (h : hp_H) (hf : f_X3_hearsBeat_37 t0 h = some o) : wq p l e (mt_R (3) 0 0) s m args below meth c (MQ below (mt_Q G (some (.int o.1)) o.2) args s 0 0 (hp_A G)) G 8 0 0 37 [] [.int t0] h := by
  unfold f_X3_hearsBeat_37 at hf
  exact wk_ireturn X dX3_hearsBeat_37 hf
end Sf_X3_hearsBeat
def f_X3_hearsBeat (x0 : Nat) (x1 : Int32) (x2 : Int32) (x3 : Int32) (x4 : Int32) (x5 : Int32) (h : hp_H) : Option (Int32 × hp_H) := gd h x0 3 ((f_X3_loudAt x0 x1 x2 h).bind fun r1 => (rd_R r1.2 x0 3 0).bind fun v2 => (rd_R r1.2 v2 1 6).bind fun v3 => (rd_I r1.2 v3 6 3).bind fun v4 => if v4 = 0 then (if r1.1 ≤ x4 then (f_X3_hearsBeat_37 0 r1.2) else (f_X3_hearsBeat_37 1 r1.2)) else ((f_X6_give v3 (-1) r1.1 r1.2).bind fun r5 => (f_X3_loudAt x0 x1 x3 r5).bind fun r6 => (f_X6_give v3 (-2) r6.1 r6.2).bind fun r7 => (f_X6_give v3 (-3) x4 r7).bind fun r8 => (f_X6_give v3 (-4) x1 r8).bind fun r9 => (f_J6_bitCount_0f7a4 x2 r9).bind fun r10 => (f_X6_give v3 (-5) r10.1 r10.2).bind fun r11 => (f_X6_give v3 (-6) x5 r11).bind fun r12 => (f_X6_answer v3 r12).bind fun r13 => if r13.1 ≤ 0 then (f_X3_hearsBeat_109 0 r13.2) else (f_X3_hearsBeat_109 1 r13.2)))
set_option maxRecDepth 20000 in
theorem c_X3_hearsBeat (l : Launch) (x0 : Nat) (x1 : Int32) (x2 : Int32) (x3 : Int32) (x4 : Int32) (x5 : Int32) (h : hp_H) (r : Int32 × hp_H) (hf : f_X3_hearsBeat x0 x1 x2 x3 x4 x5 h = some r) : cv l (3) yX3_hearsBeat cX3_hearsBeat 8 (some .int) 3 x0 [.int x1, .int x2, .int x3, .int x4, .int x5] h (some (.int r.1)) r.2 := by
  unfold f_X3_hearsBeat at hf
  refine cv_of (lv := [(0, .ref x0), (1, .int x1), (2, .int x2), (3, .int x3), (4, .int x4), (5, .int x5)]) hf (by decide +kernel) (Nat.le_of_ble_eq_true rfl) rfl (fun hf p e s m args below meth c G X => ?_)
  refine wk_aload_n X dX3_hearsBeat_0 0 rfl ?_
  refine wk_iload_n X dX3_hearsBeat_1 1 rfl ?_
  refine wk_iload_n X dX3_hearsBeat_2 2 rfl ?_
  refine wk_callVi X [.int x1, .int x2] [] dX3_hearsBeat_3 rfl vo_X3_79 rfl (by decide) (Nat.le_of_ble_eq_true rfl) hf (c_X3_loudAt l _ _ _ _) (fun r1 hf => ?_)
  refine wk_istore (lv' := [(6, .int r1.1), (0, .ref x0), (1, .int x1), (2, .int x2), (3, .int x3), (4, .int x4), (5, .int x5)]) X dX3_hearsBeat_6 (by decide) rfl ?_
  refine wk_aload_n X dX3_hearsBeat_8 1 rfl ?_
  refine wk_getR X dX3_hearsBeat_9 fo_X3_33 hf (fun v2 hf => ?_)
  refine wk_getR X dX3_hearsBeat_12 fo_X3_82 hf (fun v3 hf => ?_)
  refine wk_astore (lv' := [(7, .ref v3), (6, .int r1.1), (0, .ref x0), (1, .int x1), (2, .int x2), (3, .int x3), (4, .int x4), (5, .int x5)]) X dX3_hearsBeat_15 (by decide) rfl ?_
  refine wk_aload X dX3_hearsBeat_17 0 rfl ?_
  refine wk_getI X dX3_hearsBeat_19 fo_X3_86 hf (fun v4 hf => ?_)
  refine wk_if_ne X 38 dX3_hearsBeat_22 (by decide) hf (fun hf => ?_) (fun hf => ?_)
  · refine wk_aload X dX3_hearsBeat_38 0 rfl ?_
    refine wk_iconst X dX3_hearsBeat_40 ic_m1 ?_
    refine wk_iload X dX3_hearsBeat_41 1 rfl ?_
    refine wk_callVv X [.int (-1), .int r1.1] [] dX3_hearsBeat_43 rfl vo_X3_91 rfl (by decide) (Nat.le_of_ble_eq_true rfl) hf (c_X6_give l _ _ _ _) (fun r5 hf => ?_)
    refine wk_aload X dX3_hearsBeat_46 0 rfl ?_
    refine wk_bipush X dX3_hearsBeat_48 ib_m2 ?_
    refine wk_aload_n X dX3_hearsBeat_50 2 rfl ?_
    refine wk_iload_n X dX3_hearsBeat_51 3 rfl ?_
    refine wk_iload_n X dX3_hearsBeat_52 5 rfl ?_
    refine wk_callVi X [.int x1, .int x3] [.int (-2), .ref v3] dX3_hearsBeat_53 rfl vo_X3_79 rfl (by decide) (Nat.le_of_ble_eq_true rfl) hf (c_X3_loudAt l _ _ _ _) (fun r6 hf => ?_)
    refine wk_callVv X [.int (-2), .int r6.1] [] dX3_hearsBeat_56 rfl vo_X3_91 rfl (by decide) (Nat.le_of_ble_eq_true rfl) hf (c_X6_give l _ _ _ _) (fun r7 hf => ?_)
    refine wk_aload X dX3_hearsBeat_59 0 rfl ?_
    refine wk_bipush X dX3_hearsBeat_61 ib_m3 ?_
    refine wk_iload X dX3_hearsBeat_63 6 rfl ?_
    refine wk_callVv X [.int (-3), .int x4] [] dX3_hearsBeat_65 rfl vo_X3_91 rfl (by decide) (Nat.le_of_ble_eq_true rfl) hf (c_X6_give l _ _ _ _) (fun r8 hf => ?_)
    refine wk_aload X dX3_hearsBeat_68 0 rfl ?_
    refine wk_bipush X dX3_hearsBeat_70 ib_m4 ?_
    refine wk_iload_n X dX3_hearsBeat_72 3 rfl ?_
    refine wk_callVv X [.int (-4), .int x1] [] dX3_hearsBeat_73 rfl vo_X3_91 rfl (by decide) (Nat.le_of_ble_eq_true rfl) hf (c_X6_give l _ _ _ _) (fun r9 hf => ?_)
    refine wk_aload X dX3_hearsBeat_76 0 rfl ?_
    refine wk_bipush X dX3_hearsBeat_78 ib_m5 ?_
    refine wk_iload_n X dX3_hearsBeat_80 4 rfl ?_
    refine wk_callSi X [.int x2] [.int (-5), .ref v3] dX3_hearsBeat_81 rfl vo_X3_95 rfl (by decide) (Nat.le_of_ble_eq_true rfl) hf (c_J6_bitCount_0f7a4 l _ _) (fun r10 hf => ?_)
    refine wk_callVv X [.int (-5), .int r10.1] [] dX3_hearsBeat_84 rfl vo_X3_91 rfl (by decide) (Nat.le_of_ble_eq_true rfl) hf (c_X6_give l _ _ _ _) (fun r11 hf => ?_)
    refine wk_aload X dX3_hearsBeat_87 0 rfl ?_
    refine wk_bipush X dX3_hearsBeat_89 ib_m6 ?_
    refine wk_iload X dX3_hearsBeat_91 7 rfl ?_
    refine wk_callVv X [.int (-6), .int x5] [] dX3_hearsBeat_93 rfl vo_X3_91 rfl (by decide) (Nat.le_of_ble_eq_true rfl) hf (c_X6_give l _ _ _ _) (fun r12 hf => ?_)
    refine wk_aload X dX3_hearsBeat_96 0 rfl ?_
    refine wk_callVi X [] [] dX3_hearsBeat_98 rfl vo_X3_100 rfl (by decide) (Nat.le_of_ble_eq_true rfl) hf (c_X6_answer l _ _) (fun r13 hf => ?_)
    refine wk_if_le X 108 dX3_hearsBeat_101 (by decide) hf (fun hf => ?_) (fun hf => ?_)
    · refine wk_iconst X dX3_hearsBeat_108 ic_0 ?_
      exact wq_sub [] rfl (w_X3_hearsBeat_109 X _ _ hf)
    · refine wk_iconst X dX3_hearsBeat_104 ic_1 ?_
      refine wk_goto X 109 dX3_hearsBeat_105 (by decide) ?_
      exact wq_sub [] rfl (w_X3_hearsBeat_109 X _ _ hf)
  · refine wk_iload X dX3_hearsBeat_25 1 rfl ?_
    refine wk_iload X dX3_hearsBeat_27 6 rfl ?_
    refine wk_icmp_le X 36 dX3_hearsBeat_29 (by decide) hf (fun hf => ?_) (fun hf => ?_)
    · refine wk_iconst X dX3_hearsBeat_36 ic_0 ?_
      exact wq_sub [] rfl (w_X3_hearsBeat_37 X _ _ hf)
    · refine wk_iconst X dX3_hearsBeat_32 ic_1 ?_
      refine wk_goto X 37 dX3_hearsBeat_33 (by decide) ?_
      exact wq_sub [] rfl (w_X3_hearsBeat_37 X _ _ hf)
section Sf_X3_heard
variable {p : Program} {l : Launch} {e : Env} {s : State} {m : MethodId} {args : Array Value} {below : List Frame} {meth : Method} {c : Code} {G : hp_G} {o : Int32 × hp_H}
def f_X3_heard_50 (x4 : Int32) (h : hp_H) : Option (Int32 × hp_H) := some (x4, h)
set_option maxRecDepth 20000 in
theorem w_X3_heard_50 (X : wx G p s m args meth c cX3_heard 7 RX3 (some .int)) (x4 : Int32) (h : hp_H) (hf : f_X3_heard_50 x4 h = some o) : wq p l e (mt_R (4) 0 0) s m args below meth c (MQ below (mt_Q G (some (.int o.1)) o.2) args s 0 0 (hp_A G)) G 7 0 0 50 [(4, .int x4)] [] h := by
  unfold f_X3_heard_50 at hf
  refine wk_iload X dX3_heard_50 0 rfl ?_
  exact wk_ireturn X dX3_heard_52 hf
def f_X3_heard_9 (k9 : Nat → Int32 → Int32 → Int32 → Int32 → Int32 → Int32 → hp_H → Option (Int32 × hp_H)) (x0 : Nat) (x1 : Int32) (x2 : Int32) (x3 : Int32) (x4 : Int32) (x5 : Int32) (x6 : Int32) (h : hp_H) : Option (Int32 × hp_H) := (rd_R h x0 3 0).bind fun v1 => (rd_I h v1 1 0).bind fun v2 => if v2 ≤ x6 then (f_X3_heard_50 x4 h) else ((f_X3_hearsBeat x0 x6 x1 x2 x3 x5 h).bind fun r3 => k9 x0 x1 x2 x3 (x4 ||| (r3.1 <<< (x6 &&& 31))) r3.1 (x6 + 1) r3.2)
set_option maxRecDepth 20000 in
theorem w_X3_heard_9 (X : wx G p s m args meth c cX3_heard 7 RX3 (some .int)) (k9 : Nat → Int32 → Int32 → Int32 → Int32 → Int32 → Int32 → hp_H → Option (Int32 × hp_H)) (hk9 : ∀ (x0 : Nat) (x1 : Int32) (x2 : Int32) (x3 : Int32) (x4 : Int32) (x5 : Int32) (x6 : Int32) (h : hp_H), k9 x0 x1 x2 x3 x4 x5 x6 h = some o → wq p l e (mt_R (4) 0 0) s m args below meth c (MQ below (mt_Q G (some (.int o.1)) o.2) args s 0 0 (hp_A G)) G 7 0 0 9 [(0, .ref x0), (1, .int x1), (2, .int x2), (3, .int x3), (4, .int x4), (5, .int x5), (6, .int x6)] [] h) (x0 : Nat) (x1 : Int32) (x2 : Int32) (x3 : Int32) (x4 : Int32) (x5 : Int32) (x6 : Int32) (h : hp_H) (hf : f_X3_heard_9 k9 x0 x1 x2 x3 x4 x5 x6 h = some o) : wq p l e (mt_R (4) 0 0) s m args below meth c (MQ below (mt_Q G (some (.int o.1)) o.2) args s 0 0 (hp_A G)) G 7 0 0 9 [(0, .ref x0), (1, .int x1), (2, .int x2), (3, .int x3), (4, .int x4), (5, .int x5), (6, .int x6)] [] h := by
  unfold f_X3_heard_9 at hf
  refine wk_iload X dX3_heard_9 6 rfl ?_
  refine wk_aload_n X dX3_heard_11 0 rfl ?_
  refine wk_getR X dX3_heard_12 fo_X3_33 hf (fun v1 hf => ?_)
  refine wk_getI X dX3_heard_15 fo_X3_72 hf (fun v2 hf => ?_)
  refine wk_icmp_ge X 50 dX3_heard_18 (by decide) hf (fun hf => ?_) (fun hf => ?_)
  · exact wq_sub [4] rfl (w_X3_heard_50 X _ _ hf)
  · refine wk_aload_n X dX3_heard_21 0 rfl ?_
    refine wk_iload X dX3_heard_22 6 rfl ?_
    refine wk_iload_n X dX3_heard_24 1 rfl ?_
    refine wk_iload_n X dX3_heard_25 2 rfl ?_
    refine wk_iload_n X dX3_heard_26 3 rfl ?_
    refine wk_iload X dX3_heard_27 5 rfl ?_
    refine wk_callVi X [.int x6, .int x1, .int x2, .int x3, .int x5] [] dX3_heard_29 rfl vo_X3_75 rfl (by decide) (Nat.le_of_ble_eq_true rfl) hf (c_X3_hearsBeat l _ _ _ _ _ _ _) (fun r3 hf => ?_)
    refine wk_istore (lv' := [(5, .int r3.1), (0, .ref x0), (1, .int x1), (2, .int x2), (3, .int x3), (4, .int x4), (6, .int x6)]) X dX3_heard_32 (by decide) rfl ?_
    refine wk_iload X dX3_heard_34 5 rfl ?_
    refine wk_iload X dX3_heard_36 0 rfl ?_
    refine wk_iload X dX3_heard_38 6 rfl ?_
    refine wk_ishl X dX3_heard_40 ?_
    refine wk_ior X dX3_heard_41 ?_
    refine wk_istore (lv' := [(4, .int (x4 ||| (r3.1 <<< (x6 &&& 31)))), (5, .int r3.1), (0, .ref x0), (1, .int x1), (2, .int x2), (3, .int x3), (6, .int x6)]) X dX3_heard_42 (by decide) rfl ?_
    refine wk_iinc (lv' := [(6, .int (x6 + 1)), (4, .int (x4 ||| (r3.1 <<< (x6 &&& 31)))), (5, .int r3.1), (0, .ref x0), (1, .int x1), (2, .int x2), (3, .int x3)]) X dX3_heard_44 6 rfl ic_1 (by decide) rfl ?_
    refine wk_goto X 9 dX3_heard_47 (by decide) ?_
    exact wq_sub [3, 4, 5, 6, 1, 2, 0] rfl (hk9 _ _ _ _ _ _ _ _ hf)
def l_X3_heard_9 (x0 : Nat) (x1 : Int32) (x2 : Int32) (x3 : Int32) (x4 : Int32) (x5 : Int32) (x6 : Int32) (h : hp_H) : Option (Int32 × hp_H) := lp (fun k (s : Nat × Int32 × Int32 × Int32 × Int32 × Int32 × Int32 × hp_H) => f_X3_heard_9  (fun a0 a1 a2 a3 a4 a5 a6 a7 => k (a0, a1, a2, a3, a4, a5, a6, a7)) s.1 s.2.1 s.2.2.1 s.2.2.2.1 s.2.2.2.2.1 s.2.2.2.2.2.1 s.2.2.2.2.2.2.1 s.2.2.2.2.2.2.2) 100000 (x0, x1, x2, x3, x4, x5, x6, h)
theorem wl_X3_heard_9 (X : wx G p s m args meth c cX3_heard 7 RX3 (some .int)) (x0 : Nat) (x1 : Int32) (x2 : Int32) (x3 : Int32) (x4 : Int32) (x5 : Int32) (x6 : Int32) (h : hp_H) (hf : l_X3_heard_9 x0 x1 x2 x3 x4 x5 x6 h = some o) : wq p l e (mt_R (4) 0 0) s m args below meth c (MQ below (mt_Q G (some (.int o.1)) o.2) args s 0 0 (hp_A G)) G 7 0 0 9 [(0, .ref x0), (1, .int x1), (2, .int x2), (3, .int x3), (4, .int x4), (5, .int x5), (6, .int x6)] [] h :=
  lp_ind (P := fun (s_ : Nat × Int32 × Int32 × Int32 × Int32 × Int32 × Int32 × hp_H) => wq p l e (mt_R (4) 0 0) s m args below meth c (MQ below (mt_Q G (some (.int o.1)) o.2) args s 0 0 (hp_A G)) G 7 0 0 9 [(0, .ref s_.1), (1, .int s_.2.1), (2, .int s_.2.2.1), (3, .int s_.2.2.2.1), (4, .int s_.2.2.2.2.1), (5, .int s_.2.2.2.2.2.1), (6, .int s_.2.2.2.2.2.2.1)] [] s_.2.2.2.2.2.2.2) (fun k s hk hf => w_X3_heard_9 X  (fun a0 a1 a2 a3 a4 a5 a6 a7 => k (a0, a1, a2, a3, a4, a5, a6, a7)) (fun a0 a1 a2 a3 a4 a5 a6 a7 hf => hk (a0, a1, a2, a3, a4, a5, a6, a7) hf) s.1 s.2.1 s.2.2.1 s.2.2.2.1 s.2.2.2.2.1 s.2.2.2.2.2.1 s.2.2.2.2.2.2.1 s.2.2.2.2.2.2.2 hf) 100000 (x0, x1, x2, x3, x4, x5, x6, h) hf
end Sf_X3_heard
def f_X3_heard (x0 : Nat) (x1 : Int32) (x2 : Int32) (x3 : Int32) (h : hp_H) : Option (Int32 × hp_H) := gd h x0 3 (l_X3_heard_9 x0 x1 x2 x3 0 0 0 h)
set_option maxRecDepth 20000 in
theorem c_X3_heard (l : Launch) (x0 : Nat) (x1 : Int32) (x2 : Int32) (x3 : Int32) (h : hp_H) (r : Int32 × hp_H) (hf : f_X3_heard x0 x1 x2 x3 h = some r) : cv l (4) yX3_heard cX3_heard 7 (some .int) 3 x0 [.int x1, .int x2, .int x3] h (some (.int r.1)) r.2 := by
  unfold f_X3_heard at hf
  refine cv_of (lv := [(0, .ref x0), (1, .int x1), (2, .int x2), (3, .int x3)]) hf (by decide +kernel) (Nat.le_of_ble_eq_true rfl) rfl (fun hf p e s m args below meth c G X => ?_)
  refine wk_iconst X dX3_heard_0 ic_0 ?_
  refine wk_istore (lv' := [(4, .int 0), (0, .ref x0), (1, .int x1), (2, .int x2), (3, .int x3)]) X dX3_heard_1 (by decide) rfl ?_
  refine wk_iconst X dX3_heard_3 ic_0 ?_
  refine wk_istore (lv' := [(5, .int 0), (4, .int 0), (0, .ref x0), (1, .int x1), (2, .int x2), (3, .int x3)]) X dX3_heard_4 (by decide) rfl ?_
  refine wk_iconst X dX3_heard_6 ic_0 ?_
  refine wk_istore (lv' := [(6, .int 0), (5, .int 0), (4, .int 0), (0, .ref x0), (1, .int x1), (2, .int x2), (3, .int x3)]) X dX3_heard_7 (by decide) rfl ?_
  exact wq_sub [3, 4, 5, 6, 2, 1, 0] rfl (wl_X3_heard_9 X _ _ _ _ _ _ _ _ hf)
section Sf_X3_heardAt
variable {p : Program} {l : Launch} {e : Env} {s : State} {m : MethodId} {args : Array Value} {below : List Frame} {meth : Method} {c : Code} {G : hp_G} {o : Int32 × hp_H}
end Sf_X3_heardAt
def f_X3_heardAt (x0 : Nat) (x1 : Int32) (x2 : Int32) (h : hp_H) : Option (Int32 × hp_H) := gd h x0 3 ((f_X3_menAt x0 x1 x2 h).bind fun r1 => (f_X3_besideAt x0 x1 x2 r1.2).bind fun r2 => (f_X3_mudIn x0 x2 r2.2).bind fun r3 => (f_X3_heard x0 r1.1 r2.1 r3.1 r3.2).bind fun r4 => some (r4.1, r4.2))
set_option maxRecDepth 20000 in
theorem c_X3_heardAt (l : Launch) (x0 : Nat) (x1 : Int32) (x2 : Int32) (h : hp_H) (r : Int32 × hp_H) (hf : f_X3_heardAt x0 x1 x2 h = some r) : cv l (5) yX3_heardAt cX3_heardAt 3 (some .int) 3 x0 [.int x1, .int x2] h (some (.int r.1)) r.2 := by
  unfold f_X3_heardAt at hf
  refine cv_of (lv := [(0, .ref x0), (1, .int x1), (2, .int x2)]) hf (by decide +kernel) (Nat.le_of_ble_eq_true rfl) rfl (fun hf p e s m args below meth c G X => ?_)
  refine wk_aload_n X dX3_heardAt_0 0 rfl ?_
  refine wk_aload_n X dX3_heardAt_1 0 rfl ?_
  refine wk_iload_n X dX3_heardAt_2 1 rfl ?_
  refine wk_iload_n X dX3_heardAt_3 2 rfl ?_
  refine wk_callVi X [.int x1, .int x2] [.ref x0] dX3_heardAt_4 rfl vo_X3_55 rfl (by decide) (Nat.le_of_ble_eq_true rfl) hf (c_X3_menAt l _ _ _ _) (fun r1 hf => ?_)
  refine wk_aload_n X dX3_heardAt_7 0 rfl ?_
  refine wk_iload_n X dX3_heardAt_8 1 rfl ?_
  refine wk_iload_n X dX3_heardAt_9 2 rfl ?_
  refine wk_callVi X [.int x1, .int x2] [.int r1.1, .ref x0] dX3_heardAt_10 rfl vo_X3_59 rfl (by decide) (Nat.le_of_ble_eq_true rfl) hf (c_X3_besideAt l _ _ _ _) (fun r2 hf => ?_)
  refine wk_aload_n X dX3_heardAt_13 0 rfl ?_
  refine wk_iload_n X dX3_heardAt_14 2 rfl ?_
  refine wk_callVi X [.int x2] [.int r2.1, .int r1.1, .ref x0] dX3_heardAt_15 rfl vo_X3_62 rfl (by decide) (Nat.le_of_ble_eq_true rfl) hf (c_X3_mudIn l _ _ _) (fun r3 hf => ?_)
  refine wk_callVi X [.int r1.1, .int r2.1, .int r3.1] [] dX3_heardAt_18 rfl vo_X3_65 rfl (by decide) (Nat.le_of_ble_eq_true rfl) hf (c_X3_heard l _ _ _ _ _) (fun r4 hf => ?_)
  exact wk_ireturn X dX3_heardAt_21 hf
section Sf_X3_namedBy
variable {p : Program} {l : Launch} {e : Env} {s : State} {m : MethodId} {args : Array Value} {below : List Frame} {meth : Method} {c : Code} {G : hp_G} {o : Int32 × hp_H}
def f_X3_namedBy_61 (x2 : Int32) (h : hp_H) : Option (Int32 × hp_H) := some (x2, h)
set_option maxRecDepth 20000 in
theorem w_X3_namedBy_61 (X : wx G p s m args meth c cX3_namedBy 6 RX3 (some .int)) (x2 : Int32) (h : hp_H) (hf : f_X3_namedBy_61 x2 h = some o) : wq p l e (mt_R (2) 0 0) s m args below meth c (MQ below (mt_Q G (some (.int o.1)) o.2) args s 0 0 (hp_A G)) G 6 0 0 61 [(2, .int x2)] [] h := by
  unfold f_X3_namedBy_61 at hf
  refine wk_iload_n X dX3_namedBy_61 0 rfl ?_
  exact wk_ireturn X dX3_namedBy_62 hf
def f_X3_namedBy_55 (k15 : Nat → Int32 → Int32 → Int32 → Int32 → hp_H → Option (Int32 × hp_H)) (x0 : Nat) (x1 : Int32) (x2 : Int32) (x3 : Int32) (x4 : Int32) (h : hp_H) : Option (Int32 × hp_H) := k15 x0 x1 x2 x3 (x4 + 1) h
set_option maxRecDepth 20000 in
theorem w_X3_namedBy_55 (X : wx G p s m args meth c cX3_namedBy 6 RX3 (some .int)) (k15 : Nat → Int32 → Int32 → Int32 → Int32 → hp_H → Option (Int32 × hp_H)) (hk15 : ∀ (x0 : Nat) (x1 : Int32) (x2 : Int32) (x3 : Int32) (x4 : Int32) (h : hp_H), k15 x0 x1 x2 x3 x4 h = some o → wq p l e (mt_R (2) 0 0) s m args below meth c (MQ below (mt_Q G (some (.int o.1)) o.2) args s 0 0 (hp_A G)) G 6 0 0 15 [(0, .ref x0), (1, .int x1), (2, .int x2), (3, .int x3), (4, .int x4)] [] h) (x0 : Nat) (x1 : Int32) (x2 : Int32) (x3 : Int32) (x4 : Int32) (h : hp_H) (hf : f_X3_namedBy_55 k15 x0 x1 x2 x3 x4 h = some o) : wq p l e (mt_R (2) 0 0) s m args below meth c (MQ below (mt_Q G (some (.int o.1)) o.2) args s 0 0 (hp_A G)) G 6 0 0 55 [(0, .ref x0), (1, .int x1), (2, .int x2), (3, .int x3), (4, .int x4)] [] h := by
  unfold f_X3_namedBy_55 at hf
  refine wk_iinc (lv' := [(4, .int (x4 + 1)), (0, .ref x0), (1, .int x1), (2, .int x2), (3, .int x3)]) X dX3_namedBy_55 4 rfl ic_1 (by decide) rfl ?_
  refine wk_goto X 15 dX3_namedBy_58 (by decide) ?_
  exact wq_sub [1, 2, 3, 4, 0] rfl (hk15 _ _ _ _ _ _ hf)
def f_X3_namedBy_15 (k15 : Nat → Int32 → Int32 → Int32 → Int32 → hp_H → Option (Int32 × hp_H)) (x0 : Nat) (x1 : Int32) (x2 : Int32) (x3 : Int32) (x4 : Int32) (h : hp_H) : Option (Int32 × hp_H) := (rd_R h x0 3 0).bind fun v1 => (rd_I h v1 1 1).bind fun v2 => if v2 ≤ x4 then (f_X3_namedBy_61 x2 h) else ((rd_R h x0 3 2).bind fun v3 => (f_X2_at v3 x4 h).bind fun r4 => (f_J6_bitCount_0f7a4 (r4.1 ^^^ x1) r4.2).bind fun r5 => if x3 ≤ r5.1 then (f_X3_namedBy_55 k15 x0 x1 x2 x3 x4 r5.2) else (f_X3_namedBy_55 k15 x0 x1 x4 r5.1 x4 r5.2))
set_option maxRecDepth 20000 in
theorem w_X3_namedBy_15 (X : wx G p s m args meth c cX3_namedBy 6 RX3 (some .int)) (k15 : Nat → Int32 → Int32 → Int32 → Int32 → hp_H → Option (Int32 × hp_H)) (hk15 : ∀ (x0 : Nat) (x1 : Int32) (x2 : Int32) (x3 : Int32) (x4 : Int32) (h : hp_H), k15 x0 x1 x2 x3 x4 h = some o → wq p l e (mt_R (2) 0 0) s m args below meth c (MQ below (mt_Q G (some (.int o.1)) o.2) args s 0 0 (hp_A G)) G 6 0 0 15 [(0, .ref x0), (1, .int x1), (2, .int x2), (3, .int x3), (4, .int x4)] [] h) (x0 : Nat) (x1 : Int32) (x2 : Int32) (x3 : Int32) (x4 : Int32) (h : hp_H) (hf : f_X3_namedBy_15 k15 x0 x1 x2 x3 x4 h = some o) : wq p l e (mt_R (2) 0 0) s m args below meth c (MQ below (mt_Q G (some (.int o.1)) o.2) args s 0 0 (hp_A G)) G 6 0 0 15 [(0, .ref x0), (1, .int x1), (2, .int x2), (3, .int x3), (4, .int x4)] [] h := by
  unfold f_X3_namedBy_15 at hf
  refine wk_iload X dX3_namedBy_15 4 rfl ?_
  refine wk_aload_n X dX3_namedBy_17 0 rfl ?_
  refine wk_getR X dX3_namedBy_18 fo_X3_33 hf (fun v1 hf => ?_)
  refine wk_getI X dX3_namedBy_21 fo_X3_104 hf (fun v2 hf => ?_)
  refine wk_icmp_ge X 61 dX3_namedBy_24 (by decide) hf (fun hf => ?_) (fun hf => ?_)
  · exact wq_sub [2] rfl (w_X3_namedBy_61 X _ _ hf)
  · refine wk_aload_n X dX3_namedBy_27 0 rfl ?_
    refine wk_getR X dX3_namedBy_28 fo_X3_20 hf (fun v3 hf => ?_)
    refine wk_iload X dX3_namedBy_31 4 rfl ?_
    refine wk_callVi X [.int x4] [] dX3_namedBy_33 rfl vo_X3_52 rfl (by decide) (Nat.le_of_ble_eq_true rfl) hf (c_X2_at l _ _ _) (fun r4 hf => ?_)
    refine wk_iload_n X dX3_namedBy_36 1 rfl ?_
    refine wk_ixor X dX3_namedBy_37 ?_
    refine wk_callSi X [.int (r4.1 ^^^ x1)] [] dX3_namedBy_38 rfl vo_X3_95 rfl (by decide) (Nat.le_of_ble_eq_true rfl) hf (c_J6_bitCount_0f7a4 l _ _) (fun r5 hf => ?_)
    refine wk_istore (lv' := [(5, .int r5.1), (0, .ref x0), (1, .int x1), (2, .int x2), (3, .int x3), (4, .int x4)]) X dX3_namedBy_41 (by decide) rfl ?_
    refine wk_iload X dX3_namedBy_43 0 rfl ?_
    refine wk_iload_n X dX3_namedBy_45 4 rfl ?_
    refine wk_icmp_ge X 55 dX3_namedBy_46 (by decide) hf (fun hf => ?_) (fun hf => ?_)
    · exact wq_sub [1, 2, 3, 4, 5] rfl (w_X3_namedBy_55 X k15 hk15 _ _ _ _ _ _ hf)
    · refine wk_iload X dX3_namedBy_49 0 rfl ?_
      refine wk_istore_n (lv' := [(3, .int r5.1), (5, .int r5.1), (0, .ref x0), (1, .int x1), (2, .int x2), (4, .int x4)]) X dX3_namedBy_51 (by decide) rfl ?_
      refine wk_iload X dX3_namedBy_52 5 rfl ?_
      refine wk_istore_n (lv' := [(2, .int x4), (3, .int r5.1), (5, .int r5.1), (0, .ref x0), (1, .int x1), (4, .int x4)]) X dX3_namedBy_54 (by decide) rfl ?_
      exact wq_sub [3, 4, 0, 1, 5] rfl (w_X3_namedBy_55 X k15 hk15 _ _ _ _ _ _ hf)
def l_X3_namedBy_15 (x0 : Nat) (x1 : Int32) (x2 : Int32) (x3 : Int32) (x4 : Int32) (h : hp_H) : Option (Int32 × hp_H) := lp (fun k (s : Nat × Int32 × Int32 × Int32 × Int32 × hp_H) => f_X3_namedBy_15  (fun a0 a1 a2 a3 a4 a5 => k (a0, a1, a2, a3, a4, a5)) s.1 s.2.1 s.2.2.1 s.2.2.2.1 s.2.2.2.2.1 s.2.2.2.2.2) 100000 (x0, x1, x2, x3, x4, h)
theorem wl_X3_namedBy_15 (X : wx G p s m args meth c cX3_namedBy 6 RX3 (some .int)) (x0 : Nat) (x1 : Int32) (x2 : Int32) (x3 : Int32) (x4 : Int32) (h : hp_H) (hf : l_X3_namedBy_15 x0 x1 x2 x3 x4 h = some o) : wq p l e (mt_R (2) 0 0) s m args below meth c (MQ below (mt_Q G (some (.int o.1)) o.2) args s 0 0 (hp_A G)) G 6 0 0 15 [(0, .ref x0), (1, .int x1), (2, .int x2), (3, .int x3), (4, .int x4)] [] h :=
  lp_ind (P := fun (s_ : Nat × Int32 × Int32 × Int32 × Int32 × hp_H) => wq p l e (mt_R (2) 0 0) s m args below meth c (MQ below (mt_Q G (some (.int o.1)) o.2) args s 0 0 (hp_A G)) G 6 0 0 15 [(0, .ref s_.1), (1, .int s_.2.1), (2, .int s_.2.2.1), (3, .int s_.2.2.2.1), (4, .int s_.2.2.2.2.1)] [] s_.2.2.2.2.2) (fun k s hk hf => w_X3_namedBy_15 X  (fun a0 a1 a2 a3 a4 a5 => k (a0, a1, a2, a3, a4, a5)) (fun a0 a1 a2 a3 a4 a5 hf => hk (a0, a1, a2, a3, a4, a5) hf) s.1 s.2.1 s.2.2.1 s.2.2.2.1 s.2.2.2.2.1 s.2.2.2.2.2 hf) 100000 (x0, x1, x2, x3, x4, h) hf
end Sf_X3_namedBy
def f_X3_namedBy (x0 : Nat) (x1 : Int32) (h : hp_H) : Option (Int32 × hp_H) := gd h x0 3 ((rd_R h x0 3 0).bind fun v1 => (rd_I h v1 1 3).bind fun v2 => l_X3_namedBy_15 x0 x1 (-1) (v2 + 1) 0 h)
set_option maxRecDepth 20000 in
theorem c_X3_namedBy (l : Launch) (x0 : Nat) (x1 : Int32) (h : hp_H) (r : Int32 × hp_H) (hf : f_X3_namedBy x0 x1 h = some r) : cv l (2) yX3_namedBy cX3_namedBy 6 (some .int) 3 x0 [.int x1] h (some (.int r.1)) r.2 := by
  unfold f_X3_namedBy at hf
  refine cv_of (lv := [(0, .ref x0), (1, .int x1)]) hf (by decide +kernel) (Nat.le_of_ble_eq_true rfl) rfl (fun hf p e s m args below meth c G X => ?_)
  refine wk_iconst X dX3_namedBy_0 ic_m1 ?_
  refine wk_istore_n (lv' := [(2, .int (-1)), (0, .ref x0), (1, .int x1)]) X dX3_namedBy_1 (by decide) rfl ?_
  refine wk_aload_n X dX3_namedBy_2 1 rfl ?_
  refine wk_getR X dX3_namedBy_3 fo_X3_33 hf (fun v1 hf => ?_)
  refine wk_getI X dX3_namedBy_6 fo_X3_111 hf (fun v2 hf => ?_)
  refine wk_iconst X dX3_namedBy_9 ic_1 ?_
  refine wk_iadd X dX3_namedBy_10 ?_
  refine wk_istore_n (lv' := [(3, .int (v2 + 1)), (2, .int (-1)), (0, .ref x0), (1, .int x1)]) X dX3_namedBy_11 (by decide) rfl ?_
  refine wk_iconst X dX3_namedBy_12 ic_0 ?_
  refine wk_istore (lv' := [(4, .int 0), (3, .int (v2 + 1)), (2, .int (-1)), (0, .ref x0), (1, .int x1)]) X dX3_namedBy_13 (by decide) rfl ?_
  exact wq_sub [3, 4, 2, 1, 0] rfl (wl_X3_namedBy_15 X _ _ _ _ _ _ hf)
section Sf_X3_namedAt
variable {p : Program} {l : Launch} {e : Env} {s : State} {m : MethodId} {args : Array Value} {below : List Frame} {meth : Method} {c : Code} {G : hp_G} {o : Int32 × hp_H}
end Sf_X3_namedAt
def f_X3_namedAt (x0 : Nat) (x1 : Int32) (x2 : Int32) (x3 : Int32) (h : hp_H) : Option (Int32 × hp_H) := gd h x0 3 ((f_X3_menAt x0 x1 x2 h).bind fun r1 => (f_X3_besideAt x0 x1 x2 r1.2).bind fun r2 => (f_X3_heard x0 r1.1 r2.1 x3 r2.2).bind fun r3 => (f_X3_namedBy x0 r3.1 r3.2).bind fun r4 => some (r4.1, r4.2))
set_option maxRecDepth 20000 in
theorem c_X3_namedAt (l : Launch) (x0 : Nat) (x1 : Int32) (x2 : Int32) (x3 : Int32) (h : hp_H) (r : Int32 × hp_H) (hf : f_X3_namedAt x0 x1 x2 x3 h = some r) : cv l (5) yX3_namedAt cX3_namedAt 4 (some .int) 3 x0 [.int x1, .int x2, .int x3] h (some (.int r.1)) r.2 := by
  unfold f_X3_namedAt at hf
  refine cv_of (lv := [(0, .ref x0), (1, .int x1), (2, .int x2), (3, .int x3)]) hf (by decide +kernel) (Nat.le_of_ble_eq_true rfl) rfl (fun hf p e s m args below meth c G X => ?_)
  refine wk_aload_n X dX3_namedAt_0 0 rfl ?_
  refine wk_aload_n X dX3_namedAt_1 0 rfl ?_
  refine wk_aload_n X dX3_namedAt_2 0 rfl ?_
  refine wk_iload_n X dX3_namedAt_3 1 rfl ?_
  refine wk_iload_n X dX3_namedAt_4 2 rfl ?_
  refine wk_callVi X [.int x1, .int x2] [.ref x0, .ref x0] dX3_namedAt_5 rfl vo_X3_55 rfl (by decide) (Nat.le_of_ble_eq_true rfl) hf (c_X3_menAt l _ _ _ _) (fun r1 hf => ?_)
  refine wk_aload_n X dX3_namedAt_8 0 rfl ?_
  refine wk_iload_n X dX3_namedAt_9 1 rfl ?_
  refine wk_iload_n X dX3_namedAt_10 2 rfl ?_
  refine wk_callVi X [.int x1, .int x2] [.int r1.1, .ref x0, .ref x0] dX3_namedAt_11 rfl vo_X3_59 rfl (by decide) (Nat.le_of_ble_eq_true rfl) hf (c_X3_besideAt l _ _ _ _) (fun r2 hf => ?_)
  refine wk_iload_n X dX3_namedAt_14 3 rfl ?_
  refine wk_callVi X [.int r1.1, .int r2.1, .int x3] [.ref x0] dX3_namedAt_15 rfl vo_X3_65 rfl (by decide) (Nat.le_of_ble_eq_true rfl) hf (c_X3_heard l _ _ _ _ _) (fun r3 hf => ?_)
  refine wk_callVi X [.int r3.1] [] dX3_namedAt_18 rfl vo_X3_69 rfl (by decide) (Nat.le_of_ble_eq_true rfl) hf (c_X3_namedBy l _ _ _) (fun r4 hf => ?_)
  exact wk_ireturn X dX3_namedAt_21 hf
section Sf_X3_timesNamed
variable {p : Program} {l : Launch} {e : Env} {s : State} {m : MethodId} {args : Array Value} {below : List Frame} {meth : Method} {c : Code} {G : hp_G} {o : Int32 × hp_H}
def f_X3_timesNamed_39 (x4 : Int32) (h : hp_H) : Option (Int32 × hp_H) := some (x4, h)
set_option maxRecDepth 20000 in
theorem w_X3_timesNamed_39 (X : wx G p s m args meth c cX3_timesNamed 6 RX3 (some .int)) (x4 : Int32) (h : hp_H) (hf : f_X3_timesNamed_39 x4 h = some o) : wq p l e (mt_R (6) 0 0) s m args below meth c (MQ below (mt_Q G (some (.int o.1)) o.2) args s 0 0 (hp_A G)) G 6 0 0 39 [(4, .int x4)] [] h := by
  unfold f_X3_timesNamed_39 at hf
  refine wk_iload X dX3_timesNamed_39 0 rfl ?_
  exact wk_ireturn X dX3_timesNamed_41 hf
def f_X3_timesNamed_33 (k6 : Nat → Int32 → Int32 → Int32 → Int32 → Int32 → hp_H → Option (Int32 × hp_H)) (x0 : Nat) (x1 : Int32) (x2 : Int32) (x3 : Int32) (x4 : Int32) (x5 : Int32) (h : hp_H) : Option (Int32 × hp_H) := k6 x0 x1 x2 x3 x4 (x5 + 1) h
set_option maxRecDepth 20000 in
theorem w_X3_timesNamed_33 (X : wx G p s m args meth c cX3_timesNamed 6 RX3 (some .int)) (k6 : Nat → Int32 → Int32 → Int32 → Int32 → Int32 → hp_H → Option (Int32 × hp_H)) (hk6 : ∀ (x0 : Nat) (x1 : Int32) (x2 : Int32) (x3 : Int32) (x4 : Int32) (x5 : Int32) (h : hp_H), k6 x0 x1 x2 x3 x4 x5 h = some o → wq p l e (mt_R (6) 0 0) s m args below meth c (MQ below (mt_Q G (some (.int o.1)) o.2) args s 0 0 (hp_A G)) G 6 0 0 6 [(0, .ref x0), (1, .int x1), (2, .int x2), (3, .int x3), (4, .int x4), (5, .int x5)] [] h) (x0 : Nat) (x1 : Int32) (x2 : Int32) (x3 : Int32) (x4 : Int32) (x5 : Int32) (h : hp_H) (hf : f_X3_timesNamed_33 k6 x0 x1 x2 x3 x4 x5 h = some o) : wq p l e (mt_R (6) 0 0) s m args below meth c (MQ below (mt_Q G (some (.int o.1)) o.2) args s 0 0 (hp_A G)) G 6 0 0 33 [(0, .ref x0), (1, .int x1), (2, .int x2), (3, .int x3), (4, .int x4), (5, .int x5)] [] h := by
  unfold f_X3_timesNamed_33 at hf
  refine wk_iinc (lv' := [(5, .int (x5 + 1)), (0, .ref x0), (1, .int x1), (2, .int x2), (3, .int x3), (4, .int x4)]) X dX3_timesNamed_33 5 rfl ic_1 (by decide) rfl ?_
  refine wk_goto X 6 dX3_timesNamed_36 (by decide) ?_
  exact wq_sub [1, 2, 3, 4, 5, 0] rfl (hk6 _ _ _ _ _ _ _ hf)
def f_X3_timesNamed_6 (k6 : Nat → Int32 → Int32 → Int32 → Int32 → Int32 → hp_H → Option (Int32 × hp_H)) (x0 : Nat) (x1 : Int32) (x2 : Int32) (x3 : Int32) (x4 : Int32) (x5 : Int32) (h : hp_H) : Option (Int32 × hp_H) := (rd_R h x0 3 0).bind fun v1 => (rd_I h v1 1 2).bind fun v2 => if v2 ≤ x5 then (f_X3_timesNamed_39 x4 h) else ((f_X3_namedAt x0 x5 x2 x3 h).bind fun r3 => if r3.1 = x1 then (f_X3_timesNamed_33 k6 x0 x1 x2 x3 (x4 + 1) x5 r3.2) else (f_X3_timesNamed_33 k6 x0 x1 x2 x3 x4 x5 r3.2))
set_option maxRecDepth 20000 in
theorem w_X3_timesNamed_6 (X : wx G p s m args meth c cX3_timesNamed 6 RX3 (some .int)) (k6 : Nat → Int32 → Int32 → Int32 → Int32 → Int32 → hp_H → Option (Int32 × hp_H)) (hk6 : ∀ (x0 : Nat) (x1 : Int32) (x2 : Int32) (x3 : Int32) (x4 : Int32) (x5 : Int32) (h : hp_H), k6 x0 x1 x2 x3 x4 x5 h = some o → wq p l e (mt_R (6) 0 0) s m args below meth c (MQ below (mt_Q G (some (.int o.1)) o.2) args s 0 0 (hp_A G)) G 6 0 0 6 [(0, .ref x0), (1, .int x1), (2, .int x2), (3, .int x3), (4, .int x4), (5, .int x5)] [] h) (x0 : Nat) (x1 : Int32) (x2 : Int32) (x3 : Int32) (x4 : Int32) (x5 : Int32) (h : hp_H) (hf : f_X3_timesNamed_6 k6 x0 x1 x2 x3 x4 x5 h = some o) : wq p l e (mt_R (6) 0 0) s m args below meth c (MQ below (mt_Q G (some (.int o.1)) o.2) args s 0 0 (hp_A G)) G 6 0 0 6 [(0, .ref x0), (1, .int x1), (2, .int x2), (3, .int x3), (4, .int x4), (5, .int x5)] [] h := by
  unfold f_X3_timesNamed_6 at hf
  refine wk_iload X dX3_timesNamed_6 5 rfl ?_
  refine wk_aload_n X dX3_timesNamed_8 0 rfl ?_
  refine wk_getR X dX3_timesNamed_9 fo_X3_33 hf (fun v1 hf => ?_)
  refine wk_getI X dX3_timesNamed_12 fo_X3_50 hf (fun v2 hf => ?_)
  refine wk_icmp_ge X 39 dX3_timesNamed_15 (by decide) hf (fun hf => ?_) (fun hf => ?_)
  · exact wq_sub [4] rfl (w_X3_timesNamed_39 X _ _ hf)
  · refine wk_aload_n X dX3_timesNamed_18 0 rfl ?_
    refine wk_iload X dX3_timesNamed_19 5 rfl ?_
    refine wk_iload_n X dX3_timesNamed_21 2 rfl ?_
    refine wk_iload_n X dX3_timesNamed_22 3 rfl ?_
    refine wk_callVi X [.int x5, .int x2, .int x3] [] dX3_timesNamed_23 rfl vo_X3_114 rfl (by decide) (Nat.le_of_ble_eq_true rfl) hf (c_X3_namedAt l _ _ _ _ _) (fun r3 hf => ?_)
    refine wk_iload_n X dX3_timesNamed_26 1 rfl ?_
    refine wk_icmp_ne X 33 dX3_timesNamed_27 (by decide) hf (fun hf => ?_) (fun hf => ?_)
    · exact wq_sub [0, 1, 2, 3, 4, 5] rfl (w_X3_timesNamed_33 X k6 hk6 _ _ _ _ _ _ _ hf)
    · refine wk_iinc (lv' := [(4, .int (x4 + 1)), (0, .ref x0), (1, .int x1), (2, .int x2), (3, .int x3), (5, .int x5)]) X dX3_timesNamed_30 4 rfl ic_1 (by decide) rfl ?_
      exact wq_sub [1, 2, 3, 4, 0, 5] rfl (w_X3_timesNamed_33 X k6 hk6 _ _ _ _ _ _ _ hf)
def l_X3_timesNamed_6 (x0 : Nat) (x1 : Int32) (x2 : Int32) (x3 : Int32) (x4 : Int32) (x5 : Int32) (h : hp_H) : Option (Int32 × hp_H) := lp (fun k (s : Nat × Int32 × Int32 × Int32 × Int32 × Int32 × hp_H) => f_X3_timesNamed_6  (fun a0 a1 a2 a3 a4 a5 a6 => k (a0, a1, a2, a3, a4, a5, a6)) s.1 s.2.1 s.2.2.1 s.2.2.2.1 s.2.2.2.2.1 s.2.2.2.2.2.1 s.2.2.2.2.2.2) 100000 (x0, x1, x2, x3, x4, x5, h)
theorem wl_X3_timesNamed_6 (X : wx G p s m args meth c cX3_timesNamed 6 RX3 (some .int)) (x0 : Nat) (x1 : Int32) (x2 : Int32) (x3 : Int32) (x4 : Int32) (x5 : Int32) (h : hp_H) (hf : l_X3_timesNamed_6 x0 x1 x2 x3 x4 x5 h = some o) : wq p l e (mt_R (6) 0 0) s m args below meth c (MQ below (mt_Q G (some (.int o.1)) o.2) args s 0 0 (hp_A G)) G 6 0 0 6 [(0, .ref x0), (1, .int x1), (2, .int x2), (3, .int x3), (4, .int x4), (5, .int x5)] [] h :=
  lp_ind (P := fun (s_ : Nat × Int32 × Int32 × Int32 × Int32 × Int32 × hp_H) => wq p l e (mt_R (6) 0 0) s m args below meth c (MQ below (mt_Q G (some (.int o.1)) o.2) args s 0 0 (hp_A G)) G 6 0 0 6 [(0, .ref s_.1), (1, .int s_.2.1), (2, .int s_.2.2.1), (3, .int s_.2.2.2.1), (4, .int s_.2.2.2.2.1), (5, .int s_.2.2.2.2.2.1)] [] s_.2.2.2.2.2.2) (fun k s hk hf => w_X3_timesNamed_6 X  (fun a0 a1 a2 a3 a4 a5 a6 => k (a0, a1, a2, a3, a4, a5, a6)) (fun a0 a1 a2 a3 a4 a5 a6 hf => hk (a0, a1, a2, a3, a4, a5, a6) hf) s.1 s.2.1 s.2.2.1 s.2.2.2.1 s.2.2.2.2.1 s.2.2.2.2.2.1 s.2.2.2.2.2.2 hf) 100000 (x0, x1, x2, x3, x4, x5, h) hf
end Sf_X3_timesNamed
def f_X3_timesNamed (x0 : Nat) (x1 : Int32) (x2 : Int32) (x3 : Int32) (h : hp_H) : Option (Int32 × hp_H) := gd h x0 3 (l_X3_timesNamed_6 x0 x1 x2 x3 0 0 h)
set_option maxRecDepth 20000 in
theorem c_X3_timesNamed (l : Launch) (x0 : Nat) (x1 : Int32) (x2 : Int32) (x3 : Int32) (h : hp_H) (r : Int32 × hp_H) (hf : f_X3_timesNamed x0 x1 x2 x3 h = some r) : cv l (6) yX3_timesNamed cX3_timesNamed 6 (some .int) 3 x0 [.int x1, .int x2, .int x3] h (some (.int r.1)) r.2 := by
  unfold f_X3_timesNamed at hf
  refine cv_of (lv := [(0, .ref x0), (1, .int x1), (2, .int x2), (3, .int x3)]) hf (by decide +kernel) (Nat.le_of_ble_eq_true rfl) rfl (fun hf p e s m args below meth c G X => ?_)
  refine wk_iconst X dX3_timesNamed_0 ic_0 ?_
  refine wk_istore (lv' := [(4, .int 0), (0, .ref x0), (1, .int x1), (2, .int x2), (3, .int x3)]) X dX3_timesNamed_1 (by decide) rfl ?_
  refine wk_iconst X dX3_timesNamed_3 ic_0 ?_
  refine wk_istore (lv' := [(5, .int 0), (4, .int 0), (0, .ref x0), (1, .int x1), (2, .int x2), (3, .int x3)]) X dX3_timesNamed_4 (by decide) rfl ?_
  exact wq_sub [2, 3, 4, 5, 1, 0] rfl (wl_X3_timesNamed_6 X _ _ _ _ _ _ _ hf)
section Sf_X3_namedBits
variable {p : Program} {l : Launch} {e : Env} {s : State} {m : MethodId} {args : Array Value} {below : List Frame} {meth : Method} {c : Code} {G : hp_G} {o : Int32 × hp_H}
def f_X3_namedBits_52 (x3 : Int32) (h : hp_H) : Option (Int32 × hp_H) := some (x3, h)
set_option maxRecDepth 20000 in
theorem w_X3_namedBits_52 (X : wx G p s m args meth c cX3_namedBits 6 RX3 (some .int)) (x3 : Int32) (h : hp_H) (hf : f_X3_namedBits_52 x3 h = some o) : wq p l e (mt_R (6) 0 0) s m args below meth c (MQ below (mt_Q G (some (.int o.1)) o.2) args s 0 0 (hp_A G)) G 6 0 0 52 [(3, .int x3)] [] h := by
  unfold f_X3_namedBits_52 at hf
  refine wk_iload_n X dX3_namedBits_52 0 rfl ?_
  exact wk_ireturn X dX3_namedBits_53 hf
def f_X3_namedBits_46 (k11 : Nat → Int32 → Int32 → Int32 → Int32 → hp_H → Option (Int32 × hp_H)) (x0 : Nat) (x1 : Int32) (x2 : Int32) (x3 : Int32) (x4 : Int32) (h : hp_H) : Option (Int32 × hp_H) := k11 x0 x1 x2 x3 (x4 + 1) h
set_option maxRecDepth 20000 in
theorem w_X3_namedBits_46 (X : wx G p s m args meth c cX3_namedBits 6 RX3 (some .int)) (k11 : Nat → Int32 → Int32 → Int32 → Int32 → hp_H → Option (Int32 × hp_H)) (hk11 : ∀ (x0 : Nat) (x1 : Int32) (x2 : Int32) (x3 : Int32) (x4 : Int32) (h : hp_H), k11 x0 x1 x2 x3 x4 h = some o → wq p l e (mt_R (6) 0 0) s m args below meth c (MQ below (mt_Q G (some (.int o.1)) o.2) args s 0 0 (hp_A G)) G 6 0 0 11 [(0, .ref x0), (1, .int x1), (2, .int x2), (3, .int x3), (4, .int x4)] [] h) (x0 : Nat) (x1 : Int32) (x2 : Int32) (x3 : Int32) (x4 : Int32) (h : hp_H) (hf : f_X3_namedBits_46 k11 x0 x1 x2 x3 x4 h = some o) : wq p l e (mt_R (6) 0 0) s m args below meth c (MQ below (mt_Q G (some (.int o.1)) o.2) args s 0 0 (hp_A G)) G 6 0 0 46 [(0, .ref x0), (1, .int x1), (2, .int x2), (3, .int x3), (4, .int x4)] [] h := by
  unfold f_X3_namedBits_46 at hf
  refine wk_iinc (lv' := [(4, .int (x4 + 1)), (0, .ref x0), (1, .int x1), (2, .int x2), (3, .int x3)]) X dX3_namedBits_46 4 rfl ic_1 (by decide) rfl ?_
  refine wk_goto X 11 dX3_namedBits_49 (by decide) ?_
  exact wq_sub [1, 2, 3, 4, 0] rfl (hk11 _ _ _ _ _ _ hf)
def f_X3_namedBits_11 (k11 : Nat → Int32 → Int32 → Int32 → Int32 → hp_H → Option (Int32 × hp_H)) (x0 : Nat) (x1 : Int32) (x2 : Int32) (x3 : Int32) (x4 : Int32) (h : hp_H) : Option (Int32 × hp_H) := (rd_R h x0 3 0).bind fun v1 => (rd_I h v1 1 2).bind fun v2 => if v2 ≤ x4 then (f_X3_namedBits_52 x3 h) else ((f_X3_namedAt x0 x4 x1 x2 h).bind fun r3 => if r3.1 = (-1) then (f_X3_namedBits_46 k11 x0 x1 x2 x3 x4 r3.2) else (f_X3_namedBits_46 k11 x0 x1 x2 (x3 ||| (1 <<< (r3.1 &&& 31))) x4 r3.2))
set_option maxRecDepth 20000 in
theorem w_X3_namedBits_11 (X : wx G p s m args meth c cX3_namedBits 6 RX3 (some .int)) (k11 : Nat → Int32 → Int32 → Int32 → Int32 → hp_H → Option (Int32 × hp_H)) (hk11 : ∀ (x0 : Nat) (x1 : Int32) (x2 : Int32) (x3 : Int32) (x4 : Int32) (h : hp_H), k11 x0 x1 x2 x3 x4 h = some o → wq p l e (mt_R (6) 0 0) s m args below meth c (MQ below (mt_Q G (some (.int o.1)) o.2) args s 0 0 (hp_A G)) G 6 0 0 11 [(0, .ref x0), (1, .int x1), (2, .int x2), (3, .int x3), (4, .int x4)] [] h) (x0 : Nat) (x1 : Int32) (x2 : Int32) (x3 : Int32) (x4 : Int32) (h : hp_H) (hf : f_X3_namedBits_11 k11 x0 x1 x2 x3 x4 h = some o) : wq p l e (mt_R (6) 0 0) s m args below meth c (MQ below (mt_Q G (some (.int o.1)) o.2) args s 0 0 (hp_A G)) G 6 0 0 11 [(0, .ref x0), (1, .int x1), (2, .int x2), (3, .int x3), (4, .int x4)] [] h := by
  unfold f_X3_namedBits_11 at hf
  refine wk_iload X dX3_namedBits_11 4 rfl ?_
  refine wk_aload_n X dX3_namedBits_13 0 rfl ?_
  refine wk_getR X dX3_namedBits_14 fo_X3_33 hf (fun v1 hf => ?_)
  refine wk_getI X dX3_namedBits_17 fo_X3_50 hf (fun v2 hf => ?_)
  refine wk_icmp_ge X 52 dX3_namedBits_20 (by decide) hf (fun hf => ?_) (fun hf => ?_)
  · exact wq_sub [3] rfl (w_X3_namedBits_52 X _ _ hf)
  · refine wk_aload_n X dX3_namedBits_23 0 rfl ?_
    refine wk_iload X dX3_namedBits_24 4 rfl ?_
    refine wk_iload_n X dX3_namedBits_26 1 rfl ?_
    refine wk_iload_n X dX3_namedBits_27 2 rfl ?_
    refine wk_callVi X [.int x4, .int x1, .int x2] [] dX3_namedBits_28 rfl vo_X3_114 rfl (by decide) (Nat.le_of_ble_eq_true rfl) hf (c_X3_namedAt l _ _ _ _ _) (fun r3 hf => ?_)
    refine wk_istore (lv' := [(5, .int r3.1), (0, .ref x0), (1, .int x1), (2, .int x2), (3, .int x3), (4, .int x4)]) X dX3_namedBits_31 (by decide) rfl ?_
    refine wk_iload X dX3_namedBits_33 0 rfl ?_
    refine wk_iconst X dX3_namedBits_35 ic_m1 ?_
    refine wk_icmp_eq X 46 dX3_namedBits_36 (by decide) hf (fun hf => ?_) (fun hf => ?_)
    · exact wq_sub [1, 2, 3, 4, 5] rfl (w_X3_namedBits_46 X k11 hk11 _ _ _ _ _ _ hf)
    · refine wk_iload_n X dX3_namedBits_39 4 rfl ?_
      refine wk_iconst X dX3_namedBits_40 ic_1 ?_
      refine wk_iload X dX3_namedBits_41 0 rfl ?_
      refine wk_ishl X dX3_namedBits_43 ?_
      refine wk_ior X dX3_namedBits_44 ?_
      refine wk_istore_n (lv' := [(3, .int (x3 ||| (1 <<< (r3.1 &&& 31)))), (5, .int r3.1), (0, .ref x0), (1, .int x1), (2, .int x2), (4, .int x4)]) X dX3_namedBits_45 (by decide) rfl ?_
      exact wq_sub [2, 3, 4, 0, 5] rfl (w_X3_namedBits_46 X k11 hk11 _ _ _ _ _ _ hf)
def l_X3_namedBits_11 (x0 : Nat) (x1 : Int32) (x2 : Int32) (x3 : Int32) (x4 : Int32) (h : hp_H) : Option (Int32 × hp_H) := lp (fun k (s : Nat × Int32 × Int32 × Int32 × Int32 × hp_H) => f_X3_namedBits_11  (fun a0 a1 a2 a3 a4 a5 => k (a0, a1, a2, a3, a4, a5)) s.1 s.2.1 s.2.2.1 s.2.2.2.1 s.2.2.2.2.1 s.2.2.2.2.2) 100000 (x0, x1, x2, x3, x4, h)
theorem wl_X3_namedBits_11 (X : wx G p s m args meth c cX3_namedBits 6 RX3 (some .int)) (x0 : Nat) (x1 : Int32) (x2 : Int32) (x3 : Int32) (x4 : Int32) (h : hp_H) (hf : l_X3_namedBits_11 x0 x1 x2 x3 x4 h = some o) : wq p l e (mt_R (6) 0 0) s m args below meth c (MQ below (mt_Q G (some (.int o.1)) o.2) args s 0 0 (hp_A G)) G 6 0 0 11 [(0, .ref x0), (1, .int x1), (2, .int x2), (3, .int x3), (4, .int x4)] [] h :=
  lp_ind (P := fun (s_ : Nat × Int32 × Int32 × Int32 × Int32 × hp_H) => wq p l e (mt_R (6) 0 0) s m args below meth c (MQ below (mt_Q G (some (.int o.1)) o.2) args s 0 0 (hp_A G)) G 6 0 0 11 [(0, .ref s_.1), (1, .int s_.2.1), (2, .int s_.2.2.1), (3, .int s_.2.2.2.1), (4, .int s_.2.2.2.2.1)] [] s_.2.2.2.2.2) (fun k s hk hf => w_X3_namedBits_11 X  (fun a0 a1 a2 a3 a4 a5 => k (a0, a1, a2, a3, a4, a5)) (fun a0 a1 a2 a3 a4 a5 hf => hk (a0, a1, a2, a3, a4, a5) hf) s.1 s.2.1 s.2.2.1 s.2.2.2.1 s.2.2.2.2.1 s.2.2.2.2.2 hf) 100000 (x0, x1, x2, x3, x4, h) hf
end Sf_X3_namedBits
def f_X3_namedBits (x0 : Nat) (x1 : Int32) (h : hp_H) : Option (Int32 × hp_H) := gd h x0 3 ((f_X3_mudIn x0 x1 h).bind fun r1 => l_X3_namedBits_11 x0 x1 r1.1 0 0 r1.2)
set_option maxRecDepth 20000 in
theorem c_X3_namedBits (l : Launch) (x0 : Nat) (x1 : Int32) (h : hp_H) (r : Int32 × hp_H) (hf : f_X3_namedBits x0 x1 h = some r) : cv l (6) yX3_namedBits cX3_namedBits 6 (some .int) 3 x0 [.int x1] h (some (.int r.1)) r.2 := by
  unfold f_X3_namedBits at hf
  refine cv_of (lv := [(0, .ref x0), (1, .int x1)]) hf (by decide +kernel) (Nat.le_of_ble_eq_true rfl) rfl (fun hf p e s m args below meth c G X => ?_)
  refine wk_aload_n X dX3_namedBits_0 0 rfl ?_
  refine wk_iload_n X dX3_namedBits_1 1 rfl ?_
  refine wk_callVi X [.int x1] [] dX3_namedBits_2 rfl vo_X3_62 rfl (by decide) (Nat.le_of_ble_eq_true rfl) hf (c_X3_mudIn l _ _ _) (fun r1 hf => ?_)
  refine wk_istore_n (lv' := [(2, .int r1.1), (0, .ref x0), (1, .int x1)]) X dX3_namedBits_5 (by decide) rfl ?_
  refine wk_iconst X dX3_namedBits_6 ic_0 ?_
  refine wk_istore_n (lv' := [(3, .int 0), (2, .int r1.1), (0, .ref x0), (1, .int x1)]) X dX3_namedBits_7 (by decide) rfl ?_
  refine wk_iconst X dX3_namedBits_8 ic_0 ?_
  refine wk_istore (lv' := [(4, .int 0), (3, .int 0), (2, .int r1.1), (0, .ref x0), (1, .int x1)]) X dX3_namedBits_9 (by decide) rfl ?_
  exact wq_sub [3, 4, 2, 1, 0] rfl (wl_X3_namedBits_11 X _ _ _ _ _ _ hf)
section Sf_X3_rightRows
variable {p : Program} {l : Launch} {e : Env} {s : State} {m : MethodId} {args : Array Value} {below : List Frame} {meth : Method} {c : Code} {G : hp_G} {o : Int32 × hp_H}
def f_X3_rightRows_63 (x3 : Int32) (h : hp_H) : Option (Int32 × hp_H) := some (x3, h)
set_option maxRecDepth 20000 in
theorem w_X3_rightRows_63 (X : wx G p s m args meth c cX3_rightRows 6 RX3 (some .int)) (x3 : Int32) (h : hp_H) (hf : f_X3_rightRows_63 x3 h = some o) : wq p l e (mt_R (6) 0 0) s m args below meth c (MQ below (mt_Q G (some (.int o.1)) o.2) args s 0 0 (hp_A G)) G 6 0 0 63 [(3, .int x3)] [] h := by
  unfold f_X3_rightRows_63 at hf
  refine wk_iload_n X dX3_rightRows_63 0 rfl ?_
  exact wk_ireturn X dX3_rightRows_64 hf
def f_X3_rightRows_57 (k11 : Nat → Int32 → Int32 → Int32 → Int32 → hp_H → Option (Int32 × hp_H)) (x0 : Nat) (x1 : Int32) (x2 : Int32) (x3 : Int32) (x4 : Int32) (h : hp_H) : Option (Int32 × hp_H) := k11 x0 x1 x2 x3 (x4 + 1) h
set_option maxRecDepth 20000 in
theorem w_X3_rightRows_57 (X : wx G p s m args meth c cX3_rightRows 6 RX3 (some .int)) (k11 : Nat → Int32 → Int32 → Int32 → Int32 → hp_H → Option (Int32 × hp_H)) (hk11 : ∀ (x0 : Nat) (x1 : Int32) (x2 : Int32) (x3 : Int32) (x4 : Int32) (h : hp_H), k11 x0 x1 x2 x3 x4 h = some o → wq p l e (mt_R (6) 0 0) s m args below meth c (MQ below (mt_Q G (some (.int o.1)) o.2) args s 0 0 (hp_A G)) G 6 0 0 11 [(0, .ref x0), (1, .int x1), (2, .int x2), (3, .int x3), (4, .int x4)] [] h) (x0 : Nat) (x1 : Int32) (x2 : Int32) (x3 : Int32) (x4 : Int32) (h : hp_H) (hf : f_X3_rightRows_57 k11 x0 x1 x2 x3 x4 h = some o) : wq p l e (mt_R (6) 0 0) s m args below meth c (MQ below (mt_Q G (some (.int o.1)) o.2) args s 0 0 (hp_A G)) G 6 0 0 57 [(0, .ref x0), (1, .int x1), (2, .int x2), (3, .int x3), (4, .int x4)] [] h := by
  unfold f_X3_rightRows_57 at hf
  refine wk_iinc (lv' := [(4, .int (x4 + 1)), (0, .ref x0), (1, .int x1), (2, .int x2), (3, .int x3)]) X dX3_rightRows_57 4 rfl ic_1 (by decide) rfl ?_
  refine wk_goto X 11 dX3_rightRows_60 (by decide) ?_
  exact wq_sub [1, 2, 3, 4, 0] rfl (hk11 _ _ _ _ _ _ hf)
def f_X3_rightRows_11 (k11 : Nat → Int32 → Int32 → Int32 → Int32 → hp_H → Option (Int32 × hp_H)) (x0 : Nat) (x1 : Int32) (x2 : Int32) (x3 : Int32) (x4 : Int32) (h : hp_H) : Option (Int32 × hp_H) := (rd_R h x0 3 0).bind fun v1 => (rd_I h v1 1 2).bind fun v2 => if v2 ≤ x4 then (f_X3_rightRows_63 x3 h) else ((f_X3_namedAt x0 x4 x1 x2 h).bind fun r3 => if r3.1 = (-1) then (f_X3_rightRows_57 k11 x0 x1 x2 x3 x4 r3.2) else ((f_X3_menAt x0 x4 x1 r3.2).bind fun r4 => (f_X10_holds r4.1 r3.1 r4.2).bind fun r5 => if r5.1 = 0 then (f_X3_rightRows_57 k11 x0 x1 x2 x3 x4 r5.2) else (f_X3_rightRows_57 k11 x0 x1 x2 (x3 + 1) x4 r5.2)))
set_option maxRecDepth 20000 in
theorem w_X3_rightRows_11 (X : wx G p s m args meth c cX3_rightRows 6 RX3 (some .int)) (k11 : Nat → Int32 → Int32 → Int32 → Int32 → hp_H → Option (Int32 × hp_H)) (hk11 : ∀ (x0 : Nat) (x1 : Int32) (x2 : Int32) (x3 : Int32) (x4 : Int32) (h : hp_H), k11 x0 x1 x2 x3 x4 h = some o → wq p l e (mt_R (6) 0 0) s m args below meth c (MQ below (mt_Q G (some (.int o.1)) o.2) args s 0 0 (hp_A G)) G 6 0 0 11 [(0, .ref x0), (1, .int x1), (2, .int x2), (3, .int x3), (4, .int x4)] [] h) (x0 : Nat) (x1 : Int32) (x2 : Int32) (x3 : Int32) (x4 : Int32) (h : hp_H) (hf : f_X3_rightRows_11 k11 x0 x1 x2 x3 x4 h = some o) : wq p l e (mt_R (6) 0 0) s m args below meth c (MQ below (mt_Q G (some (.int o.1)) o.2) args s 0 0 (hp_A G)) G 6 0 0 11 [(0, .ref x0), (1, .int x1), (2, .int x2), (3, .int x3), (4, .int x4)] [] h := by
  unfold f_X3_rightRows_11 at hf
  refine wk_iload X dX3_rightRows_11 4 rfl ?_
  refine wk_aload_n X dX3_rightRows_13 0 rfl ?_
  refine wk_getR X dX3_rightRows_14 fo_X3_33 hf (fun v1 hf => ?_)
  refine wk_getI X dX3_rightRows_17 fo_X3_50 hf (fun v2 hf => ?_)
  refine wk_icmp_ge X 63 dX3_rightRows_20 (by decide) hf (fun hf => ?_) (fun hf => ?_)
  · exact wq_sub [3] rfl (w_X3_rightRows_63 X _ _ hf)
  · refine wk_aload_n X dX3_rightRows_23 0 rfl ?_
    refine wk_iload X dX3_rightRows_24 4 rfl ?_
    refine wk_iload_n X dX3_rightRows_26 1 rfl ?_
    refine wk_iload_n X dX3_rightRows_27 2 rfl ?_
    refine wk_callVi X [.int x4, .int x1, .int x2] [] dX3_rightRows_28 rfl vo_X3_114 rfl (by decide) (Nat.le_of_ble_eq_true rfl) hf (c_X3_namedAt l _ _ _ _ _) (fun r3 hf => ?_)
    refine wk_istore (lv' := [(5, .int r3.1), (0, .ref x0), (1, .int x1), (2, .int x2), (3, .int x3), (4, .int x4)]) X dX3_rightRows_31 (by decide) rfl ?_
    refine wk_iload X dX3_rightRows_33 0 rfl ?_
    refine wk_iconst X dX3_rightRows_35 ic_m1 ?_
    refine wk_icmp_eq X 57 dX3_rightRows_36 (by decide) hf (fun hf => ?_) (fun hf => ?_)
    · exact wq_sub [1, 2, 3, 4, 5] rfl (w_X3_rightRows_57 X k11 hk11 _ _ _ _ _ _ hf)
    · refine wk_aload_n X dX3_rightRows_39 1 rfl ?_
      refine wk_iload X dX3_rightRows_40 5 rfl ?_
      refine wk_iload_n X dX3_rightRows_42 2 rfl ?_
      refine wk_callVi X [.int x4, .int x1] [] dX3_rightRows_43 rfl vo_X3_55 rfl (by decide) (Nat.le_of_ble_eq_true rfl) hf (c_X3_menAt l _ _ _ _) (fun r4 hf => ?_)
      refine wk_iload X dX3_rightRows_46 0 rfl ?_
      refine wk_callSNi X [.int r4.1, .int r3.1] [] dX3_rightRows_48 rfl vo_X3_107 rfl (by decide) (Nat.le_of_ble_eq_true rfl) hf (c_X10_holds l _ _ _) (fun r5 hf => ?_)
      refine wk_if_eq X 57 dX3_rightRows_51 (by decide) hf (fun hf => ?_) (fun hf => ?_)
      · exact wq_sub [1, 2, 3, 4, 5] rfl (w_X3_rightRows_57 X k11 hk11 _ _ _ _ _ _ hf)
      · refine wk_iinc (lv' := [(3, .int (x3 + 1)), (5, .int r3.1), (0, .ref x0), (1, .int x1), (2, .int x2), (4, .int x4)]) X dX3_rightRows_54 4 rfl ic_1 (by decide) rfl ?_
        exact wq_sub [2, 3, 4, 0, 5] rfl (w_X3_rightRows_57 X k11 hk11 _ _ _ _ _ _ hf)
def l_X3_rightRows_11 (x0 : Nat) (x1 : Int32) (x2 : Int32) (x3 : Int32) (x4 : Int32) (h : hp_H) : Option (Int32 × hp_H) := lp (fun k (s : Nat × Int32 × Int32 × Int32 × Int32 × hp_H) => f_X3_rightRows_11  (fun a0 a1 a2 a3 a4 a5 => k (a0, a1, a2, a3, a4, a5)) s.1 s.2.1 s.2.2.1 s.2.2.2.1 s.2.2.2.2.1 s.2.2.2.2.2) 100000 (x0, x1, x2, x3, x4, h)
theorem wl_X3_rightRows_11 (X : wx G p s m args meth c cX3_rightRows 6 RX3 (some .int)) (x0 : Nat) (x1 : Int32) (x2 : Int32) (x3 : Int32) (x4 : Int32) (h : hp_H) (hf : l_X3_rightRows_11 x0 x1 x2 x3 x4 h = some o) : wq p l e (mt_R (6) 0 0) s m args below meth c (MQ below (mt_Q G (some (.int o.1)) o.2) args s 0 0 (hp_A G)) G 6 0 0 11 [(0, .ref x0), (1, .int x1), (2, .int x2), (3, .int x3), (4, .int x4)] [] h :=
  lp_ind (P := fun (s_ : Nat × Int32 × Int32 × Int32 × Int32 × hp_H) => wq p l e (mt_R (6) 0 0) s m args below meth c (MQ below (mt_Q G (some (.int o.1)) o.2) args s 0 0 (hp_A G)) G 6 0 0 11 [(0, .ref s_.1), (1, .int s_.2.1), (2, .int s_.2.2.1), (3, .int s_.2.2.2.1), (4, .int s_.2.2.2.2.1)] [] s_.2.2.2.2.2) (fun k s hk hf => w_X3_rightRows_11 X  (fun a0 a1 a2 a3 a4 a5 => k (a0, a1, a2, a3, a4, a5)) (fun a0 a1 a2 a3 a4 a5 hf => hk (a0, a1, a2, a3, a4, a5) hf) s.1 s.2.1 s.2.2.1 s.2.2.2.1 s.2.2.2.2.1 s.2.2.2.2.2 hf) 100000 (x0, x1, x2, x3, x4, h) hf
end Sf_X3_rightRows
def f_X3_rightRows (x0 : Nat) (x1 : Int32) (h : hp_H) : Option (Int32 × hp_H) := gd h x0 3 ((f_X3_mudIn x0 x1 h).bind fun r1 => l_X3_rightRows_11 x0 x1 r1.1 0 0 r1.2)
set_option maxRecDepth 20000 in
theorem c_X3_rightRows (l : Launch) (x0 : Nat) (x1 : Int32) (h : hp_H) (r : Int32 × hp_H) (hf : f_X3_rightRows x0 x1 h = some r) : cv l (6) yX3_rightRows cX3_rightRows 6 (some .int) 3 x0 [.int x1] h (some (.int r.1)) r.2 := by
  unfold f_X3_rightRows at hf
  refine cv_of (lv := [(0, .ref x0), (1, .int x1)]) hf (by decide +kernel) (Nat.le_of_ble_eq_true rfl) rfl (fun hf p e s m args below meth c G X => ?_)
  refine wk_aload_n X dX3_rightRows_0 0 rfl ?_
  refine wk_iload_n X dX3_rightRows_1 1 rfl ?_
  refine wk_callVi X [.int x1] [] dX3_rightRows_2 rfl vo_X3_62 rfl (by decide) (Nat.le_of_ble_eq_true rfl) hf (c_X3_mudIn l _ _ _) (fun r1 hf => ?_)
  refine wk_istore_n (lv' := [(2, .int r1.1), (0, .ref x0), (1, .int x1)]) X dX3_rightRows_5 (by decide) rfl ?_
  refine wk_iconst X dX3_rightRows_6 ic_0 ?_
  refine wk_istore_n (lv' := [(3, .int 0), (2, .int r1.1), (0, .ref x0), (1, .int x1)]) X dX3_rightRows_7 (by decide) rfl ?_
  refine wk_iconst X dX3_rightRows_8 ic_0 ?_
  refine wk_istore (lv' := [(4, .int 0), (3, .int 0), (2, .int r1.1), (0, .ref x0), (1, .int x1)]) X dX3_rightRows_9 (by decide) rfl ?_
  exact wq_sub [3, 4, 2, 1, 0] rfl (wl_X3_rightRows_11 X _ _ _ _ _ _ hf)
section Sf_X3_parade
variable {p : Program} {l : Launch} {e : Env} {s : State} {m : MethodId} {args : Array Value} {below : List Frame} {meth : Method} {c : Code} {G : hp_G} {o : Int32 × hp_H}
def f_X3_parade_87 (x3 : Int32) (h : hp_H) : Option (Int32 × hp_H) := some (x3, h)
set_option maxRecDepth 20000 in
theorem w_X3_parade_87 (X : wx G p s m args meth c cX3_parade 6 RX3 (some .int)) (x3 : Int32) (h : hp_H) (hf : f_X3_parade_87 x3 h = some o) : wq p l e (mt_R (6) 0 0) s m args below meth c (MQ below (mt_Q G (some (.int o.1)) o.2) args s 0 0 (hp_A G)) G 6 0 0 87 [(3, .int x3)] [] h := by
  unfold f_X3_parade_87 at hf
  refine wk_iload_n X dX3_parade_87 0 rfl ?_
  exact wk_ireturn X dX3_parade_88 hf
def f_X3_parade_81 (k5 : Nat → Int32 → Int32 → Int32 → Int32 → hp_H → Option (Int32 × hp_H)) (x0 : Nat) (x1 : Int32) (x2 : Int32) (x3 : Int32) (x4 : Int32) (h : hp_H) : Option (Int32 × hp_H) := k5 x0 x1 x2 x3 (x4 + 1) h
set_option maxRecDepth 20000 in
theorem w_X3_parade_81 (X : wx G p s m args meth c cX3_parade 6 RX3 (some .int)) (k5 : Nat → Int32 → Int32 → Int32 → Int32 → hp_H → Option (Int32 × hp_H)) (hk5 : ∀ (x0 : Nat) (x1 : Int32) (x2 : Int32) (x3 : Int32) (x4 : Int32) (h : hp_H), k5 x0 x1 x2 x3 x4 h = some o → wq p l e (mt_R (6) 0 0) s m args below meth c (MQ below (mt_Q G (some (.int o.1)) o.2) args s 0 0 (hp_A G)) G 6 0 0 5 [(0, .ref x0), (1, .int x1), (2, .int x2), (3, .int x3), (4, .int x4)] [] h) (x0 : Nat) (x1 : Int32) (x2 : Int32) (x3 : Int32) (x4 : Int32) (h : hp_H) (hf : f_X3_parade_81 k5 x0 x1 x2 x3 x4 h = some o) : wq p l e (mt_R (6) 0 0) s m args below meth c (MQ below (mt_Q G (some (.int o.1)) o.2) args s 0 0 (hp_A G)) G 6 0 0 81 [(0, .ref x0), (1, .int x1), (2, .int x2), (3, .int x3), (4, .int x4)] [] h := by
  unfold f_X3_parade_81 at hf
  refine wk_iinc (lv' := [(4, .int (x4 + 1)), (0, .ref x0), (1, .int x1), (2, .int x2), (3, .int x3)]) X dX3_parade_81 4 rfl ic_1 (by decide) rfl ?_
  refine wk_goto X 5 dX3_parade_84 (by decide) ?_
  exact wq_sub [1, 2, 3, 4, 0] rfl (hk5 _ _ _ _ _ _ hf)
def f_X3_parade_79 (k5 : Nat → Int32 → Int32 → Int32 → Int32 → hp_H → Option (Int32 × hp_H)) (x0 : Nat) (x1 : Int32) (x2 : Int32) (x4 : Int32) (t0 : Int32) (t1 : Int32) (h : hp_H) : Option (Int32 × hp_H) := f_X3_parade_81 k5 x0 x1 x2 (t0 + t1) x4 h
set_option maxRecDepth 20000 in
theorem w_X3_parade_79 (X : wx G p s m args meth c cX3_parade 6 RX3 (some .int)) (k5 : Nat → Int32 → Int32 → Int32 → Int32 → hp_H → Option (Int32 × hp_H)) (hk5 : ∀ (x0 : Nat) (x1 : Int32) (x2 : Int32) (x3 : Int32) (x4 : Int32) (h : hp_H), k5 x0 x1 x2 x3 x4 h = some o → wq p l e (mt_R (6) 0 0) s m args below meth c (MQ below (mt_Q G (some (.int o.1)) o.2) args s 0 0 (hp_A G)) G 6 0 0 5 [(0, .ref x0), (1, .int x1), (2, .int x2), (3, .int x3), (4, .int x4)] [] h) (x0 : Nat) (x1 : Int32) (x2 : Int32) (x4 : Int32) (t0 : Int32) (t1 : Int32) (h : hp_H) (hf : f_X3_parade_79 k5 x0 x1 x2 x4 t0 t1 h = some o) : wq p l e (mt_R (6) 0 0) s m args below meth c (MQ below (mt_Q G (some (.int o.1)) o.2) args s 0 0 (hp_A G)) G 6 0 0 79 [(0, .ref x0), (1, .int x1), (2, .int x2), (4, .int x4)] [.int t1, .int t0] h := by
  unfold f_X3_parade_79 at hf
  refine wk_iadd X dX3_parade_79 ?_
  refine wk_istore_n (lv' := [(3, .int (t0 + t1)), (0, .ref x0), (1, .int x1), (2, .int x2), (4, .int x4)]) X dX3_parade_80 (by decide) rfl ?_
  exact wq_sub [1, 2, 3, 0, 4] rfl (w_X3_parade_81 X k5 hk5 _ _ _ _ _ _ hf)
def f_X3_parade_5 (k5 : Nat → Int32 → Int32 → Int32 → Int32 → hp_H → Option (Int32 × hp_H)) (x0 : Nat) (x1 : Int32) (x2 : Int32) (x3 : Int32) (x4 : Int32) (h : hp_H) : Option (Int32 × hp_H) := (rd_R h x0 3 0).bind fun v1 => (rd_I h v1 1 2).bind fun v2 => if v2 ≤ x4 then (f_X3_parade_87 x3 h) else ((f_X3_namedAt x0 x4 x1 x2 h).bind fun r3 => if r3.1 = (-1) then (f_X3_parade_81 k5 x0 x1 x2 x3 x4 r3.2) else ((rd_R r3.2 x0 3 4).bind fun v4 => (rd_R r3.2 x0 3 4).bind fun v5 => (f_X2_at v5 r3.1 r3.2).bind fun r6 => (f_X2_set v4 r3.1 (hp_min 99 (r6.1 + 1)) r6.2).bind fun r7 => (f_X3_menAt x0 x4 x1 r7).bind fun r8 => (f_X10_holds r8.1 r3.1 r8.2).bind fun r9 => if r9.1 = 0 then (f_X3_parade_79 k5 x0 x1 x2 x4 x3 1 r9.2) else (f_X3_parade_79 k5 x0 x1 x2 x4 x3 0 r9.2)))
set_option maxRecDepth 20000 in
theorem w_X3_parade_5 (X : wx G p s m args meth c cX3_parade 6 RX3 (some .int)) (k5 : Nat → Int32 → Int32 → Int32 → Int32 → hp_H → Option (Int32 × hp_H)) (hk5 : ∀ (x0 : Nat) (x1 : Int32) (x2 : Int32) (x3 : Int32) (x4 : Int32) (h : hp_H), k5 x0 x1 x2 x3 x4 h = some o → wq p l e (mt_R (6) 0 0) s m args below meth c (MQ below (mt_Q G (some (.int o.1)) o.2) args s 0 0 (hp_A G)) G 6 0 0 5 [(0, .ref x0), (1, .int x1), (2, .int x2), (3, .int x3), (4, .int x4)] [] h) (x0 : Nat) (x1 : Int32) (x2 : Int32) (x3 : Int32) (x4 : Int32) (h : hp_H) (hf : f_X3_parade_5 k5 x0 x1 x2 x3 x4 h = some o) : wq p l e (mt_R (6) 0 0) s m args below meth c (MQ below (mt_Q G (some (.int o.1)) o.2) args s 0 0 (hp_A G)) G 6 0 0 5 [(0, .ref x0), (1, .int x1), (2, .int x2), (3, .int x3), (4, .int x4)] [] h := by
  unfold f_X3_parade_5 at hf
  refine wk_iload X dX3_parade_5 4 rfl ?_
  refine wk_aload_n X dX3_parade_7 0 rfl ?_
  refine wk_getR X dX3_parade_8 fo_X3_33 hf (fun v1 hf => ?_)
  refine wk_getI X dX3_parade_11 fo_X3_50 hf (fun v2 hf => ?_)
  refine wk_icmp_ge X 87 dX3_parade_14 (by decide) hf (fun hf => ?_) (fun hf => ?_)
  · exact wq_sub [3] rfl (w_X3_parade_87 X _ _ hf)
  · refine wk_aload_n X dX3_parade_17 0 rfl ?_
    refine wk_iload X dX3_parade_18 4 rfl ?_
    refine wk_iload_n X dX3_parade_20 1 rfl ?_
    refine wk_iload_n X dX3_parade_21 2 rfl ?_
    refine wk_callVi X [.int x4, .int x1, .int x2] [] dX3_parade_22 rfl vo_X3_114 rfl (by decide) (Nat.le_of_ble_eq_true rfl) hf (c_X3_namedAt l _ _ _ _ _) (fun r3 hf => ?_)
    refine wk_istore (lv' := [(5, .int r3.1), (0, .ref x0), (1, .int x1), (2, .int x2), (3, .int x3), (4, .int x4)]) X dX3_parade_25 (by decide) rfl ?_
    refine wk_iload X dX3_parade_27 0 rfl ?_
    refine wk_iconst X dX3_parade_29 ic_m1 ?_
    refine wk_icmp_eq X 81 dX3_parade_30 (by decide) hf (fun hf => ?_) (fun hf => ?_)
    · exact wq_sub [1, 2, 3, 4, 5] rfl (w_X3_parade_81 X k5 hk5 _ _ _ _ _ _ hf)
    · refine wk_aload_n X dX3_parade_33 1 rfl ?_
      refine wk_getR X dX3_parade_34 fo_X3_27 hf (fun v4 hf => ?_)
      refine wk_iload X dX3_parade_37 0 rfl ?_
      refine wk_bipush X dX3_parade_39 ib_99 ?_
      refine wk_aload_n X dX3_parade_41 1 rfl ?_
      refine wk_getR X dX3_parade_42 fo_X3_27 hf (fun v5 hf => ?_)
      refine wk_iload X dX3_parade_45 0 rfl ?_
      refine wk_callVi X [.int r3.1] [.int 99, .int r3.1, .ref v4] dX3_parade_47 rfl vo_X3_52 rfl (by decide) (Nat.le_of_ble_eq_true rfl) hf (c_X2_at l _ _ _) (fun r6 hf => ?_)
      refine wk_iconst X dX3_parade_50 ic_1 ?_
      refine wk_iadd X dX3_parade_51 ?_
      refine wk_min X dX3_parade_52 ml_X3_117 (by decide) (Nat.le_of_ble_eq_true rfl) ?_
      refine wk_callVv X [.int r3.1, .int (hp_min 99 (r6.1 + 1))] [] dX3_parade_55 rfl vo_X3_122 rfl (by decide) (Nat.le_of_ble_eq_true rfl) hf (c_X2_set l _ _ _ _) (fun r7 hf => ?_)
      refine wk_iload_n X dX3_parade_58 4 rfl ?_
      refine wk_aload_n X dX3_parade_59 1 rfl ?_
      refine wk_iload X dX3_parade_60 5 rfl ?_
      refine wk_iload_n X dX3_parade_62 2 rfl ?_
      refine wk_callVi X [.int x4, .int x1] [.int x3] dX3_parade_63 rfl vo_X3_55 rfl (by decide) (Nat.le_of_ble_eq_true rfl) hf (c_X3_menAt l _ _ _ _) (fun r8 hf => ?_)
      refine wk_iload X dX3_parade_66 0 rfl ?_
      refine wk_callSNi X [.int r8.1, .int r3.1] [.int x3] dX3_parade_68 rfl vo_X3_107 rfl (by decide) (Nat.le_of_ble_eq_true rfl) hf (c_X10_holds l _ _ _) (fun r9 hf => ?_)
      refine wk_if_eq X 78 dX3_parade_71 (by decide) hf (fun hf => ?_) (fun hf => ?_)
      · refine wk_iconst X dX3_parade_78 ic_1 ?_
        exact wq_sub [1, 2, 3, 5] rfl (w_X3_parade_79 X k5 hk5 _ _ _ _ _ _ _ hf)
      · refine wk_iconst X dX3_parade_74 ic_0 ?_
        refine wk_goto X 79 dX3_parade_75 (by decide) ?_
        exact wq_sub [1, 2, 3, 5] rfl (w_X3_parade_79 X k5 hk5 _ _ _ _ _ _ _ hf)
def l_X3_parade_5 (x0 : Nat) (x1 : Int32) (x2 : Int32) (x3 : Int32) (x4 : Int32) (h : hp_H) : Option (Int32 × hp_H) := lp (fun k (s : Nat × Int32 × Int32 × Int32 × Int32 × hp_H) => f_X3_parade_5  (fun a0 a1 a2 a3 a4 a5 => k (a0, a1, a2, a3, a4, a5)) s.1 s.2.1 s.2.2.1 s.2.2.2.1 s.2.2.2.2.1 s.2.2.2.2.2) 100000 (x0, x1, x2, x3, x4, h)
theorem wl_X3_parade_5 (X : wx G p s m args meth c cX3_parade 6 RX3 (some .int)) (x0 : Nat) (x1 : Int32) (x2 : Int32) (x3 : Int32) (x4 : Int32) (h : hp_H) (hf : l_X3_parade_5 x0 x1 x2 x3 x4 h = some o) : wq p l e (mt_R (6) 0 0) s m args below meth c (MQ below (mt_Q G (some (.int o.1)) o.2) args s 0 0 (hp_A G)) G 6 0 0 5 [(0, .ref x0), (1, .int x1), (2, .int x2), (3, .int x3), (4, .int x4)] [] h :=
  lp_ind (P := fun (s_ : Nat × Int32 × Int32 × Int32 × Int32 × hp_H) => wq p l e (mt_R (6) 0 0) s m args below meth c (MQ below (mt_Q G (some (.int o.1)) o.2) args s 0 0 (hp_A G)) G 6 0 0 5 [(0, .ref s_.1), (1, .int s_.2.1), (2, .int s_.2.2.1), (3, .int s_.2.2.2.1), (4, .int s_.2.2.2.2.1)] [] s_.2.2.2.2.2) (fun k s hk hf => w_X3_parade_5 X  (fun a0 a1 a2 a3 a4 a5 => k (a0, a1, a2, a3, a4, a5)) (fun a0 a1 a2 a3 a4 a5 hf => hk (a0, a1, a2, a3, a4, a5) hf) s.1 s.2.1 s.2.2.1 s.2.2.2.1 s.2.2.2.2.1 s.2.2.2.2.2 hf) 100000 (x0, x1, x2, x3, x4, h) hf
end Sf_X3_parade
def f_X3_parade (x0 : Nat) (x1 : Int32) (x2 : Int32) (h : hp_H) : Option (Int32 × hp_H) := gd h x0 3 (l_X3_parade_5 x0 x1 x2 0 0 h)
set_option maxRecDepth 20000 in
theorem c_X3_parade (l : Launch) (x0 : Nat) (x1 : Int32) (x2 : Int32) (h : hp_H) (r : Int32 × hp_H) (hf : f_X3_parade x0 x1 x2 h = some r) : cv l (6) yX3_parade cX3_parade 6 (some .int) 3 x0 [.int x1, .int x2] h (some (.int r.1)) r.2 := by
  unfold f_X3_parade at hf
  refine cv_of (lv := [(0, .ref x0), (1, .int x1), (2, .int x2)]) hf (by decide +kernel) (Nat.le_of_ble_eq_true rfl) rfl (fun hf p e s m args below meth c G X => ?_)
  refine wk_iconst X dX3_parade_0 ic_0 ?_
  refine wk_istore_n (lv' := [(3, .int 0), (0, .ref x0), (1, .int x1), (2, .int x2)]) X dX3_parade_1 (by decide) rfl ?_
  refine wk_iconst X dX3_parade_2 ic_0 ?_
  refine wk_istore (lv' := [(4, .int 0), (3, .int 0), (0, .ref x0), (1, .int x1), (2, .int x2)]) X dX3_parade_3 (by decide) rfl ?_
  exact wq_sub [2, 3, 4, 1, 0] rfl (wl_X3_parade_5 X _ _ _ _ _ _ hf)
section Sf_X3_goBy
variable {p : Program} {l : Launch} {e : Env} {s : State} {m : MethodId} {args : Array Value} {below : List Frame} {meth : Method} {c : Code} {G : hp_G} {o : hp_H}
def f_X3_goBy_57 (x0 : Nat) (x1 : Int32) (h : hp_H) : Option (hp_H) := (rd_R h x0 3 5).bind fun v1 => (rd_R h x0 3 0).bind fun v2 => (rd_I h v2 1 2).bind fun v3 => (f_X2_set v1 (v3 - 1) x1 h).bind fun r4 => (rd_I r4 x0 3 1).bind fun v5 => (wr_I r4 x0 3 1 (v5 + 1)).bind fun h6 => some h6
set_option maxRecDepth 20000 in
theorem w_X3_goBy_57 (X : wx G p s m args meth c cX3_goBy 3 RX3 none) (x0 : Nat) (x1 : Int32) (h : hp_H) (hf : f_X3_goBy_57 x0 x1 h = some o) : wq p l e (mt_R (7) 0 0) s m args below meth c (MQ below (mt_Q G none o) args s 0 0 (hp_A G)) G 3 0 0 57 [(0, .ref x0), (1, .int x1)] [] h := by
  unfold f_X3_goBy_57 at hf
  refine wk_aload_n X dX3_goBy_57 0 rfl ?_
  refine wk_getR X dX3_goBy_58 fo_X3_30 hf (fun v1 hf => ?_)
  refine wk_aload_n X dX3_goBy_61 0 rfl ?_
  refine wk_getR X dX3_goBy_62 fo_X3_33 hf (fun v2 hf => ?_)
  refine wk_getI X dX3_goBy_65 fo_X3_50 hf (fun v3 hf => ?_)
  refine wk_iconst X dX3_goBy_68 ic_1 ?_
  refine wk_isub X dX3_goBy_69 ?_
  refine wk_iload_n X dX3_goBy_70 1 rfl ?_
  refine wk_callVv X [.int (v3 - 1), .int x1] [] dX3_goBy_71 rfl vo_X3_122 rfl (by decide) (Nat.le_of_ble_eq_true rfl) hf (c_X2_set l _ _ _ _) (fun r4 hf => ?_)
  refine wk_aload_n X dX3_goBy_74 0 rfl ?_
  refine wk_dup X dX3_goBy_75 rfl ?_
  refine wk_getI X dX3_goBy_76 fo_X3_9 hf (fun v5 hf => ?_)
  refine wk_iconst X dX3_goBy_79 ic_1 ?_
  refine wk_iadd X dX3_goBy_80 ?_
  refine wk_putI X dX3_goBy_81 fo_X3_9 hf (fun h6 hf => ?_)
  exact wk_return X dX3_goBy_84 hf
def f_X3_goBy_22 (k22 : Nat → Int32 → Int32 → hp_H → Option (hp_H)) (x0 : Nat) (x1 : Int32) (x2 : Int32) (h : hp_H) : Option (hp_H) := (rd_R h x0 3 0).bind fun v1 => (rd_I h v1 1 2).bind fun v2 => if v2 ≤ x2 then (f_X3_goBy_57 x0 x1 h) else ((rd_R h x0 3 5).bind fun v3 => (rd_R h x0 3 5).bind fun v4 => (f_X2_at v4 x2 h).bind fun r5 => (f_X2_set v3 (x2 - 1) r5.1 r5.2).bind fun r6 => k22 x0 x1 (x2 + 1) r6)
set_option maxRecDepth 20000 in
theorem w_X3_goBy_22 (X : wx G p s m args meth c cX3_goBy 3 RX3 none) (k22 : Nat → Int32 → Int32 → hp_H → Option (hp_H)) (hk22 : ∀ (x0 : Nat) (x1 : Int32) (x2 : Int32) (h : hp_H), k22 x0 x1 x2 h = some o → wq p l e (mt_R (7) 0 0) s m args below meth c (MQ below (mt_Q G none o) args s 0 0 (hp_A G)) G 3 0 0 22 [(0, .ref x0), (1, .int x1), (2, .int x2)] [] h) (x0 : Nat) (x1 : Int32) (x2 : Int32) (h : hp_H) (hf : f_X3_goBy_22 k22 x0 x1 x2 h = some o) : wq p l e (mt_R (7) 0 0) s m args below meth c (MQ below (mt_Q G none o) args s 0 0 (hp_A G)) G 3 0 0 22 [(0, .ref x0), (1, .int x1), (2, .int x2)] [] h := by
  unfold f_X3_goBy_22 at hf
  refine wk_iload_n X dX3_goBy_22 2 rfl ?_
  refine wk_aload_n X dX3_goBy_23 0 rfl ?_
  refine wk_getR X dX3_goBy_24 fo_X3_33 hf (fun v1 hf => ?_)
  refine wk_getI X dX3_goBy_27 fo_X3_50 hf (fun v2 hf => ?_)
  refine wk_icmp_ge X 57 dX3_goBy_30 (by decide) hf (fun hf => ?_) (fun hf => ?_)
  · exact wq_sub [0, 1] rfl (w_X3_goBy_57 X _ _ _ hf)
  · refine wk_aload_n X dX3_goBy_33 0 rfl ?_
    refine wk_getR X dX3_goBy_34 fo_X3_30 hf (fun v3 hf => ?_)
    refine wk_iload_n X dX3_goBy_37 2 rfl ?_
    refine wk_iconst X dX3_goBy_38 ic_1 ?_
    refine wk_isub X dX3_goBy_39 ?_
    refine wk_aload_n X dX3_goBy_40 0 rfl ?_
    refine wk_getR X dX3_goBy_41 fo_X3_30 hf (fun v4 hf => ?_)
    refine wk_iload_n X dX3_goBy_44 2 rfl ?_
    refine wk_callVi X [.int x2] [.int (x2 - 1), .ref v3] dX3_goBy_45 rfl vo_X3_52 rfl (by decide) (Nat.le_of_ble_eq_true rfl) hf (c_X2_at l _ _ _) (fun r5 hf => ?_)
    refine wk_callVv X [.int (x2 - 1), .int r5.1] [] dX3_goBy_48 rfl vo_X3_122 rfl (by decide) (Nat.le_of_ble_eq_true rfl) hf (c_X2_set l _ _ _ _) (fun r6 hf => ?_)
    refine wk_iinc (lv' := [(2, .int (x2 + 1)), (0, .ref x0), (1, .int x1)]) X dX3_goBy_51 2 rfl ic_1 (by decide) rfl ?_
    refine wk_goto X 22 dX3_goBy_54 (by decide) ?_
    exact wq_sub [1, 2, 0] rfl (hk22 _ _ _ _ hf)
def l_X3_goBy_22 (x0 : Nat) (x1 : Int32) (x2 : Int32) (h : hp_H) : Option (hp_H) := lp (fun k (s : Nat × Int32 × Int32 × hp_H) => f_X3_goBy_22  (fun a0 a1 a2 a3 => k (a0, a1, a2, a3)) s.1 s.2.1 s.2.2.1 s.2.2.2) 100000 (x0, x1, x2, h)
theorem wl_X3_goBy_22 (X : wx G p s m args meth c cX3_goBy 3 RX3 none) (x0 : Nat) (x1 : Int32) (x2 : Int32) (h : hp_H) (hf : l_X3_goBy_22 x0 x1 x2 h = some o) : wq p l e (mt_R (7) 0 0) s m args below meth c (MQ below (mt_Q G none o) args s 0 0 (hp_A G)) G 3 0 0 22 [(0, .ref x0), (1, .int x1), (2, .int x2)] [] h :=
  lp_ind (P := fun (s_ : Nat × Int32 × Int32 × hp_H) => wq p l e (mt_R (7) 0 0) s m args below meth c (MQ below (mt_Q G none o) args s 0 0 (hp_A G)) G 3 0 0 22 [(0, .ref s_.1), (1, .int s_.2.1), (2, .int s_.2.2.1)] [] s_.2.2.2) (fun k s hk hf => w_X3_goBy_22 X  (fun a0 a1 a2 a3 => k (a0, a1, a2, a3)) (fun a0 a1 a2 a3 hf => hk (a0, a1, a2, a3) hf) s.1 s.2.1 s.2.2.1 s.2.2.2 hf) 100000 (x0, x1, x2, h) hf
end Sf_X3_goBy
def f_X3_goBy (x0 : Nat) (h : hp_H) : Option (hp_H) := gd h x0 3 ((f_X3_mudIn x0 0 h).bind fun r1 => (f_X3_parade x0 0 r1.1 r1.2).bind fun r2 => (rd_R r2.2 x0 3 5).bind fun v3 => (f_X2_at v3 0 r2.2).bind fun r4 => l_X3_goBy_22 x0 r4.1 1 r4.2)
set_option maxRecDepth 20000 in
theorem c_X3_goBy (l : Launch) (x0 : Nat) (h : hp_H) (r : hp_H) (hf : f_X3_goBy x0 h = some r) : cv l (7) yX3_goBy cX3_goBy 3 none 3 x0 [] h none r := by
  unfold f_X3_goBy at hf
  refine cv_of (lv := [(0, .ref x0)]) hf (by decide +kernel) (Nat.le_of_ble_eq_true rfl) rfl (fun hf p e s m args below meth c G X => ?_)
  refine wk_aload_n X dX3_goBy_0 0 rfl ?_
  refine wk_iconst X dX3_goBy_1 ic_0 ?_
  refine wk_aload_n X dX3_goBy_2 0 rfl ?_
  refine wk_iconst X dX3_goBy_3 ic_0 ?_
  refine wk_callVi X [.int 0] [.int 0, .ref x0] dX3_goBy_4 rfl vo_X3_62 rfl (by decide) (Nat.le_of_ble_eq_true rfl) hf (c_X3_mudIn l _ _ _) (fun r1 hf => ?_)
  refine wk_callVi X [.int 0, .int r1.1] [] dX3_goBy_7 rfl vo_X3_125 rfl (by decide) (Nat.le_of_ble_eq_true rfl) hf (c_X3_parade l _ _ _ _) (fun r2 hf => ?_)
  refine wk_pop X dX3_goBy_10 rfl ?_
  refine wk_aload_n X dX3_goBy_11 0 rfl ?_
  refine wk_getR X dX3_goBy_12 fo_X3_30 hf (fun v3 hf => ?_)
  refine wk_iconst X dX3_goBy_15 ic_0 ?_
  refine wk_callVi X [.int 0] [] dX3_goBy_16 rfl vo_X3_52 rfl (by decide) (Nat.le_of_ble_eq_true rfl) hf (c_X2_at l _ _ _) (fun r4 hf => ?_)
  refine wk_istore_n (lv' := [(1, .int r4.1), (0, .ref x0)]) X dX3_goBy_19 (by decide) rfl ?_
  refine wk_iconst X dX3_goBy_20 ic_1 ?_
  refine wk_istore_n (lv' := [(2, .int 1), (1, .int r4.1), (0, .ref x0)]) X dX3_goBy_21 (by decide) rfl ?_
  exact wq_sub [2, 1, 0] rfl (wl_X3_goBy_22 X _ _ _ _ hf)
section Sf_X3_honourAfter
variable {p : Program} {l : Launch} {e : Env} {s : State} {m : MethodId} {args : Array Value} {below : List Frame} {meth : Method} {c : Code} {G : hp_G} {o : Int32 × hp_H}
def f_X3_honourAfter_40 (x3 : Int32) (h : hp_H) : Option (Int32 × hp_H) := some (hp_min 99 x3, h)
set_option maxRecDepth 20000 in
theorem w_X3_honourAfter_40 (X : wx G p s m args meth c cX3_honourAfter 5 RX3 (some .int)) (x3 : Int32) (h : hp_H) (hf : f_X3_honourAfter_40 x3 h = some o) : wq p l e (mt_R (7) 0 0) s m args below meth c (MQ below (mt_Q G (some (.int o.1)) o.2) args s 0 0 (hp_A G)) G 5 0 0 40 [(3, .int x3)] [] h := by
  unfold f_X3_honourAfter_40 at hf
  refine wk_bipush X dX3_honourAfter_40 ib_99 ?_
  refine wk_iload_n X dX3_honourAfter_42 0 rfl ?_
  refine wk_min X dX3_honourAfter_43 ml_X3_117 (by decide) (Nat.le_of_ble_eq_true rfl) ?_
  exact wk_ireturn X dX3_honourAfter_46 hf
def f_X3_honourAfter_12 (k12 : Nat → Int32 → Int32 → Int32 → Int32 → hp_H → Option (Int32 × hp_H)) (x0 : Nat) (x1 : Int32) (x2 : Int32) (x3 : Int32) (x4 : Int32) (h : hp_H) : Option (Int32 × hp_H) := if x2 ≤ x4 then (f_X3_honourAfter_40 x3 h) else ((f_X3_mudIn x0 x4 h).bind fun r1 => (f_X3_timesNamed x0 x1 x4 r1.1 r1.2).bind fun r2 => k12 x0 x1 x2 (x3 + r2.1) (x4 + 1) r2.2)
set_option maxRecDepth 20000 in
theorem w_X3_honourAfter_12 (X : wx G p s m args meth c cX3_honourAfter 5 RX3 (some .int)) (k12 : Nat → Int32 → Int32 → Int32 → Int32 → hp_H → Option (Int32 × hp_H)) (hk12 : ∀ (x0 : Nat) (x1 : Int32) (x2 : Int32) (x3 : Int32) (x4 : Int32) (h : hp_H), k12 x0 x1 x2 x3 x4 h = some o → wq p l e (mt_R (7) 0 0) s m args below meth c (MQ below (mt_Q G (some (.int o.1)) o.2) args s 0 0 (hp_A G)) G 5 0 0 12 [(0, .ref x0), (1, .int x1), (2, .int x2), (3, .int x3), (4, .int x4)] [] h) (x0 : Nat) (x1 : Int32) (x2 : Int32) (x3 : Int32) (x4 : Int32) (h : hp_H) (hf : f_X3_honourAfter_12 k12 x0 x1 x2 x3 x4 h = some o) : wq p l e (mt_R (7) 0 0) s m args below meth c (MQ below (mt_Q G (some (.int o.1)) o.2) args s 0 0 (hp_A G)) G 5 0 0 12 [(0, .ref x0), (1, .int x1), (2, .int x2), (3, .int x3), (4, .int x4)] [] h := by
  unfold f_X3_honourAfter_12 at hf
  refine wk_iload X dX3_honourAfter_12 4 rfl ?_
  refine wk_iload_n X dX3_honourAfter_14 2 rfl ?_
  refine wk_icmp_ge X 40 dX3_honourAfter_15 (by decide) hf (fun hf => ?_) (fun hf => ?_)
  · exact wq_sub [3] rfl (w_X3_honourAfter_40 X _ _ hf)
  · refine wk_iload_n X dX3_honourAfter_18 3 rfl ?_
    refine wk_aload_n X dX3_honourAfter_19 0 rfl ?_
    refine wk_iload_n X dX3_honourAfter_20 1 rfl ?_
    refine wk_iload X dX3_honourAfter_21 4 rfl ?_
    refine wk_aload_n X dX3_honourAfter_23 0 rfl ?_
    refine wk_iload X dX3_honourAfter_24 4 rfl ?_
    refine wk_callVi X [.int x4] [.int x4, .int x1, .ref x0, .int x3] dX3_honourAfter_26 rfl vo_X3_62 rfl (by decide) (Nat.le_of_ble_eq_true rfl) hf (c_X3_mudIn l _ _ _) (fun r1 hf => ?_)
    refine wk_callVi X [.int x1, .int x4, .int r1.1] [.int x3] dX3_honourAfter_29 rfl vo_X3_128 rfl (by decide) (Nat.le_of_ble_eq_true rfl) hf (c_X3_timesNamed l _ _ _ _ _) (fun r2 hf => ?_)
    refine wk_iadd X dX3_honourAfter_32 ?_
    refine wk_istore_n (lv' := [(3, .int (x3 + r2.1)), (0, .ref x0), (1, .int x1), (2, .int x2), (4, .int x4)]) X dX3_honourAfter_33 (by decide) rfl ?_
    refine wk_iinc (lv' := [(4, .int (x4 + 1)), (3, .int (x3 + r2.1)), (0, .ref x0), (1, .int x1), (2, .int x2)]) X dX3_honourAfter_34 4 rfl ic_1 (by decide) rfl ?_
    refine wk_goto X 12 dX3_honourAfter_37 (by decide) ?_
    exact wq_sub [2, 3, 4, 1, 0] rfl (hk12 _ _ _ _ _ _ hf)
def l_X3_honourAfter_12 (x0 : Nat) (x1 : Int32) (x2 : Int32) (x3 : Int32) (x4 : Int32) (h : hp_H) : Option (Int32 × hp_H) := lp (fun k (s : Nat × Int32 × Int32 × Int32 × Int32 × hp_H) => f_X3_honourAfter_12  (fun a0 a1 a2 a3 a4 a5 => k (a0, a1, a2, a3, a4, a5)) s.1 s.2.1 s.2.2.1 s.2.2.2.1 s.2.2.2.2.1 s.2.2.2.2.2) 100000 (x0, x1, x2, x3, x4, h)
theorem wl_X3_honourAfter_12 (X : wx G p s m args meth c cX3_honourAfter 5 RX3 (some .int)) (x0 : Nat) (x1 : Int32) (x2 : Int32) (x3 : Int32) (x4 : Int32) (h : hp_H) (hf : l_X3_honourAfter_12 x0 x1 x2 x3 x4 h = some o) : wq p l e (mt_R (7) 0 0) s m args below meth c (MQ below (mt_Q G (some (.int o.1)) o.2) args s 0 0 (hp_A G)) G 5 0 0 12 [(0, .ref x0), (1, .int x1), (2, .int x2), (3, .int x3), (4, .int x4)] [] h :=
  lp_ind (P := fun (s_ : Nat × Int32 × Int32 × Int32 × Int32 × hp_H) => wq p l e (mt_R (7) 0 0) s m args below meth c (MQ below (mt_Q G (some (.int o.1)) o.2) args s 0 0 (hp_A G)) G 5 0 0 12 [(0, .ref s_.1), (1, .int s_.2.1), (2, .int s_.2.2.1), (3, .int s_.2.2.2.1), (4, .int s_.2.2.2.2.1)] [] s_.2.2.2.2.2) (fun k s hk hf => w_X3_honourAfter_12 X  (fun a0 a1 a2 a3 a4 a5 => k (a0, a1, a2, a3, a4, a5)) (fun a0 a1 a2 a3 a4 a5 hf => hk (a0, a1, a2, a3, a4, a5) hf) s.1 s.2.1 s.2.2.1 s.2.2.2.1 s.2.2.2.2.1 s.2.2.2.2.2 hf) 100000 (x0, x1, x2, x3, x4, h) hf
end Sf_X3_honourAfter
def f_X3_honourAfter (x0 : Nat) (x1 : Int32) (x2 : Int32) (h : hp_H) : Option (Int32 × hp_H) := gd h x0 3 ((rd_R h x0 3 4).bind fun v1 => (f_X2_at v1 x1 h).bind fun r2 => l_X3_honourAfter_12 x0 x1 x2 r2.1 0 r2.2)
set_option maxRecDepth 20000 in
theorem c_X3_honourAfter (l : Launch) (x0 : Nat) (x1 : Int32) (x2 : Int32) (h : hp_H) (r : Int32 × hp_H) (hf : f_X3_honourAfter x0 x1 x2 h = some r) : cv l (7) yX3_honourAfter cX3_honourAfter 5 (some .int) 3 x0 [.int x1, .int x2] h (some (.int r.1)) r.2 := by
  unfold f_X3_honourAfter at hf
  refine cv_of (lv := [(0, .ref x0), (1, .int x1), (2, .int x2)]) hf (by decide +kernel) (Nat.le_of_ble_eq_true rfl) rfl (fun hf p e s m args below meth c G X => ?_)
  refine wk_aload_n X dX3_honourAfter_0 0 rfl ?_
  refine wk_getR X dX3_honourAfter_1 fo_X3_27 hf (fun v1 hf => ?_)
  refine wk_iload_n X dX3_honourAfter_4 1 rfl ?_
  refine wk_callVi X [.int x1] [] dX3_honourAfter_5 rfl vo_X3_52 rfl (by decide) (Nat.le_of_ble_eq_true rfl) hf (c_X2_at l _ _ _) (fun r2 hf => ?_)
  refine wk_istore_n (lv' := [(3, .int r2.1), (0, .ref x0), (1, .int x1), (2, .int x2)]) X dX3_honourAfter_8 (by decide) rfl ?_
  refine wk_iconst X dX3_honourAfter_9 ic_0 ?_
  refine wk_istore (lv' := [(4, .int 0), (3, .int r2.1), (0, .ref x0), (1, .int x1), (2, .int x2)]) X dX3_honourAfter_10 (by decide) rfl ?_
  exact wq_sub [2, 3, 4, 1, 0] rfl (wl_X3_honourAfter_12 X _ _ _ _ _ _ hf)
section Sf_X3_honourOfAll
variable {p : Program} {l : Launch} {e : Env} {s : State} {m : MethodId} {args : Array Value} {below : List Frame} {meth : Method} {c : Code} {G : hp_G} {o : Int32 × hp_H}
def f_X3_honourOfAll_32 (x1 : Int32) (h : hp_H) : Option (Int32 × hp_H) := some (x1, h)
set_option maxRecDepth 20000 in
theorem w_X3_honourOfAll_32 (X : wx G p s m args meth c cX3_honourOfAll 3 RX3 (some .int)) (x1 : Int32) (h : hp_H) (hf : f_X3_honourOfAll_32 x1 h = some o) : wq p l e (mt_R (2) 0 0) s m args below meth c (MQ below (mt_Q G (some (.int o.1)) o.2) args s 0 0 (hp_A G)) G 3 0 0 32 [(1, .int x1)] [] h := by
  unfold f_X3_honourOfAll_32 at hf
  refine wk_iload_n X dX3_honourOfAll_32 0 rfl ?_
  exact wk_ireturn X dX3_honourOfAll_33 hf
def f_X3_honourOfAll_4 (k4 : Nat → Int32 → Int32 → hp_H → Option (Int32 × hp_H)) (x0 : Nat) (x1 : Int32) (x2 : Int32) (h : hp_H) : Option (Int32 × hp_H) := (rd_R h x0 3 0).bind fun v1 => (rd_I h v1 1 1).bind fun v2 => if v2 ≤ x2 then (f_X3_honourOfAll_32 x1 h) else ((rd_R h x0 3 4).bind fun v3 => (f_X2_at v3 x2 h).bind fun r4 => k4 x0 (x1 + r4.1) (x2 + 1) r4.2)
set_option maxRecDepth 20000 in
theorem w_X3_honourOfAll_4 (X : wx G p s m args meth c cX3_honourOfAll 3 RX3 (some .int)) (k4 : Nat → Int32 → Int32 → hp_H → Option (Int32 × hp_H)) (hk4 : ∀ (x0 : Nat) (x1 : Int32) (x2 : Int32) (h : hp_H), k4 x0 x1 x2 h = some o → wq p l e (mt_R (2) 0 0) s m args below meth c (MQ below (mt_Q G (some (.int o.1)) o.2) args s 0 0 (hp_A G)) G 3 0 0 4 [(0, .ref x0), (1, .int x1), (2, .int x2)] [] h) (x0 : Nat) (x1 : Int32) (x2 : Int32) (h : hp_H) (hf : f_X3_honourOfAll_4 k4 x0 x1 x2 h = some o) : wq p l e (mt_R (2) 0 0) s m args below meth c (MQ below (mt_Q G (some (.int o.1)) o.2) args s 0 0 (hp_A G)) G 3 0 0 4 [(0, .ref x0), (1, .int x1), (2, .int x2)] [] h := by
  unfold f_X3_honourOfAll_4 at hf
  refine wk_iload_n X dX3_honourOfAll_4 2 rfl ?_
  refine wk_aload_n X dX3_honourOfAll_5 0 rfl ?_
  refine wk_getR X dX3_honourOfAll_6 fo_X3_33 hf (fun v1 hf => ?_)
  refine wk_getI X dX3_honourOfAll_9 fo_X3_104 hf (fun v2 hf => ?_)
  refine wk_icmp_ge X 32 dX3_honourOfAll_12 (by decide) hf (fun hf => ?_) (fun hf => ?_)
  · exact wq_sub [1] rfl (w_X3_honourOfAll_32 X _ _ hf)
  · refine wk_iload_n X dX3_honourOfAll_15 1 rfl ?_
    refine wk_aload_n X dX3_honourOfAll_16 0 rfl ?_
    refine wk_getR X dX3_honourOfAll_17 fo_X3_27 hf (fun v3 hf => ?_)
    refine wk_iload_n X dX3_honourOfAll_20 2 rfl ?_
    refine wk_callVi X [.int x2] [.int x1] dX3_honourOfAll_21 rfl vo_X3_52 rfl (by decide) (Nat.le_of_ble_eq_true rfl) hf (c_X2_at l _ _ _) (fun r4 hf => ?_)
    refine wk_iadd X dX3_honourOfAll_24 ?_
    refine wk_istore_n (lv' := [(1, .int (x1 + r4.1)), (0, .ref x0), (2, .int x2)]) X dX3_honourOfAll_25 (by decide) rfl ?_
    refine wk_iinc (lv' := [(2, .int (x2 + 1)), (1, .int (x1 + r4.1)), (0, .ref x0)]) X dX3_honourOfAll_26 2 rfl ic_1 (by decide) rfl ?_
    refine wk_goto X 4 dX3_honourOfAll_29 (by decide) ?_
    exact wq_sub [2, 1, 0] rfl (hk4 _ _ _ _ hf)
def l_X3_honourOfAll_4 (x0 : Nat) (x1 : Int32) (x2 : Int32) (h : hp_H) : Option (Int32 × hp_H) := lp (fun k (s : Nat × Int32 × Int32 × hp_H) => f_X3_honourOfAll_4  (fun a0 a1 a2 a3 => k (a0, a1, a2, a3)) s.1 s.2.1 s.2.2.1 s.2.2.2) 100000 (x0, x1, x2, h)
theorem wl_X3_honourOfAll_4 (X : wx G p s m args meth c cX3_honourOfAll 3 RX3 (some .int)) (x0 : Nat) (x1 : Int32) (x2 : Int32) (h : hp_H) (hf : l_X3_honourOfAll_4 x0 x1 x2 h = some o) : wq p l e (mt_R (2) 0 0) s m args below meth c (MQ below (mt_Q G (some (.int o.1)) o.2) args s 0 0 (hp_A G)) G 3 0 0 4 [(0, .ref x0), (1, .int x1), (2, .int x2)] [] h :=
  lp_ind (P := fun (s_ : Nat × Int32 × Int32 × hp_H) => wq p l e (mt_R (2) 0 0) s m args below meth c (MQ below (mt_Q G (some (.int o.1)) o.2) args s 0 0 (hp_A G)) G 3 0 0 4 [(0, .ref s_.1), (1, .int s_.2.1), (2, .int s_.2.2.1)] [] s_.2.2.2) (fun k s hk hf => w_X3_honourOfAll_4 X  (fun a0 a1 a2 a3 => k (a0, a1, a2, a3)) (fun a0 a1 a2 a3 hf => hk (a0, a1, a2, a3) hf) s.1 s.2.1 s.2.2.1 s.2.2.2 hf) 100000 (x0, x1, x2, h) hf
end Sf_X3_honourOfAll
def f_X3_honourOfAll (x0 : Nat) (h : hp_H) : Option (Int32 × hp_H) := gd h x0 3 (l_X3_honourOfAll_4 x0 0 0 h)
set_option maxRecDepth 20000 in
theorem c_X3_honourOfAll (l : Launch) (x0 : Nat) (h : hp_H) (r : Int32 × hp_H) (hf : f_X3_honourOfAll x0 h = some r) : cv l (2) yX3_honourOfAll cX3_honourOfAll 3 (some .int) 3 x0 [] h (some (.int r.1)) r.2 := by
  unfold f_X3_honourOfAll at hf
  refine cv_of (lv := [(0, .ref x0)]) hf (by decide +kernel) (Nat.le_of_ble_eq_true rfl) rfl (fun hf p e s m args below meth c G X => ?_)
  refine wk_iconst X dX3_honourOfAll_0 ic_0 ?_
  refine wk_istore_n (lv' := [(1, .int 0), (0, .ref x0)]) X dX3_honourOfAll_1 (by decide) rfl ?_
  refine wk_iconst X dX3_honourOfAll_2 ic_0 ?_
  refine wk_istore_n (lv' := [(2, .int 0), (1, .int 0), (0, .ref x0)]) X dX3_honourOfAll_3 (by decide) rfl ?_
  exact wq_sub [2, 1, 0] rfl (wl_X3_honourOfAll_4 X _ _ _ _ hf)
section Sf_X3_mostHonoured
variable {p : Program} {l : Launch} {e : Env} {s : State} {m : MethodId} {args : Array Value} {below : List Frame} {meth : Method} {c : Code} {G : hp_G} {o : Int32 × hp_H}
def f_X3_mostHonoured_46 (x1 : Int32) (h : hp_H) : Option (Int32 × hp_H) := some (x1, h)
set_option maxRecDepth 20000 in
theorem w_X3_mostHonoured_46 (X : wx G p s m args meth c cX3_mostHonoured 4 RX3 (some .int)) (x1 : Int32) (h : hp_H) (hf : f_X3_mostHonoured_46 x1 h = some o) : wq p l e (mt_R (2) 0 0) s m args below meth c (MQ below (mt_Q G (some (.int o.1)) o.2) args s 0 0 (hp_A G)) G 4 0 0 46 [(1, .int x1)] [] h := by
  unfold f_X3_mostHonoured_46 at hf
  refine wk_iload_n X dX3_mostHonoured_46 0 rfl ?_
  exact wk_ireturn X dX3_mostHonoured_47 hf
def f_X3_mostHonoured_40 (k6 : Nat → Int32 → Int32 → Int32 → hp_H → Option (Int32 × hp_H)) (x0 : Nat) (x1 : Int32) (x2 : Int32) (x3 : Int32) (h : hp_H) : Option (Int32 × hp_H) := k6 x0 x1 x2 (x3 + 1) h
set_option maxRecDepth 20000 in
theorem w_X3_mostHonoured_40 (X : wx G p s m args meth c cX3_mostHonoured 4 RX3 (some .int)) (k6 : Nat → Int32 → Int32 → Int32 → hp_H → Option (Int32 × hp_H)) (hk6 : ∀ (x0 : Nat) (x1 : Int32) (x2 : Int32) (x3 : Int32) (h : hp_H), k6 x0 x1 x2 x3 h = some o → wq p l e (mt_R (2) 0 0) s m args below meth c (MQ below (mt_Q G (some (.int o.1)) o.2) args s 0 0 (hp_A G)) G 4 0 0 6 [(0, .ref x0), (1, .int x1), (2, .int x2), (3, .int x3)] [] h) (x0 : Nat) (x1 : Int32) (x2 : Int32) (x3 : Int32) (h : hp_H) (hf : f_X3_mostHonoured_40 k6 x0 x1 x2 x3 h = some o) : wq p l e (mt_R (2) 0 0) s m args below meth c (MQ below (mt_Q G (some (.int o.1)) o.2) args s 0 0 (hp_A G)) G 4 0 0 40 [(0, .ref x0), (1, .int x1), (2, .int x2), (3, .int x3)] [] h := by
  unfold f_X3_mostHonoured_40 at hf
  refine wk_iinc (lv' := [(3, .int (x3 + 1)), (0, .ref x0), (1, .int x1), (2, .int x2)]) X dX3_mostHonoured_40 3 rfl ic_1 (by decide) rfl ?_
  refine wk_goto X 6 dX3_mostHonoured_43 (by decide) ?_
  exact wq_sub [1, 2, 3, 0] rfl (hk6 _ _ _ _ _ hf)
def f_X3_mostHonoured_6 (k6 : Nat → Int32 → Int32 → Int32 → hp_H → Option (Int32 × hp_H)) (x0 : Nat) (x1 : Int32) (x2 : Int32) (x3 : Int32) (h : hp_H) : Option (Int32 × hp_H) := (rd_R h x0 3 0).bind fun v1 => (rd_I h v1 1 1).bind fun v2 => if v2 ≤ x3 then (f_X3_mostHonoured_46 x1 h) else ((rd_R h x0 3 4).bind fun v3 => (f_X2_at v3 x3 h).bind fun r4 => if r4.1 ≤ x2 then (f_X3_mostHonoured_40 k6 x0 x1 x2 x3 r4.2) else ((rd_R r4.2 x0 3 4).bind fun v5 => (f_X2_at v5 x3 r4.2).bind fun r6 => f_X3_mostHonoured_40 k6 x0 x3 r6.1 x3 r6.2))
set_option maxRecDepth 20000 in
theorem w_X3_mostHonoured_6 (X : wx G p s m args meth c cX3_mostHonoured 4 RX3 (some .int)) (k6 : Nat → Int32 → Int32 → Int32 → hp_H → Option (Int32 × hp_H)) (hk6 : ∀ (x0 : Nat) (x1 : Int32) (x2 : Int32) (x3 : Int32) (h : hp_H), k6 x0 x1 x2 x3 h = some o → wq p l e (mt_R (2) 0 0) s m args below meth c (MQ below (mt_Q G (some (.int o.1)) o.2) args s 0 0 (hp_A G)) G 4 0 0 6 [(0, .ref x0), (1, .int x1), (2, .int x2), (3, .int x3)] [] h) (x0 : Nat) (x1 : Int32) (x2 : Int32) (x3 : Int32) (h : hp_H) (hf : f_X3_mostHonoured_6 k6 x0 x1 x2 x3 h = some o) : wq p l e (mt_R (2) 0 0) s m args below meth c (MQ below (mt_Q G (some (.int o.1)) o.2) args s 0 0 (hp_A G)) G 4 0 0 6 [(0, .ref x0), (1, .int x1), (2, .int x2), (3, .int x3)] [] h := by
  unfold f_X3_mostHonoured_6 at hf
  refine wk_iload_n X dX3_mostHonoured_6 3 rfl ?_
  refine wk_aload_n X dX3_mostHonoured_7 0 rfl ?_
  refine wk_getR X dX3_mostHonoured_8 fo_X3_33 hf (fun v1 hf => ?_)
  refine wk_getI X dX3_mostHonoured_11 fo_X3_104 hf (fun v2 hf => ?_)
  refine wk_icmp_ge X 46 dX3_mostHonoured_14 (by decide) hf (fun hf => ?_) (fun hf => ?_)
  · exact wq_sub [1] rfl (w_X3_mostHonoured_46 X _ _ hf)
  · refine wk_aload_n X dX3_mostHonoured_17 0 rfl ?_
    refine wk_getR X dX3_mostHonoured_18 fo_X3_27 hf (fun v3 hf => ?_)
    refine wk_iload_n X dX3_mostHonoured_21 3 rfl ?_
    refine wk_callVi X [.int x3] [] dX3_mostHonoured_22 rfl vo_X3_52 rfl (by decide) (Nat.le_of_ble_eq_true rfl) hf (c_X2_at l _ _ _) (fun r4 hf => ?_)
    refine wk_iload_n X dX3_mostHonoured_25 2 rfl ?_
    refine wk_icmp_le X 40 dX3_mostHonoured_26 (by decide) hf (fun hf => ?_) (fun hf => ?_)
    · exact wq_sub [0, 1, 2, 3] rfl (w_X3_mostHonoured_40 X k6 hk6 _ _ _ _ _ hf)
    · refine wk_aload_n X dX3_mostHonoured_29 0 rfl ?_
      refine wk_getR X dX3_mostHonoured_30 fo_X3_27 hf (fun v5 hf => ?_)
      refine wk_iload_n X dX3_mostHonoured_33 3 rfl ?_
      refine wk_callVi X [.int x3] [] dX3_mostHonoured_34 rfl vo_X3_52 rfl (by decide) (Nat.le_of_ble_eq_true rfl) hf (c_X2_at l _ _ _) (fun r6 hf => ?_)
      refine wk_istore_n (lv' := [(2, .int r6.1), (0, .ref x0), (1, .int x1), (3, .int x3)]) X dX3_mostHonoured_37 (by decide) rfl ?_
      refine wk_iload_n X dX3_mostHonoured_38 3 rfl ?_
      refine wk_istore_n (lv' := [(1, .int x3), (2, .int r6.1), (0, .ref x0), (3, .int x3)]) X dX3_mostHonoured_39 (by decide) rfl ?_
      exact wq_sub [2, 0, 1, 3] rfl (w_X3_mostHonoured_40 X k6 hk6 _ _ _ _ _ hf)
def l_X3_mostHonoured_6 (x0 : Nat) (x1 : Int32) (x2 : Int32) (x3 : Int32) (h : hp_H) : Option (Int32 × hp_H) := lp (fun k (s : Nat × Int32 × Int32 × Int32 × hp_H) => f_X3_mostHonoured_6  (fun a0 a1 a2 a3 a4 => k (a0, a1, a2, a3, a4)) s.1 s.2.1 s.2.2.1 s.2.2.2.1 s.2.2.2.2) 100000 (x0, x1, x2, x3, h)
theorem wl_X3_mostHonoured_6 (X : wx G p s m args meth c cX3_mostHonoured 4 RX3 (some .int)) (x0 : Nat) (x1 : Int32) (x2 : Int32) (x3 : Int32) (h : hp_H) (hf : l_X3_mostHonoured_6 x0 x1 x2 x3 h = some o) : wq p l e (mt_R (2) 0 0) s m args below meth c (MQ below (mt_Q G (some (.int o.1)) o.2) args s 0 0 (hp_A G)) G 4 0 0 6 [(0, .ref x0), (1, .int x1), (2, .int x2), (3, .int x3)] [] h :=
  lp_ind (P := fun (s_ : Nat × Int32 × Int32 × Int32 × hp_H) => wq p l e (mt_R (2) 0 0) s m args below meth c (MQ below (mt_Q G (some (.int o.1)) o.2) args s 0 0 (hp_A G)) G 4 0 0 6 [(0, .ref s_.1), (1, .int s_.2.1), (2, .int s_.2.2.1), (3, .int s_.2.2.2.1)] [] s_.2.2.2.2) (fun k s hk hf => w_X3_mostHonoured_6 X  (fun a0 a1 a2 a3 a4 => k (a0, a1, a2, a3, a4)) (fun a0 a1 a2 a3 a4 hf => hk (a0, a1, a2, a3, a4) hf) s.1 s.2.1 s.2.2.1 s.2.2.2.1 s.2.2.2.2 hf) 100000 (x0, x1, x2, x3, h) hf
end Sf_X3_mostHonoured
def f_X3_mostHonoured (x0 : Nat) (h : hp_H) : Option (Int32 × hp_H) := gd h x0 3 (l_X3_mostHonoured_6 x0 (-1) (-1) 0 h)
set_option maxRecDepth 20000 in
theorem c_X3_mostHonoured (l : Launch) (x0 : Nat) (h : hp_H) (r : Int32 × hp_H) (hf : f_X3_mostHonoured x0 h = some r) : cv l (2) yX3_mostHonoured cX3_mostHonoured 4 (some .int) 3 x0 [] h (some (.int r.1)) r.2 := by
  unfold f_X3_mostHonoured at hf
  refine cv_of (lv := [(0, .ref x0)]) hf (by decide +kernel) (Nat.le_of_ble_eq_true rfl) rfl (fun hf p e s m args below meth c G X => ?_)
  refine wk_iconst X dX3_mostHonoured_0 ic_m1 ?_
  refine wk_istore_n (lv' := [(1, .int (-1)), (0, .ref x0)]) X dX3_mostHonoured_1 (by decide) rfl ?_
  refine wk_iconst X dX3_mostHonoured_2 ic_m1 ?_
  refine wk_istore_n (lv' := [(2, .int (-1)), (1, .int (-1)), (0, .ref x0)]) X dX3_mostHonoured_3 (by decide) rfl ?_
  refine wk_iconst X dX3_mostHonoured_4 ic_0 ?_
  refine wk_istore_n (lv' := [(3, .int 0), (2, .int (-1)), (1, .int (-1)), (0, .ref x0)]) X dX3_mostHonoured_5 (by decide) rfl ?_
  exact wq_sub [3, 2, 1, 0] rfl (wl_X3_mostHonoured_6 X _ _ _ _ _ hf)
section Sf_X3_rowOf
variable {p : Program} {l : Launch} {e : Env} {s : State} {m : MethodId} {args : Array Value} {below : List Frame} {meth : Method} {c : Code} {G : hp_G} {o : Int32 × hp_H}
def f_X3_rowOf_36  (h : hp_H) : Option (Int32 × hp_H) := some ((-1), h)
set_option maxRecDepth 20000 in
theorem w_X3_rowOf_36 (X : wx G p s m args meth c cX3_rowOf 3 RX3 (some .int))  (h : hp_H) (hf : f_X3_rowOf_36 h = some o) : wq p l e (mt_R (2) 0 0) s m args below meth c (MQ below (mt_Q G (some (.int o.1)) o.2) args s 0 0 (hp_A G)) G 3 0 0 36 [] [] h := by
  unfold f_X3_rowOf_36 at hf
  refine wk_iconst X dX3_rowOf_36 ic_m1 ?_
  exact wk_ireturn X dX3_rowOf_37 hf
def f_X3_rowOf_28 (x2 : Int32) (h : hp_H) : Option (Int32 × hp_H) := some (x2, h)
set_option maxRecDepth 20000 in
theorem w_X3_rowOf_28 (X : wx G p s m args meth c cX3_rowOf 3 RX3 (some .int)) (x2 : Int32) (h : hp_H) (hf : f_X3_rowOf_28 x2 h = some o) : wq p l e (mt_R (2) 0 0) s m args below meth c (MQ below (mt_Q G (some (.int o.1)) o.2) args s 0 0 (hp_A G)) G 3 0 0 28 [(2, .int x2)] [] h := by
  unfold f_X3_rowOf_28 at hf
  refine wk_iload_n X dX3_rowOf_28 0 rfl ?_
  exact wk_ireturn X dX3_rowOf_29 hf
def f_X3_rowOf_2 (k2 : Nat → Int32 → Int32 → hp_H → Option (Int32 × hp_H)) (x0 : Nat) (x1 : Int32) (x2 : Int32) (h : hp_H) : Option (Int32 × hp_H) := (rd_R h x0 3 0).bind fun v1 => (rd_I h v1 1 2).bind fun v2 => if v2 ≤ x2 then (f_X3_rowOf_36 h) else ((rd_R h x0 3 5).bind fun v3 => (f_X2_at v3 x2 h).bind fun r4 => (f_X10_holds r4.1 x1 r4.2).bind fun r5 => if r5.1 = 0 then (k2 x0 x1 (x2 + 1) r5.2) else (f_X3_rowOf_28 x2 r5.2))
set_option maxRecDepth 20000 in
theorem w_X3_rowOf_2 (X : wx G p s m args meth c cX3_rowOf 3 RX3 (some .int)) (k2 : Nat → Int32 → Int32 → hp_H → Option (Int32 × hp_H)) (hk2 : ∀ (x0 : Nat) (x1 : Int32) (x2 : Int32) (h : hp_H), k2 x0 x1 x2 h = some o → wq p l e (mt_R (2) 0 0) s m args below meth c (MQ below (mt_Q G (some (.int o.1)) o.2) args s 0 0 (hp_A G)) G 3 0 0 2 [(0, .ref x0), (1, .int x1), (2, .int x2)] [] h) (x0 : Nat) (x1 : Int32) (x2 : Int32) (h : hp_H) (hf : f_X3_rowOf_2 k2 x0 x1 x2 h = some o) : wq p l e (mt_R (2) 0 0) s m args below meth c (MQ below (mt_Q G (some (.int o.1)) o.2) args s 0 0 (hp_A G)) G 3 0 0 2 [(0, .ref x0), (1, .int x1), (2, .int x2)] [] h := by
  unfold f_X3_rowOf_2 at hf
  refine wk_iload_n X dX3_rowOf_2 2 rfl ?_
  refine wk_aload_n X dX3_rowOf_3 0 rfl ?_
  refine wk_getR X dX3_rowOf_4 fo_X3_33 hf (fun v1 hf => ?_)
  refine wk_getI X dX3_rowOf_7 fo_X3_50 hf (fun v2 hf => ?_)
  refine wk_icmp_ge X 36 dX3_rowOf_10 (by decide) hf (fun hf => ?_) (fun hf => ?_)
  · exact wq_sub [] rfl (w_X3_rowOf_36 X _ hf)
  · refine wk_aload_n X dX3_rowOf_13 0 rfl ?_
    refine wk_getR X dX3_rowOf_14 fo_X3_30 hf (fun v3 hf => ?_)
    refine wk_iload_n X dX3_rowOf_17 2 rfl ?_
    refine wk_callVi X [.int x2] [] dX3_rowOf_18 rfl vo_X3_52 rfl (by decide) (Nat.le_of_ble_eq_true rfl) hf (c_X2_at l _ _ _) (fun r4 hf => ?_)
    refine wk_iload_n X dX3_rowOf_21 1 rfl ?_
    refine wk_callSNi X [.int r4.1, .int x1] [] dX3_rowOf_22 rfl vo_X3_107 rfl (by decide) (Nat.le_of_ble_eq_true rfl) hf (c_X10_holds l _ _ _) (fun r5 hf => ?_)
    refine wk_if_eq X 30 dX3_rowOf_25 (by decide) hf (fun hf => ?_) (fun hf => ?_)
    · refine wk_iinc (lv' := [(2, .int (x2 + 1)), (0, .ref x0), (1, .int x1)]) X dX3_rowOf_30 2 rfl ic_1 (by decide) rfl ?_
      refine wk_goto X 2 dX3_rowOf_33 (by decide) ?_
      exact wq_sub [1, 2, 0] rfl (hk2 _ _ _ _ hf)
    · exact wq_sub [2] rfl (w_X3_rowOf_28 X _ _ hf)
def l_X3_rowOf_2 (x0 : Nat) (x1 : Int32) (x2 : Int32) (h : hp_H) : Option (Int32 × hp_H) := lp (fun k (s : Nat × Int32 × Int32 × hp_H) => f_X3_rowOf_2  (fun a0 a1 a2 a3 => k (a0, a1, a2, a3)) s.1 s.2.1 s.2.2.1 s.2.2.2) 100000 (x0, x1, x2, h)
theorem wl_X3_rowOf_2 (X : wx G p s m args meth c cX3_rowOf 3 RX3 (some .int)) (x0 : Nat) (x1 : Int32) (x2 : Int32) (h : hp_H) (hf : l_X3_rowOf_2 x0 x1 x2 h = some o) : wq p l e (mt_R (2) 0 0) s m args below meth c (MQ below (mt_Q G (some (.int o.1)) o.2) args s 0 0 (hp_A G)) G 3 0 0 2 [(0, .ref x0), (1, .int x1), (2, .int x2)] [] h :=
  lp_ind (P := fun (s_ : Nat × Int32 × Int32 × hp_H) => wq p l e (mt_R (2) 0 0) s m args below meth c (MQ below (mt_Q G (some (.int o.1)) o.2) args s 0 0 (hp_A G)) G 3 0 0 2 [(0, .ref s_.1), (1, .int s_.2.1), (2, .int s_.2.2.1)] [] s_.2.2.2) (fun k s hk hf => w_X3_rowOf_2 X  (fun a0 a1 a2 a3 => k (a0, a1, a2, a3)) (fun a0 a1 a2 a3 hf => hk (a0, a1, a2, a3) hf) s.1 s.2.1 s.2.2.1 s.2.2.2 hf) 100000 (x0, x1, x2, h) hf
end Sf_X3_rowOf
def f_X3_rowOf (x0 : Nat) (x1 : Int32) (h : hp_H) : Option (Int32 × hp_H) := gd h x0 3 (l_X3_rowOf_2 x0 x1 0 h)
set_option maxRecDepth 20000 in
theorem c_X3_rowOf (l : Launch) (x0 : Nat) (x1 : Int32) (h : hp_H) (r : Int32 × hp_H) (hf : f_X3_rowOf x0 x1 h = some r) : cv l (2) yX3_rowOf cX3_rowOf 3 (some .int) 3 x0 [.int x1] h (some (.int r.1)) r.2 := by
  unfold f_X3_rowOf at hf
  refine cv_of (lv := [(0, .ref x0), (1, .int x1)]) hf (by decide +kernel) (Nat.le_of_ble_eq_true rfl) rfl (fun hf p e s m args below meth c G X => ?_)
  refine wk_iconst X dX3_rowOf_0 ic_0 ?_
  refine wk_istore_n (lv' := [(2, .int 0), (0, .ref x0), (1, .int x1)]) X dX3_rowOf_1 (by decide) rfl ?_
  exact wq_sub [1, 2, 0] rfl (wl_X3_rowOf_2 X _ _ _ _ hf)
section Sf_X3_menInCamp
variable {p : Program} {l : Launch} {e : Env} {s : State} {m : MethodId} {args : Array Value} {below : List Frame} {meth : Method} {c : Code} {G : hp_G} {o : Int32 × hp_H}
def f_X3_menInCamp_40 (x1 : Int32) (h : hp_H) : Option (Int32 × hp_H) := some (x1, h)
set_option maxRecDepth 20000 in
theorem w_X3_menInCamp_40 (X : wx G p s m args meth c cX3_menInCamp 3 RX3 (some .int)) (x1 : Int32) (h : hp_H) (hf : f_X3_menInCamp_40 x1 h = some o) : wq p l e (mt_R (2) 0 0) s m args below meth c (MQ below (mt_Q G (some (.int o.1)) o.2) args s 0 0 (hp_A G)) G 3 0 0 40 [(1, .int x1)] [] h := by
  unfold f_X3_menInCamp_40 at hf
  refine wk_iload_n X dX3_menInCamp_40 0 rfl ?_
  exact wk_ireturn X dX3_menInCamp_41 hf
def f_X3_menInCamp_10 (k10 : Nat → Int32 → Int32 → hp_H → Option (Int32 × hp_H)) (x0 : Nat) (x1 : Int32) (x2 : Int32) (h : hp_H) : Option (Int32 × hp_H) := (rd_R h x0 3 0).bind fun v1 => (rd_I h v1 1 2).bind fun v2 => if v2 ≤ x2 then (f_X3_menInCamp_40 x1 h) else ((rd_R h x0 3 5).bind fun v3 => (f_X2_at v3 x2 h).bind fun r4 => k10 x0 (x1 &&& (r4.1 ^^^ (-1))) (x2 + 1) r4.2)
set_option maxRecDepth 20000 in
theorem w_X3_menInCamp_10 (X : wx G p s m args meth c cX3_menInCamp 3 RX3 (some .int)) (k10 : Nat → Int32 → Int32 → hp_H → Option (Int32 × hp_H)) (hk10 : ∀ (x0 : Nat) (x1 : Int32) (x2 : Int32) (h : hp_H), k10 x0 x1 x2 h = some o → wq p l e (mt_R (2) 0 0) s m args below meth c (MQ below (mt_Q G (some (.int o.1)) o.2) args s 0 0 (hp_A G)) G 3 0 0 10 [(0, .ref x0), (1, .int x1), (2, .int x2)] [] h) (x0 : Nat) (x1 : Int32) (x2 : Int32) (h : hp_H) (hf : f_X3_menInCamp_10 k10 x0 x1 x2 h = some o) : wq p l e (mt_R (2) 0 0) s m args below meth c (MQ below (mt_Q G (some (.int o.1)) o.2) args s 0 0 (hp_A G)) G 3 0 0 10 [(0, .ref x0), (1, .int x1), (2, .int x2)] [] h := by
  unfold f_X3_menInCamp_10 at hf
  refine wk_iload_n X dX3_menInCamp_10 2 rfl ?_
  refine wk_aload_n X dX3_menInCamp_11 0 rfl ?_
  refine wk_getR X dX3_menInCamp_12 fo_X3_33 hf (fun v1 hf => ?_)
  refine wk_getI X dX3_menInCamp_15 fo_X3_50 hf (fun v2 hf => ?_)
  refine wk_icmp_ge X 40 dX3_menInCamp_18 (by decide) hf (fun hf => ?_) (fun hf => ?_)
  · exact wq_sub [1] rfl (w_X3_menInCamp_40 X _ _ hf)
  · refine wk_iload_n X dX3_menInCamp_21 1 rfl ?_
    refine wk_aload_n X dX3_menInCamp_22 0 rfl ?_
    refine wk_getR X dX3_menInCamp_23 fo_X3_30 hf (fun v3 hf => ?_)
    refine wk_iload_n X dX3_menInCamp_26 2 rfl ?_
    refine wk_callVi X [.int x2] [.int x1] dX3_menInCamp_27 rfl vo_X3_52 rfl (by decide) (Nat.le_of_ble_eq_true rfl) hf (c_X2_at l _ _ _) (fun r4 hf => ?_)
    refine wk_iconst X dX3_menInCamp_30 ic_m1 ?_
    refine wk_ixor X dX3_menInCamp_31 ?_
    refine wk_iand X dX3_menInCamp_32 ?_
    refine wk_istore_n (lv' := [(1, .int (x1 &&& (r4.1 ^^^ (-1)))), (0, .ref x0), (2, .int x2)]) X dX3_menInCamp_33 (by decide) rfl ?_
    refine wk_iinc (lv' := [(2, .int (x2 + 1)), (1, .int (x1 &&& (r4.1 ^^^ (-1)))), (0, .ref x0)]) X dX3_menInCamp_34 2 rfl ic_1 (by decide) rfl ?_
    refine wk_goto X 10 dX3_menInCamp_37 (by decide) ?_
    exact wq_sub [2, 1, 0] rfl (hk10 _ _ _ _ hf)
def l_X3_menInCamp_10 (x0 : Nat) (x1 : Int32) (x2 : Int32) (h : hp_H) : Option (Int32 × hp_H) := lp (fun k (s : Nat × Int32 × Int32 × hp_H) => f_X3_menInCamp_10  (fun a0 a1 a2 a3 => k (a0, a1, a2, a3)) s.1 s.2.1 s.2.2.1 s.2.2.2) 100000 (x0, x1, x2, h)
theorem wl_X3_menInCamp_10 (X : wx G p s m args meth c cX3_menInCamp 3 RX3 (some .int)) (x0 : Nat) (x1 : Int32) (x2 : Int32) (h : hp_H) (hf : l_X3_menInCamp_10 x0 x1 x2 h = some o) : wq p l e (mt_R (2) 0 0) s m args below meth c (MQ below (mt_Q G (some (.int o.1)) o.2) args s 0 0 (hp_A G)) G 3 0 0 10 [(0, .ref x0), (1, .int x1), (2, .int x2)] [] h :=
  lp_ind (P := fun (s_ : Nat × Int32 × Int32 × hp_H) => wq p l e (mt_R (2) 0 0) s m args below meth c (MQ below (mt_Q G (some (.int o.1)) o.2) args s 0 0 (hp_A G)) G 3 0 0 10 [(0, .ref s_.1), (1, .int s_.2.1), (2, .int s_.2.2.1)] [] s_.2.2.2) (fun k s hk hf => w_X3_menInCamp_10 X  (fun a0 a1 a2 a3 => k (a0, a1, a2, a3)) (fun a0 a1 a2 a3 hf => hk (a0, a1, a2, a3) hf) s.1 s.2.1 s.2.2.1 s.2.2.2 hf) 100000 (x0, x1, x2, h) hf
end Sf_X3_menInCamp
def f_X3_menInCamp (x0 : Nat) (h : hp_H) : Option (Int32 × hp_H) := gd h x0 3 ((rd_R h x0 3 0).bind fun v1 => (f_X1_allMen v1 h).bind fun r2 => l_X3_menInCamp_10 x0 r2.1 0 r2.2)
set_option maxRecDepth 20000 in
theorem c_X3_menInCamp (l : Launch) (x0 : Nat) (h : hp_H) (r : Int32 × hp_H) (hf : f_X3_menInCamp x0 h = some r) : cv l (2) yX3_menInCamp cX3_menInCamp 3 (some .int) 3 x0 [] h (some (.int r.1)) r.2 := by
  unfold f_X3_menInCamp at hf
  refine cv_of (lv := [(0, .ref x0)]) hf (by decide +kernel) (Nat.le_of_ble_eq_true rfl) rfl (fun hf p e s m args below meth c G X => ?_)
  refine wk_aload_n X dX3_menInCamp_0 0 rfl ?_
  refine wk_getR X dX3_menInCamp_1 fo_X3_33 hf (fun v1 hf => ?_)
  refine wk_callVi X [] [] dX3_menInCamp_4 rfl vo_X3_131 rfl (by decide) (Nat.le_of_ble_eq_true rfl) hf (c_X1_allMen l _ _) (fun r2 hf => ?_)
  refine wk_istore_n (lv' := [(1, .int r2.1), (0, .ref x0)]) X dX3_menInCamp_7 (by decide) rfl ?_
  refine wk_iconst X dX3_menInCamp_8 ic_0 ?_
  refine wk_istore_n (lv' := [(2, .int 0), (1, .int r2.1), (0, .ref x0)]) X dX3_menInCamp_9 (by decide) rfl ?_
  exact wq_sub [2, 1, 0] rfl (wl_X3_menInCamp_10 X _ _ _ _ hf)
section Sf_X3_isFullFor
variable {p : Program} {l : Launch} {e : Env} {s : State} {m : MethodId} {args : Array Value} {below : List Frame} {meth : Method} {c : Code} {G : hp_G} {o : Int32 × hp_H}
def f_X3_isFullFor_26 (t0 : Int32) (h : hp_H) : Option (Int32 × hp_H) := if t0 = 0 ∨ t0 = 1 then some (t0, h) else none
set_option maxRecDepth 20000 in
theorem w_X3_isFullFor_26 (X : wx G p s m args meth c cX3_isFullFor 3 RX3 (some .boolean)) (t0 : Int32) (h : hp_H) (hf : f_X3_isFullFor_26 t0 h = some o) : wq p l e (mt_R (2) 0 0) s m args below meth c (MQ below (mt_Q G (some (.int o.1)) o.2) args s 0 0 (hp_A G)) G 3 0 0 26 [] [.int t0] h := by
  unfold f_X3_isFullFor_26 at hf
  exact wk_zreturn X dX3_isFullFor_26 hf
end Sf_X3_isFullFor
def f_X3_isFullFor (x0 : Nat) (x1 : Int32) (x2 : Int32) (h : hp_H) : Option (Int32 × hp_H) := gd h x0 3 ((rd_R h x0 3 5).bind fun v1 => (f_X2_at v1 x2 h).bind fun r2 => (f_J6_bitCount_0f7a4 (r2.1 &&& ((1 <<< (x1 &&& 31)) ^^^ ((-1) : Int32))) r2.2).bind fun r3 => if r3.1 < 4 then (f_X3_isFullFor_26 0 r3.2) else (f_X3_isFullFor_26 1 r3.2))
set_option maxRecDepth 20000 in
theorem c_X3_isFullFor (l : Launch) (x0 : Nat) (x1 : Int32) (x2 : Int32) (h : hp_H) (r : Int32 × hp_H) (hf : f_X3_isFullFor x0 x1 x2 h = some r) : cv l (2) yX3_isFullFor cX3_isFullFor 3 (some .boolean) 3 x0 [.int x1, .int x2] h (some (.int r.1)) r.2 := by
  unfold f_X3_isFullFor at hf
  refine cv_of (lv := [(0, .ref x0), (1, .int x1), (2, .int x2)]) hf (by decide +kernel) (Nat.le_of_ble_eq_true rfl) rfl (fun hf p e s m args below meth c G X => ?_)
  refine wk_aload_n X dX3_isFullFor_0 0 rfl ?_
  refine wk_getR X dX3_isFullFor_1 fo_X3_30 hf (fun v1 hf => ?_)
  refine wk_iload_n X dX3_isFullFor_4 2 rfl ?_
  refine wk_callVi X [.int x2] [] dX3_isFullFor_5 rfl vo_X3_52 rfl (by decide) (Nat.le_of_ble_eq_true rfl) hf (c_X2_at l _ _ _) (fun r2 hf => ?_)
  refine wk_iconst X dX3_isFullFor_8 ic_1 ?_
  refine wk_iload_n X dX3_isFullFor_9 1 rfl ?_
  refine wk_ishl X dX3_isFullFor_10 ?_
  refine wk_iconst X dX3_isFullFor_11 ic_m1 ?_
  refine wk_ixor X dX3_isFullFor_12 ?_
  refine wk_iand X dX3_isFullFor_13 ?_
  refine wk_callSi X [.int (r2.1 &&& ((1 <<< (x1 &&& 31)) ^^^ ((-1) : Int32)))] [] dX3_isFullFor_14 rfl vo_X3_95 rfl (by decide) (Nat.le_of_ble_eq_true rfl) hf (c_J6_bitCount_0f7a4 l _ _) (fun r3 hf => ?_)
  refine wk_iconst X dX3_isFullFor_17 ic_4 ?_
  refine wk_icmp_lt X 25 dX3_isFullFor_18 (by decide) hf (fun hf => ?_) (fun hf => ?_)
  · refine wk_iconst X dX3_isFullFor_25 ic_0 ?_
    exact wq_sub [] rfl (w_X3_isFullFor_26 X _ _ hf)
  · refine wk_iconst X dX3_isFullFor_21 ic_1 ?_
    refine wk_goto X 26 dX3_isFullFor_22 (by decide) ?_
    exact wq_sub [] rfl (w_X3_isFullFor_26 X _ _ hf)
section Sf_X3_couplesInStep
variable {p : Program} {l : Launch} {e : Env} {s : State} {m : MethodId} {args : Array Value} {below : List Frame} {meth : Method} {c : Code} {G : hp_G} {o : Int32 × hp_H}
def f_X3_couplesInStep_70 (x1 : Int32) (h : hp_H) : Option (Int32 × hp_H) := some (x1, h)
set_option maxRecDepth 20000 in
theorem w_X3_couplesInStep_70 (X : wx G p s m args meth c cX3_couplesInStep 5 RX3 (some .int)) (x1 : Int32) (h : hp_H) (hf : f_X3_couplesInStep_70 x1 h = some o) : wq p l e (mt_R (6) 0 0) s m args below meth c (MQ below (mt_Q G (some (.int o.1)) o.2) args s 0 0 (hp_A G)) G 5 0 0 70 [(1, .int x1)] [] h := by
  unfold f_X3_couplesInStep_70 at hf
  refine wk_iload_n X dX3_couplesInStep_70 0 rfl ?_
  exact wk_ireturn X dX3_couplesInStep_71 hf
def f_X3_couplesInStep_64 (k4 : Nat → Int32 → Int32 → hp_H → Option (Int32 × hp_H)) (x0 : Nat) (x1 : Int32) (x2 : Int32) (h : hp_H) : Option (Int32 × hp_H) := k4 x0 x1 (x2 + 1) h
set_option maxRecDepth 20000 in
theorem w_X3_couplesInStep_64 (X : wx G p s m args meth c cX3_couplesInStep 5 RX3 (some .int)) (k4 : Nat → Int32 → Int32 → hp_H → Option (Int32 × hp_H)) (hk4 : ∀ (x0 : Nat) (x1 : Int32) (x2 : Int32) (h : hp_H), k4 x0 x1 x2 h = some o → wq p l e (mt_R (6) 0 0) s m args below meth c (MQ below (mt_Q G (some (.int o.1)) o.2) args s 0 0 (hp_A G)) G 5 0 0 4 [(0, .ref x0), (1, .int x1), (2, .int x2)] [] h) (x0 : Nat) (x1 : Int32) (x2 : Int32) (h : hp_H) (hf : f_X3_couplesInStep_64 k4 x0 x1 x2 h = some o) : wq p l e (mt_R (6) 0 0) s m args below meth c (MQ below (mt_Q G (some (.int o.1)) o.2) args s 0 0 (hp_A G)) G 5 0 0 64 [(0, .ref x0), (1, .int x1), (2, .int x2)] [] h := by
  unfold f_X3_couplesInStep_64 at hf
  refine wk_iinc (lv' := [(2, .int (x2 + 1)), (0, .ref x0), (1, .int x1)]) X dX3_couplesInStep_64 2 rfl ic_1 (by decide) rfl ?_
  refine wk_goto X 4 dX3_couplesInStep_67 (by decide) ?_
  exact wq_sub [1, 2, 0] rfl (hk4 _ _ _ _ hf)
def f_X3_couplesInStep_56 (k4 : Nat → Int32 → Int32 → hp_H → Option (Int32 × hp_H)) (k27 : Nat → Int32 → Int32 → Int32 → Int32 → hp_H → Option (Int32 × hp_H)) (x0 : Nat) (x2 : Int32) (x3 : Int32) (x4 : Int32) (t0 : Int32) (t1 : Int32) (h : hp_H) : Option (Int32 × hp_H) := k27 x0 (t0 + t1) x2 x3 (x4 + 1) h
set_option maxRecDepth 20000 in
theorem w_X3_couplesInStep_56 (X : wx G p s m args meth c cX3_couplesInStep 5 RX3 (some .int)) (k4 : Nat → Int32 → Int32 → hp_H → Option (Int32 × hp_H)) (hk4 : ∀ (x0 : Nat) (x1 : Int32) (x2 : Int32) (h : hp_H), k4 x0 x1 x2 h = some o → wq p l e (mt_R (6) 0 0) s m args below meth c (MQ below (mt_Q G (some (.int o.1)) o.2) args s 0 0 (hp_A G)) G 5 0 0 4 [(0, .ref x0), (1, .int x1), (2, .int x2)] [] h) (k27 : Nat → Int32 → Int32 → Int32 → Int32 → hp_H → Option (Int32 × hp_H)) (hk27 : ∀ (x0 : Nat) (x1 : Int32) (x2 : Int32) (x3 : Int32) (x4 : Int32) (h : hp_H), k27 x0 x1 x2 x3 x4 h = some o → wq p l e (mt_R (6) 0 0) s m args below meth c (MQ below (mt_Q G (some (.int o.1)) o.2) args s 0 0 (hp_A G)) G 5 0 0 27 [(0, .ref x0), (1, .int x1), (2, .int x2), (3, .int x3), (4, .int x4)] [] h) (x0 : Nat) (x2 : Int32) (x3 : Int32) (x4 : Int32) (t0 : Int32) (t1 : Int32) (h : hp_H) (hf : f_X3_couplesInStep_56 k4 k27 x0 x2 x3 x4 t0 t1 h = some o) : wq p l e (mt_R (6) 0 0) s m args below meth c (MQ below (mt_Q G (some (.int o.1)) o.2) args s 0 0 (hp_A G)) G 5 0 0 56 [(0, .ref x0), (2, .int x2), (3, .int x3), (4, .int x4)] [.int t1, .int t0] h := by
  unfold f_X3_couplesInStep_56 at hf
  refine wk_iadd X dX3_couplesInStep_56 ?_
  refine wk_istore_n (lv' := [(1, .int (t0 + t1)), (0, .ref x0), (2, .int x2), (3, .int x3), (4, .int x4)]) X dX3_couplesInStep_57 (by decide) rfl ?_
  refine wk_iinc (lv' := [(4, .int (x4 + 1)), (1, .int (t0 + t1)), (0, .ref x0), (2, .int x2), (3, .int x3)]) X dX3_couplesInStep_58 4 rfl ic_1 (by decide) rfl ?_
  refine wk_goto X 27 dX3_couplesInStep_61 (by decide) ?_
  exact wq_sub [2, 1, 3, 4, 0] rfl (hk27 _ _ _ _ _ _ hf)
def f_X3_couplesInStep_27 (k4 : Nat → Int32 → Int32 → hp_H → Option (Int32 × hp_H)) (k27 : Nat → Int32 → Int32 → Int32 → Int32 → hp_H → Option (Int32 × hp_H)) (x0 : Nat) (x1 : Int32) (x2 : Int32) (x3 : Int32) (x4 : Int32) (h : hp_H) : Option (Int32 × hp_H) := (rd_R h x0 3 0).bind fun v1 => (rd_I h v1 1 2).bind fun v2 => if v2 ≤ x4 then (f_X3_couplesInStep_64 k4 x0 x1 x2 h) else ((f_X3_heardAt x0 x4 0 h).bind fun r3 => if r3.1 = x3 then (f_X3_couplesInStep_56 k4 k27 x0 x2 x3 x4 x1 1 r3.2) else (f_X3_couplesInStep_56 k4 k27 x0 x2 x3 x4 x1 0 r3.2))
set_option maxRecDepth 20000 in
theorem w_X3_couplesInStep_27 (X : wx G p s m args meth c cX3_couplesInStep 5 RX3 (some .int)) (k4 : Nat → Int32 → Int32 → hp_H → Option (Int32 × hp_H)) (hk4 : ∀ (x0 : Nat) (x1 : Int32) (x2 : Int32) (h : hp_H), k4 x0 x1 x2 h = some o → wq p l e (mt_R (6) 0 0) s m args below meth c (MQ below (mt_Q G (some (.int o.1)) o.2) args s 0 0 (hp_A G)) G 5 0 0 4 [(0, .ref x0), (1, .int x1), (2, .int x2)] [] h) (k27 : Nat → Int32 → Int32 → Int32 → Int32 → hp_H → Option (Int32 × hp_H)) (hk27 : ∀ (x0 : Nat) (x1 : Int32) (x2 : Int32) (x3 : Int32) (x4 : Int32) (h : hp_H), k27 x0 x1 x2 x3 x4 h = some o → wq p l e (mt_R (6) 0 0) s m args below meth c (MQ below (mt_Q G (some (.int o.1)) o.2) args s 0 0 (hp_A G)) G 5 0 0 27 [(0, .ref x0), (1, .int x1), (2, .int x2), (3, .int x3), (4, .int x4)] [] h) (x0 : Nat) (x1 : Int32) (x2 : Int32) (x3 : Int32) (x4 : Int32) (h : hp_H) (hf : f_X3_couplesInStep_27 k4 k27 x0 x1 x2 x3 x4 h = some o) : wq p l e (mt_R (6) 0 0) s m args below meth c (MQ below (mt_Q G (some (.int o.1)) o.2) args s 0 0 (hp_A G)) G 5 0 0 27 [(0, .ref x0), (1, .int x1), (2, .int x2), (3, .int x3), (4, .int x4)] [] h := by
  unfold f_X3_couplesInStep_27 at hf
  refine wk_iload X dX3_couplesInStep_27 4 rfl ?_
  refine wk_aload_n X dX3_couplesInStep_29 0 rfl ?_
  refine wk_getR X dX3_couplesInStep_30 fo_X3_33 hf (fun v1 hf => ?_)
  refine wk_getI X dX3_couplesInStep_33 fo_X3_50 hf (fun v2 hf => ?_)
  refine wk_icmp_ge X 64 dX3_couplesInStep_36 (by decide) hf (fun hf => ?_) (fun hf => ?_)
  · exact wq_sub [0, 1, 2] rfl (w_X3_couplesInStep_64 X k4 hk4 _ _ _ _ hf)
  · refine wk_iload_n X dX3_couplesInStep_39 1 rfl ?_
    refine wk_aload_n X dX3_couplesInStep_40 0 rfl ?_
    refine wk_iload X dX3_couplesInStep_41 4 rfl ?_
    refine wk_iconst X dX3_couplesInStep_43 ic_0 ?_
    refine wk_callVi X [.int x4, .int 0] [.int x1] dX3_couplesInStep_44 rfl vo_X3_134 rfl (by decide) (Nat.le_of_ble_eq_true rfl) hf (c_X3_heardAt l _ _ _ _) (fun r3 hf => ?_)
    refine wk_iload_n X dX3_couplesInStep_47 3 rfl ?_
    refine wk_icmp_ne X 55 dX3_couplesInStep_48 (by decide) hf (fun hf => ?_) (fun hf => ?_)
    · refine wk_iconst X dX3_couplesInStep_55 ic_0 ?_
      exact wq_sub [0, 2, 3, 4] rfl (w_X3_couplesInStep_56 X k4 hk4 k27 hk27 _ _ _ _ _ _ _ hf)
    · refine wk_iconst X dX3_couplesInStep_51 ic_1 ?_
      refine wk_goto X 56 dX3_couplesInStep_52 (by decide) ?_
      exact wq_sub [0, 2, 3, 4] rfl (w_X3_couplesInStep_56 X k4 hk4 k27 hk27 _ _ _ _ _ _ _ hf)
def l_X3_couplesInStep_27 (k4 : Nat → Int32 → Int32 → hp_H → Option (Int32 × hp_H)) (x0 : Nat) (x1 : Int32) (x2 : Int32) (x3 : Int32) (x4 : Int32) (h : hp_H) : Option (Int32 × hp_H) := lp (fun k (s : Nat × Int32 × Int32 × Int32 × Int32 × hp_H) => f_X3_couplesInStep_27 k4 (fun a0 a1 a2 a3 a4 a5 => k (a0, a1, a2, a3, a4, a5)) s.1 s.2.1 s.2.2.1 s.2.2.2.1 s.2.2.2.2.1 s.2.2.2.2.2) 100000 (x0, x1, x2, x3, x4, h)
theorem wl_X3_couplesInStep_27 (X : wx G p s m args meth c cX3_couplesInStep 5 RX3 (some .int)) (k4 : Nat → Int32 → Int32 → hp_H → Option (Int32 × hp_H)) (hk4 : ∀ (x0 : Nat) (x1 : Int32) (x2 : Int32) (h : hp_H), k4 x0 x1 x2 h = some o → wq p l e (mt_R (6) 0 0) s m args below meth c (MQ below (mt_Q G (some (.int o.1)) o.2) args s 0 0 (hp_A G)) G 5 0 0 4 [(0, .ref x0), (1, .int x1), (2, .int x2)] [] h) (x0 : Nat) (x1 : Int32) (x2 : Int32) (x3 : Int32) (x4 : Int32) (h : hp_H) (hf : l_X3_couplesInStep_27 k4 x0 x1 x2 x3 x4 h = some o) : wq p l e (mt_R (6) 0 0) s m args below meth c (MQ below (mt_Q G (some (.int o.1)) o.2) args s 0 0 (hp_A G)) G 5 0 0 27 [(0, .ref x0), (1, .int x1), (2, .int x2), (3, .int x3), (4, .int x4)] [] h :=
  lp_ind (P := fun (s_ : Nat × Int32 × Int32 × Int32 × Int32 × hp_H) => wq p l e (mt_R (6) 0 0) s m args below meth c (MQ below (mt_Q G (some (.int o.1)) o.2) args s 0 0 (hp_A G)) G 5 0 0 27 [(0, .ref s_.1), (1, .int s_.2.1), (2, .int s_.2.2.1), (3, .int s_.2.2.2.1), (4, .int s_.2.2.2.2.1)] [] s_.2.2.2.2.2) (fun k s hk hf => w_X3_couplesInStep_27 X k4 hk4 (fun a0 a1 a2 a3 a4 a5 => k (a0, a1, a2, a3, a4, a5)) (fun a0 a1 a2 a3 a4 a5 hf => hk (a0, a1, a2, a3, a4, a5) hf) s.1 s.2.1 s.2.2.1 s.2.2.2.1 s.2.2.2.2.1 s.2.2.2.2.2 hf) 100000 (x0, x1, x2, x3, x4, h) hf
def f_X3_couplesInStep_4 (k4 : Nat → Int32 → Int32 → hp_H → Option (Int32 × hp_H)) (x0 : Nat) (x1 : Int32) (x2 : Int32) (h : hp_H) : Option (Int32 × hp_H) := (rd_R h x0 3 0).bind fun v1 => (rd_I h v1 1 2).bind fun v2 => if v2 ≤ x2 then (f_X3_couplesInStep_70 x1 h) else ((f_X3_heardAt x0 x2 0 h).bind fun r3 => l_X3_couplesInStep_27 k4 x0 x1 x2 r3.1 (x2 + 1) r3.2)
set_option maxRecDepth 20000 in
theorem w_X3_couplesInStep_4 (X : wx G p s m args meth c cX3_couplesInStep 5 RX3 (some .int)) (k4 : Nat → Int32 → Int32 → hp_H → Option (Int32 × hp_H)) (hk4 : ∀ (x0 : Nat) (x1 : Int32) (x2 : Int32) (h : hp_H), k4 x0 x1 x2 h = some o → wq p l e (mt_R (6) 0 0) s m args below meth c (MQ below (mt_Q G (some (.int o.1)) o.2) args s 0 0 (hp_A G)) G 5 0 0 4 [(0, .ref x0), (1, .int x1), (2, .int x2)] [] h) (x0 : Nat) (x1 : Int32) (x2 : Int32) (h : hp_H) (hf : f_X3_couplesInStep_4 k4 x0 x1 x2 h = some o) : wq p l e (mt_R (6) 0 0) s m args below meth c (MQ below (mt_Q G (some (.int o.1)) o.2) args s 0 0 (hp_A G)) G 5 0 0 4 [(0, .ref x0), (1, .int x1), (2, .int x2)] [] h := by
  unfold f_X3_couplesInStep_4 at hf
  refine wk_iload_n X dX3_couplesInStep_4 2 rfl ?_
  refine wk_aload_n X dX3_couplesInStep_5 0 rfl ?_
  refine wk_getR X dX3_couplesInStep_6 fo_X3_33 hf (fun v1 hf => ?_)
  refine wk_getI X dX3_couplesInStep_9 fo_X3_50 hf (fun v2 hf => ?_)
  refine wk_icmp_ge X 70 dX3_couplesInStep_12 (by decide) hf (fun hf => ?_) (fun hf => ?_)
  · exact wq_sub [1] rfl (w_X3_couplesInStep_70 X _ _ hf)
  · refine wk_aload_n X dX3_couplesInStep_15 0 rfl ?_
    refine wk_iload_n X dX3_couplesInStep_16 2 rfl ?_
    refine wk_iconst X dX3_couplesInStep_17 ic_0 ?_
    refine wk_callVi X [.int x2, .int 0] [] dX3_couplesInStep_18 rfl vo_X3_134 rfl (by decide) (Nat.le_of_ble_eq_true rfl) hf (c_X3_heardAt l _ _ _ _) (fun r3 hf => ?_)
    refine wk_istore_n (lv' := [(3, .int r3.1), (0, .ref x0), (1, .int x1), (2, .int x2)]) X dX3_couplesInStep_21 (by decide) rfl ?_
    refine wk_iload_n X dX3_couplesInStep_22 3 rfl ?_
    refine wk_iconst X dX3_couplesInStep_23 ic_1 ?_
    refine wk_iadd X dX3_couplesInStep_24 ?_
    refine wk_istore (lv' := [(4, .int (x2 + 1)), (3, .int r3.1), (0, .ref x0), (1, .int x1), (2, .int x2)]) X dX3_couplesInStep_25 (by decide) rfl ?_
    exact wq_sub [2, 3, 4, 1, 0] rfl (wl_X3_couplesInStep_27 X k4 hk4 _ _ _ _ _ _ hf)
def l_X3_couplesInStep_4 (x0 : Nat) (x1 : Int32) (x2 : Int32) (h : hp_H) : Option (Int32 × hp_H) := lp (fun k (s : Nat × Int32 × Int32 × hp_H) => f_X3_couplesInStep_4  (fun a0 a1 a2 a3 => k (a0, a1, a2, a3)) s.1 s.2.1 s.2.2.1 s.2.2.2) 100000 (x0, x1, x2, h)
theorem wl_X3_couplesInStep_4 (X : wx G p s m args meth c cX3_couplesInStep 5 RX3 (some .int)) (x0 : Nat) (x1 : Int32) (x2 : Int32) (h : hp_H) (hf : l_X3_couplesInStep_4 x0 x1 x2 h = some o) : wq p l e (mt_R (6) 0 0) s m args below meth c (MQ below (mt_Q G (some (.int o.1)) o.2) args s 0 0 (hp_A G)) G 5 0 0 4 [(0, .ref x0), (1, .int x1), (2, .int x2)] [] h :=
  lp_ind (P := fun (s_ : Nat × Int32 × Int32 × hp_H) => wq p l e (mt_R (6) 0 0) s m args below meth c (MQ below (mt_Q G (some (.int o.1)) o.2) args s 0 0 (hp_A G)) G 5 0 0 4 [(0, .ref s_.1), (1, .int s_.2.1), (2, .int s_.2.2.1)] [] s_.2.2.2) (fun k s hk hf => w_X3_couplesInStep_4 X  (fun a0 a1 a2 a3 => k (a0, a1, a2, a3)) (fun a0 a1 a2 a3 hf => hk (a0, a1, a2, a3) hf) s.1 s.2.1 s.2.2.1 s.2.2.2 hf) 100000 (x0, x1, x2, h) hf
end Sf_X3_couplesInStep
def f_X3_couplesInStep (x0 : Nat) (h : hp_H) : Option (Int32 × hp_H) := gd h x0 3 (l_X3_couplesInStep_4 x0 0 0 h)
set_option maxRecDepth 20000 in
theorem c_X3_couplesInStep (l : Launch) (x0 : Nat) (h : hp_H) (r : Int32 × hp_H) (hf : f_X3_couplesInStep x0 h = some r) : cv l (6) yX3_couplesInStep cX3_couplesInStep 5 (some .int) 3 x0 [] h (some (.int r.1)) r.2 := by
  unfold f_X3_couplesInStep at hf
  refine cv_of (lv := [(0, .ref x0)]) hf (by decide +kernel) (Nat.le_of_ble_eq_true rfl) rfl (fun hf p e s m args below meth c G X => ?_)
  refine wk_iconst X dX3_couplesInStep_0 ic_0 ?_
  refine wk_istore_n (lv' := [(1, .int 0), (0, .ref x0)]) X dX3_couplesInStep_1 (by decide) rfl ?_
  refine wk_iconst X dX3_couplesInStep_2 ic_0 ?_
  refine wk_istore_n (lv' := [(2, .int 0), (1, .int 0), (0, .ref x0)]) X dX3_couplesInStep_3 (by decide) rfl ?_
  exact wq_sub [2, 1, 0] rfl (wl_X3_couplesInStep_4 X _ _ _ _ hf)
section Sf_X3_loudTogether
variable {p : Program} {l : Launch} {e : Env} {s : State} {m : MethodId} {args : Array Value} {below : List Frame} {meth : Method} {c : Code} {G : hp_G} {o : Int32 × hp_H}
def f_X3_loudTogether_51 (x2 : Int32) (h : hp_H) : Option (Int32 × hp_H) := some (x2, h)
set_option maxRecDepth 20000 in
theorem w_X3_loudTogether_51 (X : wx G p s m args meth c cX3_loudTogether 4 RX3 (some .int)) (x2 : Int32) (h : hp_H) (hf : f_X3_loudTogether_51 x2 h = some o) : wq p l e (mt_R (2) 0 0) s m args below meth c (MQ below (mt_Q G (some (.int o.1)) o.2) args s 0 0 (hp_A G)) G 4 0 0 51 [(2, .int x2)] [] h := by
  unfold f_X3_loudTogether_51 at hf
  refine wk_iload_n X dX3_loudTogether_51 0 rfl ?_
  exact wk_ireturn X dX3_loudTogether_52 hf
def f_X3_loudTogether_43 (k4 : Nat → Int32 → Int32 → Int32 → hp_H → Option (Int32 × hp_H)) (x0 : Nat) (x1 : Int32) (x3 : Int32) (t0 : Int32) (t1 : Int32) (h : hp_H) : Option (Int32 × hp_H) := k4 x0 x1 (t0 + t1) (x3 + 1) h
set_option maxRecDepth 20000 in
theorem w_X3_loudTogether_43 (X : wx G p s m args meth c cX3_loudTogether 4 RX3 (some .int)) (k4 : Nat → Int32 → Int32 → Int32 → hp_H → Option (Int32 × hp_H)) (hk4 : ∀ (x0 : Nat) (x1 : Int32) (x2 : Int32) (x3 : Int32) (h : hp_H), k4 x0 x1 x2 x3 h = some o → wq p l e (mt_R (2) 0 0) s m args below meth c (MQ below (mt_Q G (some (.int o.1)) o.2) args s 0 0 (hp_A G)) G 4 0 0 4 [(0, .ref x0), (1, .int x1), (2, .int x2), (3, .int x3)] [] h) (x0 : Nat) (x1 : Int32) (x3 : Int32) (t0 : Int32) (t1 : Int32) (h : hp_H) (hf : f_X3_loudTogether_43 k4 x0 x1 x3 t0 t1 h = some o) : wq p l e (mt_R (2) 0 0) s m args below meth c (MQ below (mt_Q G (some (.int o.1)) o.2) args s 0 0 (hp_A G)) G 4 0 0 43 [(0, .ref x0), (1, .int x1), (3, .int x3)] [.int t1, .int t0] h := by
  unfold f_X3_loudTogether_43 at hf
  refine wk_iadd X dX3_loudTogether_43 ?_
  refine wk_istore_n (lv' := [(2, .int (t0 + t1)), (0, .ref x0), (1, .int x1), (3, .int x3)]) X dX3_loudTogether_44 (by decide) rfl ?_
  refine wk_iinc (lv' := [(3, .int (x3 + 1)), (2, .int (t0 + t1)), (0, .ref x0), (1, .int x1)]) X dX3_loudTogether_45 3 rfl ic_1 (by decide) rfl ?_
  refine wk_goto X 4 dX3_loudTogether_48 (by decide) ?_
  exact wq_sub [2, 3, 1, 0] rfl (hk4 _ _ _ _ _ hf)
def f_X3_loudTogether_4 (k4 : Nat → Int32 → Int32 → Int32 → hp_H → Option (Int32 × hp_H)) (x0 : Nat) (x1 : Int32) (x2 : Int32) (x3 : Int32) (h : hp_H) : Option (Int32 × hp_H) := (rd_R h x0 3 0).bind fun v1 => (rd_I h v1 1 1).bind fun v2 => if v2 ≤ x3 then (f_X3_loudTogether_51 x2 h) else ((rd_R h x0 3 5).bind fun v3 => (f_X2_at v3 x1 h).bind fun r4 => (f_X10_holds r4.1 x3 r4.2).bind fun r5 => if r5.1 = 0 then (f_X3_loudTogether_43 k4 x0 x1 x3 x2 0 r5.2) else ((rd_R r5.2 x0 3 3).bind fun v6 => (f_X2_at v6 x3 r5.2).bind fun r7 => f_X3_loudTogether_43 k4 x0 x1 x3 x2 r7.1 r7.2))
set_option maxRecDepth 20000 in
theorem w_X3_loudTogether_4 (X : wx G p s m args meth c cX3_loudTogether 4 RX3 (some .int)) (k4 : Nat → Int32 → Int32 → Int32 → hp_H → Option (Int32 × hp_H)) (hk4 : ∀ (x0 : Nat) (x1 : Int32) (x2 : Int32) (x3 : Int32) (h : hp_H), k4 x0 x1 x2 x3 h = some o → wq p l e (mt_R (2) 0 0) s m args below meth c (MQ below (mt_Q G (some (.int o.1)) o.2) args s 0 0 (hp_A G)) G 4 0 0 4 [(0, .ref x0), (1, .int x1), (2, .int x2), (3, .int x3)] [] h) (x0 : Nat) (x1 : Int32) (x2 : Int32) (x3 : Int32) (h : hp_H) (hf : f_X3_loudTogether_4 k4 x0 x1 x2 x3 h = some o) : wq p l e (mt_R (2) 0 0) s m args below meth c (MQ below (mt_Q G (some (.int o.1)) o.2) args s 0 0 (hp_A G)) G 4 0 0 4 [(0, .ref x0), (1, .int x1), (2, .int x2), (3, .int x3)] [] h := by
  unfold f_X3_loudTogether_4 at hf
  refine wk_iload_n X dX3_loudTogether_4 3 rfl ?_
  refine wk_aload_n X dX3_loudTogether_5 0 rfl ?_
  refine wk_getR X dX3_loudTogether_6 fo_X3_33 hf (fun v1 hf => ?_)
  refine wk_getI X dX3_loudTogether_9 fo_X3_104 hf (fun v2 hf => ?_)
  refine wk_icmp_ge X 51 dX3_loudTogether_12 (by decide) hf (fun hf => ?_) (fun hf => ?_)
  · exact wq_sub [2] rfl (w_X3_loudTogether_51 X _ _ hf)
  · refine wk_iload_n X dX3_loudTogether_15 2 rfl ?_
    refine wk_aload_n X dX3_loudTogether_16 0 rfl ?_
    refine wk_getR X dX3_loudTogether_17 fo_X3_30 hf (fun v3 hf => ?_)
    refine wk_iload_n X dX3_loudTogether_20 1 rfl ?_
    refine wk_callVi X [.int x1] [.int x2] dX3_loudTogether_21 rfl vo_X3_52 rfl (by decide) (Nat.le_of_ble_eq_true rfl) hf (c_X2_at l _ _ _) (fun r4 hf => ?_)
    refine wk_iload_n X dX3_loudTogether_24 3 rfl ?_
    refine wk_callSNi X [.int r4.1, .int x3] [.int x2] dX3_loudTogether_25 rfl vo_X3_107 rfl (by decide) (Nat.le_of_ble_eq_true rfl) hf (c_X10_holds l _ _ _) (fun r5 hf => ?_)
    refine wk_if_eq X 42 dX3_loudTogether_28 (by decide) hf (fun hf => ?_) (fun hf => ?_)
    · refine wk_iconst X dX3_loudTogether_42 ic_0 ?_
      exact wq_sub [0, 1, 3] rfl (w_X3_loudTogether_43 X k4 hk4 _ _ _ _ _ _ hf)
    · refine wk_aload_n X dX3_loudTogether_31 0 rfl ?_
      refine wk_getR X dX3_loudTogether_32 fo_X3_24 hf (fun v6 hf => ?_)
      refine wk_iload_n X dX3_loudTogether_35 3 rfl ?_
      refine wk_callVi X [.int x3] [.int x2] dX3_loudTogether_36 rfl vo_X3_52 rfl (by decide) (Nat.le_of_ble_eq_true rfl) hf (c_X2_at l _ _ _) (fun r7 hf => ?_)
      refine wk_goto X 43 dX3_loudTogether_39 (by decide) ?_
      exact wq_sub [0, 1, 3] rfl (w_X3_loudTogether_43 X k4 hk4 _ _ _ _ _ _ hf)
def l_X3_loudTogether_4 (x0 : Nat) (x1 : Int32) (x2 : Int32) (x3 : Int32) (h : hp_H) : Option (Int32 × hp_H) := lp (fun k (s : Nat × Int32 × Int32 × Int32 × hp_H) => f_X3_loudTogether_4  (fun a0 a1 a2 a3 a4 => k (a0, a1, a2, a3, a4)) s.1 s.2.1 s.2.2.1 s.2.2.2.1 s.2.2.2.2) 100000 (x0, x1, x2, x3, h)
theorem wl_X3_loudTogether_4 (X : wx G p s m args meth c cX3_loudTogether 4 RX3 (some .int)) (x0 : Nat) (x1 : Int32) (x2 : Int32) (x3 : Int32) (h : hp_H) (hf : l_X3_loudTogether_4 x0 x1 x2 x3 h = some o) : wq p l e (mt_R (2) 0 0) s m args below meth c (MQ below (mt_Q G (some (.int o.1)) o.2) args s 0 0 (hp_A G)) G 4 0 0 4 [(0, .ref x0), (1, .int x1), (2, .int x2), (3, .int x3)] [] h :=
  lp_ind (P := fun (s_ : Nat × Int32 × Int32 × Int32 × hp_H) => wq p l e (mt_R (2) 0 0) s m args below meth c (MQ below (mt_Q G (some (.int o.1)) o.2) args s 0 0 (hp_A G)) G 4 0 0 4 [(0, .ref s_.1), (1, .int s_.2.1), (2, .int s_.2.2.1), (3, .int s_.2.2.2.1)] [] s_.2.2.2.2) (fun k s hk hf => w_X3_loudTogether_4 X  (fun a0 a1 a2 a3 a4 => k (a0, a1, a2, a3, a4)) (fun a0 a1 a2 a3 a4 hf => hk (a0, a1, a2, a3, a4) hf) s.1 s.2.1 s.2.2.1 s.2.2.2.1 s.2.2.2.2 hf) 100000 (x0, x1, x2, x3, h) hf
end Sf_X3_loudTogether
def f_X3_loudTogether (x0 : Nat) (x1 : Int32) (h : hp_H) : Option (Int32 × hp_H) := gd h x0 3 (l_X3_loudTogether_4 x0 x1 0 0 h)
set_option maxRecDepth 20000 in
theorem c_X3_loudTogether (l : Launch) (x0 : Nat) (x1 : Int32) (h : hp_H) (r : Int32 × hp_H) (hf : f_X3_loudTogether x0 x1 h = some r) : cv l (2) yX3_loudTogether cX3_loudTogether 4 (some .int) 3 x0 [.int x1] h (some (.int r.1)) r.2 := by
  unfold f_X3_loudTogether at hf
  refine cv_of (lv := [(0, .ref x0), (1, .int x1)]) hf (by decide +kernel) (Nat.le_of_ble_eq_true rfl) rfl (fun hf p e s m args below meth c G X => ?_)
  refine wk_iconst X dX3_loudTogether_0 ic_0 ?_
  refine wk_istore_n (lv' := [(2, .int 0), (0, .ref x0), (1, .int x1)]) X dX3_loudTogether_1 (by decide) rfl ?_
  refine wk_iconst X dX3_loudTogether_2 ic_0 ?_
  refine wk_istore_n (lv' := [(3, .int 0), (2, .int 0), (0, .ref x0), (1, .int x1)]) X dX3_loudTogether_3 (by decide) rfl ?_
  exact wq_sub [2, 3, 1, 0] rfl (wl_X3_loudTogether_4 X _ _ _ _ _ hf)
section Sf_X3_farFrom
variable {p : Program} {l : Launch} {e : Env} {s : State} {m : MethodId} {args : Array Value} {below : List Frame} {meth : Method} {c : Code} {G : hp_G} {o : Int32 × hp_H}
end Sf_X3_farFrom
def f_X3_farFrom (x0 : Nat) (x1 : Int32) (x2 : Int32) (h : hp_H) : Option (Int32 × hp_H) := gd h x0 3 ((rd_R h x0 3 2).bind fun v1 => (f_X2_at v1 x1 h).bind fun r2 => (f_J6_bitCount_0f7a4 (r2.1 ^^^ x2) r2.2).bind fun r3 => some (r3.1, r3.2))
set_option maxRecDepth 20000 in
theorem c_X3_farFrom (l : Launch) (x0 : Nat) (x1 : Int32) (x2 : Int32) (h : hp_H) (r : Int32 × hp_H) (hf : f_X3_farFrom x0 x1 x2 h = some r) : cv l (2) yX3_farFrom cX3_farFrom 3 (some .int) 3 x0 [.int x1, .int x2] h (some (.int r.1)) r.2 := by
  unfold f_X3_farFrom at hf
  refine cv_of (lv := [(0, .ref x0), (1, .int x1), (2, .int x2)]) hf (by decide +kernel) (Nat.le_of_ble_eq_true rfl) rfl (fun hf p e s m args below meth c G X => ?_)
  refine wk_aload_n X dX3_farFrom_0 0 rfl ?_
  refine wk_getR X dX3_farFrom_1 fo_X3_20 hf (fun v1 hf => ?_)
  refine wk_iload_n X dX3_farFrom_4 1 rfl ?_
  refine wk_callVi X [.int x1] [] dX3_farFrom_5 rfl vo_X3_52 rfl (by decide) (Nat.le_of_ble_eq_true rfl) hf (c_X2_at l _ _ _) (fun r2 hf => ?_)
  refine wk_iload_n X dX3_farFrom_8 2 rfl ?_
  refine wk_ixor X dX3_farFrom_9 ?_
  refine wk_callSi X [.int (r2.1 ^^^ x2)] [] dX3_farFrom_10 rfl vo_X3_95 rfl (by decide) (Nat.le_of_ble_eq_true rfl) hf (c_J6_bitCount_0f7a4 l _ _) (fun r3 hf => ?_)
  exact wk_ireturn X dX3_farFrom_13 hf
section Sf_X3_leastFar
variable {p : Program} {l : Launch} {e : Env} {s : State} {m : MethodId} {args : Array Value} {below : List Frame} {meth : Method} {c : Code} {G : hp_G} {o : Int32 × hp_H}
def f_X3_leastFar_33 (x2 : Int32) (h : hp_H) : Option (Int32 × hp_H) := some (x2, h)
set_option maxRecDepth 20000 in
theorem w_X3_leastFar_33 (X : wx G p s m args meth c cX3_leastFar 4 RX3 (some .int)) (x2 : Int32) (h : hp_H) (hf : f_X3_leastFar_33 x2 h = some o) : wq p l e (mt_R (3) 0 0) s m args below meth c (MQ below (mt_Q G (some (.int o.1)) o.2) args s 0 0 (hp_A G)) G 4 0 0 33 [(2, .int x2)] [] h := by
  unfold f_X3_leastFar_33 at hf
  refine wk_iload_n X dX3_leastFar_33 0 rfl ?_
  exact wk_ireturn X dX3_leastFar_34 hf
def f_X3_leastFar_5 (k5 : Nat → Int32 → Int32 → Int32 → hp_H → Option (Int32 × hp_H)) (x0 : Nat) (x1 : Int32) (x2 : Int32) (x3 : Int32) (h : hp_H) : Option (Int32 × hp_H) := (rd_R h x0 3 0).bind fun v1 => (rd_I h v1 1 1).bind fun v2 => if v2 ≤ x3 then (f_X3_leastFar_33 x2 h) else ((f_X3_farFrom x0 x3 x1 h).bind fun r3 => k5 x0 x1 (hp_min x2 r3.1) (x3 + 1) r3.2)
set_option maxRecDepth 20000 in
theorem w_X3_leastFar_5 (X : wx G p s m args meth c cX3_leastFar 4 RX3 (some .int)) (k5 : Nat → Int32 → Int32 → Int32 → hp_H → Option (Int32 × hp_H)) (hk5 : ∀ (x0 : Nat) (x1 : Int32) (x2 : Int32) (x3 : Int32) (h : hp_H), k5 x0 x1 x2 x3 h = some o → wq p l e (mt_R (3) 0 0) s m args below meth c (MQ below (mt_Q G (some (.int o.1)) o.2) args s 0 0 (hp_A G)) G 4 0 0 5 [(0, .ref x0), (1, .int x1), (2, .int x2), (3, .int x3)] [] h) (x0 : Nat) (x1 : Int32) (x2 : Int32) (x3 : Int32) (h : hp_H) (hf : f_X3_leastFar_5 k5 x0 x1 x2 x3 h = some o) : wq p l e (mt_R (3) 0 0) s m args below meth c (MQ below (mt_Q G (some (.int o.1)) o.2) args s 0 0 (hp_A G)) G 4 0 0 5 [(0, .ref x0), (1, .int x1), (2, .int x2), (3, .int x3)] [] h := by
  unfold f_X3_leastFar_5 at hf
  refine wk_iload_n X dX3_leastFar_5 3 rfl ?_
  refine wk_aload_n X dX3_leastFar_6 0 rfl ?_
  refine wk_getR X dX3_leastFar_7 fo_X3_33 hf (fun v1 hf => ?_)
  refine wk_getI X dX3_leastFar_10 fo_X3_104 hf (fun v2 hf => ?_)
  refine wk_icmp_ge X 33 dX3_leastFar_13 (by decide) hf (fun hf => ?_) (fun hf => ?_)
  · exact wq_sub [2] rfl (w_X3_leastFar_33 X _ _ hf)
  · refine wk_iload_n X dX3_leastFar_16 2 rfl ?_
    refine wk_aload_n X dX3_leastFar_17 0 rfl ?_
    refine wk_iload_n X dX3_leastFar_18 3 rfl ?_
    refine wk_iload_n X dX3_leastFar_19 1 rfl ?_
    refine wk_callVi X [.int x3, .int x1] [.int x2] dX3_leastFar_20 rfl vo_X3_137 rfl (by decide) (Nat.le_of_ble_eq_true rfl) hf (c_X3_farFrom l _ _ _ _) (fun r3 hf => ?_)
    refine wk_min X dX3_leastFar_23 ml_X3_117 (by decide) (Nat.le_of_ble_eq_true rfl) ?_
    refine wk_istore_n (lv' := [(2, .int (hp_min x2 r3.1)), (0, .ref x0), (1, .int x1), (3, .int x3)]) X dX3_leastFar_26 (by decide) rfl ?_
    refine wk_iinc (lv' := [(3, .int (x3 + 1)), (2, .int (hp_min x2 r3.1)), (0, .ref x0), (1, .int x1)]) X dX3_leastFar_27 3 rfl ic_1 (by decide) rfl ?_
    refine wk_goto X 5 dX3_leastFar_30 (by decide) ?_
    exact wq_sub [2, 3, 1, 0] rfl (hk5 _ _ _ _ _ hf)
def l_X3_leastFar_5 (x0 : Nat) (x1 : Int32) (x2 : Int32) (x3 : Int32) (h : hp_H) : Option (Int32 × hp_H) := lp (fun k (s : Nat × Int32 × Int32 × Int32 × hp_H) => f_X3_leastFar_5  (fun a0 a1 a2 a3 a4 => k (a0, a1, a2, a3, a4)) s.1 s.2.1 s.2.2.1 s.2.2.2.1 s.2.2.2.2) 100000 (x0, x1, x2, x3, h)
theorem wl_X3_leastFar_5 (X : wx G p s m args meth c cX3_leastFar 4 RX3 (some .int)) (x0 : Nat) (x1 : Int32) (x2 : Int32) (x3 : Int32) (h : hp_H) (hf : l_X3_leastFar_5 x0 x1 x2 x3 h = some o) : wq p l e (mt_R (3) 0 0) s m args below meth c (MQ below (mt_Q G (some (.int o.1)) o.2) args s 0 0 (hp_A G)) G 4 0 0 5 [(0, .ref x0), (1, .int x1), (2, .int x2), (3, .int x3)] [] h :=
  lp_ind (P := fun (s_ : Nat × Int32 × Int32 × Int32 × hp_H) => wq p l e (mt_R (3) 0 0) s m args below meth c (MQ below (mt_Q G (some (.int o.1)) o.2) args s 0 0 (hp_A G)) G 4 0 0 5 [(0, .ref s_.1), (1, .int s_.2.1), (2, .int s_.2.2.1), (3, .int s_.2.2.2.1)] [] s_.2.2.2.2) (fun k s hk hf => w_X3_leastFar_5 X  (fun a0 a1 a2 a3 a4 => k (a0, a1, a2, a3, a4)) (fun a0 a1 a2 a3 a4 hf => hk (a0, a1, a2, a3, a4) hf) s.1 s.2.1 s.2.2.1 s.2.2.2.1 s.2.2.2.2 hf) 100000 (x0, x1, x2, x3, h) hf
end Sf_X3_leastFar
def f_X3_leastFar (x0 : Nat) (x1 : Int32) (h : hp_H) : Option (Int32 × hp_H) := gd h x0 3 (l_X3_leastFar_5 x0 x1 13 0 h)
set_option maxRecDepth 20000 in
theorem c_X3_leastFar (l : Launch) (x0 : Nat) (x1 : Int32) (h : hp_H) (r : Int32 × hp_H) (hf : f_X3_leastFar x0 x1 h = some r) : cv l (3) yX3_leastFar cX3_leastFar 4 (some .int) 3 x0 [.int x1] h (some (.int r.1)) r.2 := by
  unfold f_X3_leastFar at hf
  refine cv_of (lv := [(0, .ref x0), (1, .int x1)]) hf (by decide +kernel) (Nat.le_of_ble_eq_true rfl) rfl (fun hf p e s m args below meth c G X => ?_)
  refine wk_bipush X dX3_leastFar_0 ib_13 ?_
  refine wk_istore_n (lv' := [(2, .int 13), (0, .ref x0), (1, .int x1)]) X dX3_leastFar_2 (by decide) rfl ?_
  refine wk_iconst X dX3_leastFar_3 ic_0 ?_
  refine wk_istore_n (lv' := [(3, .int 0), (2, .int 13), (0, .ref x0), (1, .int x1)]) X dX3_leastFar_4 (by decide) rfl ?_
  exact wq_sub [2, 3, 1, 0] rfl (wl_X3_leastFar_5 X _ _ _ _ _ hf)
section Sf_X3_isToldApart
variable {p : Program} {l : Launch} {e : Env} {s : State} {m : MethodId} {args : Array Value} {below : List Frame} {meth : Method} {c : Code} {G : hp_G} {o : Int32 × hp_H}
def f_X3_isToldApart_79  (h : hp_H) : Option (Int32 × hp_H) := if 1 = 0 ∨ 1 = 1 then some (1, h) else none
set_option maxRecDepth 20000 in
theorem w_X3_isToldApart_79 (X : wx G p s m args meth c cX3_isToldApart 5 RX3 (some .boolean))  (h : hp_H) (hf : f_X3_isToldApart_79 h = some o) : wq p l e (mt_R (3) 0 0) s m args below meth c (MQ below (mt_Q G (some (.int o.1)) o.2) args s 0 0 (hp_A G)) G 5 0 0 79 [] [] h := by
  unfold f_X3_isToldApart_79 at hf
  refine wk_iconst X dX3_isToldApart_79 ic_1 ?_
  exact wk_zreturn X dX3_isToldApart_80 hf
def f_X3_isToldApart_73 (k2 : Nat → Int32 → Int32 → Int32 → hp_H → Option (Int32 × hp_H)) (x0 : Nat) (x1 : Int32) (x2 : Int32) (x3 : Int32) (h : hp_H) : Option (Int32 × hp_H) := k2 x0 x1 x2 (x3 + 1) h
set_option maxRecDepth 20000 in
theorem w_X3_isToldApart_73 (X : wx G p s m args meth c cX3_isToldApart 5 RX3 (some .boolean)) (k2 : Nat → Int32 → Int32 → Int32 → hp_H → Option (Int32 × hp_H)) (hk2 : ∀ (x0 : Nat) (x1 : Int32) (x2 : Int32) (x3 : Int32) (h : hp_H), k2 x0 x1 x2 x3 h = some o → wq p l e (mt_R (3) 0 0) s m args below meth c (MQ below (mt_Q G (some (.int o.1)) o.2) args s 0 0 (hp_A G)) G 5 0 0 2 [(0, .ref x0), (1, .int x1), (2, .int x2), (3, .int x3)] [] h) (x0 : Nat) (x1 : Int32) (x2 : Int32) (x3 : Int32) (h : hp_H) (hf : f_X3_isToldApart_73 k2 x0 x1 x2 x3 h = some o) : wq p l e (mt_R (3) 0 0) s m args below meth c (MQ below (mt_Q G (some (.int o.1)) o.2) args s 0 0 (hp_A G)) G 5 0 0 73 [(0, .ref x0), (1, .int x1), (2, .int x2), (3, .int x3)] [] h := by
  unfold f_X3_isToldApart_73 at hf
  refine wk_iinc (lv' := [(3, .int (x3 + 1)), (0, .ref x0), (1, .int x1), (2, .int x2)]) X dX3_isToldApart_73 3 rfl ic_1 (by decide) rfl ?_
  refine wk_goto X 2 dX3_isToldApart_76 (by decide) ?_
  exact wq_sub [1, 2, 3, 0] rfl (hk2 _ _ _ _ _ hf)
def f_X3_isToldApart_67 (k2 : Nat → Int32 → Int32 → Int32 → hp_H → Option (Int32 × hp_H)) (k18 : Nat → Int32 → Int32 → Int32 → Int32 → hp_H → Option (Int32 × hp_H)) (x0 : Nat) (x1 : Int32) (x2 : Int32) (x3 : Int32) (x4 : Int32) (h : hp_H) : Option (Int32 × hp_H) := k18 x0 x1 x2 x3 (x4 + 1) h
set_option maxRecDepth 20000 in
theorem w_X3_isToldApart_67 (X : wx G p s m args meth c cX3_isToldApart 5 RX3 (some .boolean)) (k2 : Nat → Int32 → Int32 → Int32 → hp_H → Option (Int32 × hp_H)) (hk2 : ∀ (x0 : Nat) (x1 : Int32) (x2 : Int32) (x3 : Int32) (h : hp_H), k2 x0 x1 x2 x3 h = some o → wq p l e (mt_R (3) 0 0) s m args below meth c (MQ below (mt_Q G (some (.int o.1)) o.2) args s 0 0 (hp_A G)) G 5 0 0 2 [(0, .ref x0), (1, .int x1), (2, .int x2), (3, .int x3)] [] h) (k18 : Nat → Int32 → Int32 → Int32 → Int32 → hp_H → Option (Int32 × hp_H)) (hk18 : ∀ (x0 : Nat) (x1 : Int32) (x2 : Int32) (x3 : Int32) (x4 : Int32) (h : hp_H), k18 x0 x1 x2 x3 x4 h = some o → wq p l e (mt_R (3) 0 0) s m args below meth c (MQ below (mt_Q G (some (.int o.1)) o.2) args s 0 0 (hp_A G)) G 5 0 0 18 [(0, .ref x0), (1, .int x1), (2, .int x2), (3, .int x3), (4, .int x4)] [] h) (x0 : Nat) (x1 : Int32) (x2 : Int32) (x3 : Int32) (x4 : Int32) (h : hp_H) (hf : f_X3_isToldApart_67 k2 k18 x0 x1 x2 x3 x4 h = some o) : wq p l e (mt_R (3) 0 0) s m args below meth c (MQ below (mt_Q G (some (.int o.1)) o.2) args s 0 0 (hp_A G)) G 5 0 0 67 [(0, .ref x0), (1, .int x1), (2, .int x2), (3, .int x3), (4, .int x4)] [] h := by
  unfold f_X3_isToldApart_67 at hf
  refine wk_iinc (lv' := [(4, .int (x4 + 1)), (0, .ref x0), (1, .int x1), (2, .int x2), (3, .int x3)]) X dX3_isToldApart_67 4 rfl ic_1 (by decide) rfl ?_
  refine wk_goto X 18 dX3_isToldApart_70 (by decide) ?_
  exact wq_sub [1, 2, 3, 4, 0] rfl (hk18 _ _ _ _ _ _ hf)
def f_X3_isToldApart_65  (h : hp_H) : Option (Int32 × hp_H) := if 0 = 0 ∨ 0 = 1 then some (0, h) else none
set_option maxRecDepth 20000 in
theorem w_X3_isToldApart_65 (X : wx G p s m args meth c cX3_isToldApart 5 RX3 (some .boolean))  (h : hp_H) (hf : f_X3_isToldApart_65 h = some o) : wq p l e (mt_R (3) 0 0) s m args below meth c (MQ below (mt_Q G (some (.int o.1)) o.2) args s 0 0 (hp_A G)) G 5 0 0 65 [] [] h := by
  unfold f_X3_isToldApart_65 at hf
  refine wk_iconst X dX3_isToldApart_65 ic_0 ?_
  exact wk_zreturn X dX3_isToldApart_66 hf
def f_X3_isToldApart_18 (k2 : Nat → Int32 → Int32 → Int32 → hp_H → Option (Int32 × hp_H)) (k18 : Nat → Int32 → Int32 → Int32 → Int32 → hp_H → Option (Int32 × hp_H)) (x0 : Nat) (x1 : Int32) (x2 : Int32) (x3 : Int32) (x4 : Int32) (h : hp_H) : Option (Int32 × hp_H) := (rd_R h x0 3 0).bind fun v1 => (rd_I h v1 1 1).bind fun v2 => if v2 ≤ x4 then (f_X3_isToldApart_73 k2 x0 x1 x2 x3 h) else ((f_X10_holds x1 x3 h).bind fun r3 => if r3.1 = 0 then (f_X3_isToldApart_67 k2 k18 x0 x1 x2 x3 x4 r3.2) else ((f_X10_holds x1 x4 r3.2).bind fun r4 => if r4.1 = 0 then (f_X3_isToldApart_67 k2 k18 x0 x1 x2 x3 x4 r4.2) else ((rd_R r4.2 x0 3 2).bind fun v5 => (f_X2_at v5 x4 r4.2).bind fun r6 => (f_X3_farFrom x0 x3 r6.1 r6.2).bind fun r7 => if x2 ≤ r7.1 then (f_X3_isToldApart_67 k2 k18 x0 x1 x2 x3 x4 r7.2) else (f_X3_isToldApart_65 r7.2))))
set_option maxRecDepth 20000 in
theorem w_X3_isToldApart_18 (X : wx G p s m args meth c cX3_isToldApart 5 RX3 (some .boolean)) (k2 : Nat → Int32 → Int32 → Int32 → hp_H → Option (Int32 × hp_H)) (hk2 : ∀ (x0 : Nat) (x1 : Int32) (x2 : Int32) (x3 : Int32) (h : hp_H), k2 x0 x1 x2 x3 h = some o → wq p l e (mt_R (3) 0 0) s m args below meth c (MQ below (mt_Q G (some (.int o.1)) o.2) args s 0 0 (hp_A G)) G 5 0 0 2 [(0, .ref x0), (1, .int x1), (2, .int x2), (3, .int x3)] [] h) (k18 : Nat → Int32 → Int32 → Int32 → Int32 → hp_H → Option (Int32 × hp_H)) (hk18 : ∀ (x0 : Nat) (x1 : Int32) (x2 : Int32) (x3 : Int32) (x4 : Int32) (h : hp_H), k18 x0 x1 x2 x3 x4 h = some o → wq p l e (mt_R (3) 0 0) s m args below meth c (MQ below (mt_Q G (some (.int o.1)) o.2) args s 0 0 (hp_A G)) G 5 0 0 18 [(0, .ref x0), (1, .int x1), (2, .int x2), (3, .int x3), (4, .int x4)] [] h) (x0 : Nat) (x1 : Int32) (x2 : Int32) (x3 : Int32) (x4 : Int32) (h : hp_H) (hf : f_X3_isToldApart_18 k2 k18 x0 x1 x2 x3 x4 h = some o) : wq p l e (mt_R (3) 0 0) s m args below meth c (MQ below (mt_Q G (some (.int o.1)) o.2) args s 0 0 (hp_A G)) G 5 0 0 18 [(0, .ref x0), (1, .int x1), (2, .int x2), (3, .int x3), (4, .int x4)] [] h := by
  unfold f_X3_isToldApart_18 at hf
  refine wk_iload X dX3_isToldApart_18 4 rfl ?_
  refine wk_aload_n X dX3_isToldApart_20 0 rfl ?_
  refine wk_getR X dX3_isToldApart_21 fo_X3_33 hf (fun v1 hf => ?_)
  refine wk_getI X dX3_isToldApart_24 fo_X3_104 hf (fun v2 hf => ?_)
  refine wk_icmp_ge X 73 dX3_isToldApart_27 (by decide) hf (fun hf => ?_) (fun hf => ?_)
  · exact wq_sub [0, 1, 2, 3] rfl (w_X3_isToldApart_73 X k2 hk2 _ _ _ _ _ hf)
  · refine wk_iload_n X dX3_isToldApart_30 1 rfl ?_
    refine wk_iload_n X dX3_isToldApart_31 3 rfl ?_
    refine wk_callSNi X [.int x1, .int x3] [] dX3_isToldApart_32 rfl vo_X3_107 rfl (by decide) (Nat.le_of_ble_eq_true rfl) hf (c_X10_holds l _ _ _) (fun r3 hf => ?_)
    refine wk_if_eq X 67 dX3_isToldApart_35 (by decide) hf (fun hf => ?_) (fun hf => ?_)
    · exact wq_sub [0, 1, 2, 3, 4] rfl (w_X3_isToldApart_67 X k2 hk2 k18 hk18 _ _ _ _ _ _ hf)
    · refine wk_iload_n X dX3_isToldApart_38 1 rfl ?_
      refine wk_iload X dX3_isToldApart_39 4 rfl ?_
      refine wk_callSNi X [.int x1, .int x4] [] dX3_isToldApart_41 rfl vo_X3_107 rfl (by decide) (Nat.le_of_ble_eq_true rfl) hf (c_X10_holds l _ _ _) (fun r4 hf => ?_)
      refine wk_if_eq X 67 dX3_isToldApart_44 (by decide) hf (fun hf => ?_) (fun hf => ?_)
      · exact wq_sub [0, 1, 2, 3, 4] rfl (w_X3_isToldApart_67 X k2 hk2 k18 hk18 _ _ _ _ _ _ hf)
      · refine wk_aload_n X dX3_isToldApart_47 0 rfl ?_
        refine wk_iload_n X dX3_isToldApart_48 3 rfl ?_
        refine wk_aload_n X dX3_isToldApart_49 0 rfl ?_
        refine wk_getR X dX3_isToldApart_50 fo_X3_20 hf (fun v5 hf => ?_)
        refine wk_iload X dX3_isToldApart_53 4 rfl ?_
        refine wk_callVi X [.int x4] [.int x3, .ref x0] dX3_isToldApart_55 rfl vo_X3_52 rfl (by decide) (Nat.le_of_ble_eq_true rfl) hf (c_X2_at l _ _ _) (fun r6 hf => ?_)
        refine wk_callVi X [.int x3, .int r6.1] [] dX3_isToldApart_58 rfl vo_X3_137 rfl (by decide) (Nat.le_of_ble_eq_true rfl) hf (c_X3_farFrom l _ _ _ _) (fun r7 hf => ?_)
        refine wk_iload_n X dX3_isToldApart_61 2 rfl ?_
        refine wk_icmp_ge X 67 dX3_isToldApart_62 (by decide) hf (fun hf => ?_) (fun hf => ?_)
        · exact wq_sub [0, 1, 2, 3, 4] rfl (w_X3_isToldApart_67 X k2 hk2 k18 hk18 _ _ _ _ _ _ hf)
        · exact wq_sub [] rfl (w_X3_isToldApart_65 X _ hf)
def l_X3_isToldApart_18 (k2 : Nat → Int32 → Int32 → Int32 → hp_H → Option (Int32 × hp_H)) (x0 : Nat) (x1 : Int32) (x2 : Int32) (x3 : Int32) (x4 : Int32) (h : hp_H) : Option (Int32 × hp_H) := lp (fun k (s : Nat × Int32 × Int32 × Int32 × Int32 × hp_H) => f_X3_isToldApart_18 k2 (fun a0 a1 a2 a3 a4 a5 => k (a0, a1, a2, a3, a4, a5)) s.1 s.2.1 s.2.2.1 s.2.2.2.1 s.2.2.2.2.1 s.2.2.2.2.2) 100000 (x0, x1, x2, x3, x4, h)
theorem wl_X3_isToldApart_18 (X : wx G p s m args meth c cX3_isToldApart 5 RX3 (some .boolean)) (k2 : Nat → Int32 → Int32 → Int32 → hp_H → Option (Int32 × hp_H)) (hk2 : ∀ (x0 : Nat) (x1 : Int32) (x2 : Int32) (x3 : Int32) (h : hp_H), k2 x0 x1 x2 x3 h = some o → wq p l e (mt_R (3) 0 0) s m args below meth c (MQ below (mt_Q G (some (.int o.1)) o.2) args s 0 0 (hp_A G)) G 5 0 0 2 [(0, .ref x0), (1, .int x1), (2, .int x2), (3, .int x3)] [] h) (x0 : Nat) (x1 : Int32) (x2 : Int32) (x3 : Int32) (x4 : Int32) (h : hp_H) (hf : l_X3_isToldApart_18 k2 x0 x1 x2 x3 x4 h = some o) : wq p l e (mt_R (3) 0 0) s m args below meth c (MQ below (mt_Q G (some (.int o.1)) o.2) args s 0 0 (hp_A G)) G 5 0 0 18 [(0, .ref x0), (1, .int x1), (2, .int x2), (3, .int x3), (4, .int x4)] [] h :=
  lp_ind (P := fun (s_ : Nat × Int32 × Int32 × Int32 × Int32 × hp_H) => wq p l e (mt_R (3) 0 0) s m args below meth c (MQ below (mt_Q G (some (.int o.1)) o.2) args s 0 0 (hp_A G)) G 5 0 0 18 [(0, .ref s_.1), (1, .int s_.2.1), (2, .int s_.2.2.1), (3, .int s_.2.2.2.1), (4, .int s_.2.2.2.2.1)] [] s_.2.2.2.2.2) (fun k s hk hf => w_X3_isToldApart_18 X k2 hk2 (fun a0 a1 a2 a3 a4 a5 => k (a0, a1, a2, a3, a4, a5)) (fun a0 a1 a2 a3 a4 a5 hf => hk (a0, a1, a2, a3, a4, a5) hf) s.1 s.2.1 s.2.2.1 s.2.2.2.1 s.2.2.2.2.1 s.2.2.2.2.2 hf) 100000 (x0, x1, x2, x3, x4, h) hf
def f_X3_isToldApart_2 (k2 : Nat → Int32 → Int32 → Int32 → hp_H → Option (Int32 × hp_H)) (x0 : Nat) (x1 : Int32) (x2 : Int32) (x3 : Int32) (h : hp_H) : Option (Int32 × hp_H) := (rd_R h x0 3 0).bind fun v1 => (rd_I h v1 1 1).bind fun v2 => if v2 ≤ x3 then (f_X3_isToldApart_79 h) else (l_X3_isToldApart_18 k2 x0 x1 x2 x3 (x3 + 1) h)
set_option maxRecDepth 20000 in
theorem w_X3_isToldApart_2 (X : wx G p s m args meth c cX3_isToldApart 5 RX3 (some .boolean)) (k2 : Nat → Int32 → Int32 → Int32 → hp_H → Option (Int32 × hp_H)) (hk2 : ∀ (x0 : Nat) (x1 : Int32) (x2 : Int32) (x3 : Int32) (h : hp_H), k2 x0 x1 x2 x3 h = some o → wq p l e (mt_R (3) 0 0) s m args below meth c (MQ below (mt_Q G (some (.int o.1)) o.2) args s 0 0 (hp_A G)) G 5 0 0 2 [(0, .ref x0), (1, .int x1), (2, .int x2), (3, .int x3)] [] h) (x0 : Nat) (x1 : Int32) (x2 : Int32) (x3 : Int32) (h : hp_H) (hf : f_X3_isToldApart_2 k2 x0 x1 x2 x3 h = some o) : wq p l e (mt_R (3) 0 0) s m args below meth c (MQ below (mt_Q G (some (.int o.1)) o.2) args s 0 0 (hp_A G)) G 5 0 0 2 [(0, .ref x0), (1, .int x1), (2, .int x2), (3, .int x3)] [] h := by
  unfold f_X3_isToldApart_2 at hf
  refine wk_iload_n X dX3_isToldApart_2 3 rfl ?_
  refine wk_aload_n X dX3_isToldApart_3 0 rfl ?_
  refine wk_getR X dX3_isToldApart_4 fo_X3_33 hf (fun v1 hf => ?_)
  refine wk_getI X dX3_isToldApart_7 fo_X3_104 hf (fun v2 hf => ?_)
  refine wk_icmp_ge X 79 dX3_isToldApart_10 (by decide) hf (fun hf => ?_) (fun hf => ?_)
  · exact wq_sub [] rfl (w_X3_isToldApart_79 X _ hf)
  · refine wk_iload_n X dX3_isToldApart_13 3 rfl ?_
    refine wk_iconst X dX3_isToldApart_14 ic_1 ?_
    refine wk_iadd X dX3_isToldApart_15 ?_
    refine wk_istore (lv' := [(4, .int (x3 + 1)), (0, .ref x0), (1, .int x1), (2, .int x2), (3, .int x3)]) X dX3_isToldApart_16 (by decide) rfl ?_
    exact wq_sub [1, 2, 3, 4, 0] rfl (wl_X3_isToldApart_18 X k2 hk2 _ _ _ _ _ _ hf)
def l_X3_isToldApart_2 (x0 : Nat) (x1 : Int32) (x2 : Int32) (x3 : Int32) (h : hp_H) : Option (Int32 × hp_H) := lp (fun k (s : Nat × Int32 × Int32 × Int32 × hp_H) => f_X3_isToldApart_2  (fun a0 a1 a2 a3 a4 => k (a0, a1, a2, a3, a4)) s.1 s.2.1 s.2.2.1 s.2.2.2.1 s.2.2.2.2) 100000 (x0, x1, x2, x3, h)
theorem wl_X3_isToldApart_2 (X : wx G p s m args meth c cX3_isToldApart 5 RX3 (some .boolean)) (x0 : Nat) (x1 : Int32) (x2 : Int32) (x3 : Int32) (h : hp_H) (hf : l_X3_isToldApart_2 x0 x1 x2 x3 h = some o) : wq p l e (mt_R (3) 0 0) s m args below meth c (MQ below (mt_Q G (some (.int o.1)) o.2) args s 0 0 (hp_A G)) G 5 0 0 2 [(0, .ref x0), (1, .int x1), (2, .int x2), (3, .int x3)] [] h :=
  lp_ind (P := fun (s_ : Nat × Int32 × Int32 × Int32 × hp_H) => wq p l e (mt_R (3) 0 0) s m args below meth c (MQ below (mt_Q G (some (.int o.1)) o.2) args s 0 0 (hp_A G)) G 5 0 0 2 [(0, .ref s_.1), (1, .int s_.2.1), (2, .int s_.2.2.1), (3, .int s_.2.2.2.1)] [] s_.2.2.2.2) (fun k s hk hf => w_X3_isToldApart_2 X  (fun a0 a1 a2 a3 a4 => k (a0, a1, a2, a3, a4)) (fun a0 a1 a2 a3 a4 hf => hk (a0, a1, a2, a3, a4) hf) s.1 s.2.1 s.2.2.1 s.2.2.2.1 s.2.2.2.2 hf) 100000 (x0, x1, x2, x3, h) hf
end Sf_X3_isToldApart
def f_X3_isToldApart (x0 : Nat) (x1 : Int32) (x2 : Int32) (h : hp_H) : Option (Int32 × hp_H) := gd h x0 3 (l_X3_isToldApart_2 x0 x1 x2 0 h)
set_option maxRecDepth 20000 in
theorem c_X3_isToldApart (l : Launch) (x0 : Nat) (x1 : Int32) (x2 : Int32) (h : hp_H) (r : Int32 × hp_H) (hf : f_X3_isToldApart x0 x1 x2 h = some r) : cv l (3) yX3_isToldApart cX3_isToldApart 5 (some .boolean) 3 x0 [.int x1, .int x2] h (some (.int r.1)) r.2 := by
  unfold f_X3_isToldApart at hf
  refine cv_of (lv := [(0, .ref x0), (1, .int x1), (2, .int x2)]) hf (by decide +kernel) (Nat.le_of_ble_eq_true rfl) rfl (fun hf p e s m args below meth c G X => ?_)
  refine wk_iconst X dX3_isToldApart_0 ic_0 ?_
  refine wk_istore_n (lv' := [(3, .int 0), (0, .ref x0), (1, .int x1), (2, .int x2)]) X dX3_isToldApart_1 (by decide) rfl ?_
  exact wq_sub [1, 2, 3, 0] rfl (wl_X3_isToldApart_2 X _ _ _ _ _ hf)
section Sf_X3_treadsTogether
variable {p : Program} {l : Launch} {e : Env} {s : State} {m : MethodId} {args : Array Value} {below : List Frame} {meth : Method} {c : Code} {G : hp_G} {o : Int32 × hp_H}
def f_X3_treadsTogether_44 (x2 : Int32) (h : hp_H) : Option (Int32 × hp_H) := some (x2, h)
set_option maxRecDepth 20000 in
theorem w_X3_treadsTogether_44 (X : wx G p s m args meth c cX3_treadsTogether 4 RX3 (some .int)) (x2 : Int32) (h : hp_H) (hf : f_X3_treadsTogether_44 x2 h = some o) : wq p l e (mt_R (2) 0 0) s m args below meth c (MQ below (mt_Q G (some (.int o.1)) o.2) args s 0 0 (hp_A G)) G 4 0 0 44 [(2, .int x2)] [] h := by
  unfold f_X3_treadsTogether_44 at hf
  refine wk_iload_n X dX3_treadsTogether_44 0 rfl ?_
  exact wk_ireturn X dX3_treadsTogether_45 hf
def f_X3_treadsTogether_36 (k4 : Nat → Int32 → Int32 → Int32 → hp_H → Option (Int32 × hp_H)) (x0 : Nat) (x1 : Int32) (x3 : Int32) (t0 : Int32) (t1 : Int32) (h : hp_H) : Option (Int32 × hp_H) := k4 x0 x1 (t0 ||| t1) (x3 + 1) h
set_option maxRecDepth 20000 in
theorem w_X3_treadsTogether_36 (X : wx G p s m args meth c cX3_treadsTogether 4 RX3 (some .int)) (k4 : Nat → Int32 → Int32 → Int32 → hp_H → Option (Int32 × hp_H)) (hk4 : ∀ (x0 : Nat) (x1 : Int32) (x2 : Int32) (x3 : Int32) (h : hp_H), k4 x0 x1 x2 x3 h = some o → wq p l e (mt_R (2) 0 0) s m args below meth c (MQ below (mt_Q G (some (.int o.1)) o.2) args s 0 0 (hp_A G)) G 4 0 0 4 [(0, .ref x0), (1, .int x1), (2, .int x2), (3, .int x3)] [] h) (x0 : Nat) (x1 : Int32) (x3 : Int32) (t0 : Int32) (t1 : Int32) (h : hp_H) (hf : f_X3_treadsTogether_36 k4 x0 x1 x3 t0 t1 h = some o) : wq p l e (mt_R (2) 0 0) s m args below meth c (MQ below (mt_Q G (some (.int o.1)) o.2) args s 0 0 (hp_A G)) G 4 0 0 36 [(0, .ref x0), (1, .int x1), (3, .int x3)] [.int t1, .int t0] h := by
  unfold f_X3_treadsTogether_36 at hf
  refine wk_ior X dX3_treadsTogether_36 ?_
  refine wk_istore_n (lv' := [(2, .int (t0 ||| t1)), (0, .ref x0), (1, .int x1), (3, .int x3)]) X dX3_treadsTogether_37 (by decide) rfl ?_
  refine wk_iinc (lv' := [(3, .int (x3 + 1)), (2, .int (t0 ||| t1)), (0, .ref x0), (1, .int x1)]) X dX3_treadsTogether_38 3 rfl ic_1 (by decide) rfl ?_
  refine wk_goto X 4 dX3_treadsTogether_41 (by decide) ?_
  exact wq_sub [2, 3, 1, 0] rfl (hk4 _ _ _ _ _ hf)
def f_X3_treadsTogether_4 (k4 : Nat → Int32 → Int32 → Int32 → hp_H → Option (Int32 × hp_H)) (x0 : Nat) (x1 : Int32) (x2 : Int32) (x3 : Int32) (h : hp_H) : Option (Int32 × hp_H) := (rd_R h x0 3 0).bind fun v1 => (rd_I h v1 1 1).bind fun v2 => if v2 ≤ x3 then (f_X3_treadsTogether_44 x2 h) else ((f_X10_holds x1 x3 h).bind fun r3 => if r3.1 = 0 then (f_X3_treadsTogether_36 k4 x0 x1 x3 x2 0 r3.2) else ((rd_R r3.2 x0 3 2).bind fun v4 => (f_X2_at v4 x3 r3.2).bind fun r5 => f_X3_treadsTogether_36 k4 x0 x1 x3 x2 r5.1 r5.2))
set_option maxRecDepth 20000 in
theorem w_X3_treadsTogether_4 (X : wx G p s m args meth c cX3_treadsTogether 4 RX3 (some .int)) (k4 : Nat → Int32 → Int32 → Int32 → hp_H → Option (Int32 × hp_H)) (hk4 : ∀ (x0 : Nat) (x1 : Int32) (x2 : Int32) (x3 : Int32) (h : hp_H), k4 x0 x1 x2 x3 h = some o → wq p l e (mt_R (2) 0 0) s m args below meth c (MQ below (mt_Q G (some (.int o.1)) o.2) args s 0 0 (hp_A G)) G 4 0 0 4 [(0, .ref x0), (1, .int x1), (2, .int x2), (3, .int x3)] [] h) (x0 : Nat) (x1 : Int32) (x2 : Int32) (x3 : Int32) (h : hp_H) (hf : f_X3_treadsTogether_4 k4 x0 x1 x2 x3 h = some o) : wq p l e (mt_R (2) 0 0) s m args below meth c (MQ below (mt_Q G (some (.int o.1)) o.2) args s 0 0 (hp_A G)) G 4 0 0 4 [(0, .ref x0), (1, .int x1), (2, .int x2), (3, .int x3)] [] h := by
  unfold f_X3_treadsTogether_4 at hf
  refine wk_iload_n X dX3_treadsTogether_4 3 rfl ?_
  refine wk_aload_n X dX3_treadsTogether_5 0 rfl ?_
  refine wk_getR X dX3_treadsTogether_6 fo_X3_33 hf (fun v1 hf => ?_)
  refine wk_getI X dX3_treadsTogether_9 fo_X3_104 hf (fun v2 hf => ?_)
  refine wk_icmp_ge X 44 dX3_treadsTogether_12 (by decide) hf (fun hf => ?_) (fun hf => ?_)
  · exact wq_sub [2] rfl (w_X3_treadsTogether_44 X _ _ hf)
  · refine wk_iload_n X dX3_treadsTogether_15 2 rfl ?_
    refine wk_iload_n X dX3_treadsTogether_16 1 rfl ?_
    refine wk_iload_n X dX3_treadsTogether_17 3 rfl ?_
    refine wk_callSNi X [.int x1, .int x3] [.int x2] dX3_treadsTogether_18 rfl vo_X3_107 rfl (by decide) (Nat.le_of_ble_eq_true rfl) hf (c_X10_holds l _ _ _) (fun r3 hf => ?_)
    refine wk_if_eq X 35 dX3_treadsTogether_21 (by decide) hf (fun hf => ?_) (fun hf => ?_)
    · refine wk_iconst X dX3_treadsTogether_35 ic_0 ?_
      exact wq_sub [0, 1, 3] rfl (w_X3_treadsTogether_36 X k4 hk4 _ _ _ _ _ _ hf)
    · refine wk_aload_n X dX3_treadsTogether_24 0 rfl ?_
      refine wk_getR X dX3_treadsTogether_25 fo_X3_20 hf (fun v4 hf => ?_)
      refine wk_iload_n X dX3_treadsTogether_28 3 rfl ?_
      refine wk_callVi X [.int x3] [.int x2] dX3_treadsTogether_29 rfl vo_X3_52 rfl (by decide) (Nat.le_of_ble_eq_true rfl) hf (c_X2_at l _ _ _) (fun r5 hf => ?_)
      refine wk_goto X 36 dX3_treadsTogether_32 (by decide) ?_
      exact wq_sub [0, 1, 3] rfl (w_X3_treadsTogether_36 X k4 hk4 _ _ _ _ _ _ hf)
def l_X3_treadsTogether_4 (x0 : Nat) (x1 : Int32) (x2 : Int32) (x3 : Int32) (h : hp_H) : Option (Int32 × hp_H) := lp (fun k (s : Nat × Int32 × Int32 × Int32 × hp_H) => f_X3_treadsTogether_4  (fun a0 a1 a2 a3 a4 => k (a0, a1, a2, a3, a4)) s.1 s.2.1 s.2.2.1 s.2.2.2.1 s.2.2.2.2) 100000 (x0, x1, x2, x3, h)
theorem wl_X3_treadsTogether_4 (X : wx G p s m args meth c cX3_treadsTogether 4 RX3 (some .int)) (x0 : Nat) (x1 : Int32) (x2 : Int32) (x3 : Int32) (h : hp_H) (hf : l_X3_treadsTogether_4 x0 x1 x2 x3 h = some o) : wq p l e (mt_R (2) 0 0) s m args below meth c (MQ below (mt_Q G (some (.int o.1)) o.2) args s 0 0 (hp_A G)) G 4 0 0 4 [(0, .ref x0), (1, .int x1), (2, .int x2), (3, .int x3)] [] h :=
  lp_ind (P := fun (s_ : Nat × Int32 × Int32 × Int32 × hp_H) => wq p l e (mt_R (2) 0 0) s m args below meth c (MQ below (mt_Q G (some (.int o.1)) o.2) args s 0 0 (hp_A G)) G 4 0 0 4 [(0, .ref s_.1), (1, .int s_.2.1), (2, .int s_.2.2.1), (3, .int s_.2.2.2.1)] [] s_.2.2.2.2) (fun k s hk hf => w_X3_treadsTogether_4 X  (fun a0 a1 a2 a3 a4 => k (a0, a1, a2, a3, a4)) (fun a0 a1 a2 a3 a4 hf => hk (a0, a1, a2, a3, a4) hf) s.1 s.2.1 s.2.2.1 s.2.2.2.1 s.2.2.2.2 hf) 100000 (x0, x1, x2, x3, h) hf
end Sf_X3_treadsTogether
def f_X3_treadsTogether (x0 : Nat) (x1 : Int32) (h : hp_H) : Option (Int32 × hp_H) := gd h x0 3 (l_X3_treadsTogether_4 x0 x1 0 0 h)
set_option maxRecDepth 20000 in
theorem c_X3_treadsTogether (l : Launch) (x0 : Nat) (x1 : Int32) (h : hp_H) (r : Int32 × hp_H) (hf : f_X3_treadsTogether x0 x1 h = some r) : cv l (2) yX3_treadsTogether cX3_treadsTogether 4 (some .int) 3 x0 [.int x1] h (some (.int r.1)) r.2 := by
  unfold f_X3_treadsTogether at hf
  refine cv_of (lv := [(0, .ref x0), (1, .int x1)]) hf (by decide +kernel) (Nat.le_of_ble_eq_true rfl) rfl (fun hf p e s m args below meth c G X => ?_)
  refine wk_iconst X dX3_treadsTogether_0 ic_0 ?_
  refine wk_istore_n (lv' := [(2, .int 0), (0, .ref x0), (1, .int x1)]) X dX3_treadsTogether_1 (by decide) rfl ?_
  refine wk_iconst X dX3_treadsTogether_2 ic_0 ?_
  refine wk_istore_n (lv' := [(3, .int 0), (2, .int 0), (0, .ref x0), (1, .int x1)]) X dX3_treadsTogether_3 (by decide) rfl ?_
  exact wq_sub [2, 3, 1, 0] rfl (wl_X3_treadsTogether_4 X _ _ _ _ _ hf)
section Sf_X3_reachedFrom
variable {p : Program} {l : Launch} {e : Env} {s : State} {m : MethodId} {args : Array Value} {below : List Frame} {meth : Method} {c : Code} {G : hp_G} {o : Int32 × hp_H}
def f_X3_reachedFrom_79 (x3 : Int32) (h : hp_H) : Option (Int32 × hp_H) := some (x3, h)
set_option maxRecDepth 20000 in
theorem w_X3_reachedFrom_79 (X : wx G p s m args meth c cX3_reachedFrom 6 RX3 (some .int)) (x3 : Int32) (h : hp_H) (hf : f_X3_reachedFrom_79 x3 h = some o) : wq p l e (mt_R (3) 0 0) s m args below meth c (MQ below (mt_Q G (some (.int o.1)) o.2) args s 0 0 (hp_A G)) G 6 0 0 79 [(3, .int x3)] [] h := by
  unfold f_X3_reachedFrom_79 at hf
  refine wk_iload_n X dX3_reachedFrom_79 0 rfl ?_
  exact wk_ireturn X dX3_reachedFrom_80 hf
def f_X3_reachedFrom_73 (k5 : Nat → Int32 → Int32 → Int32 → Int32 → hp_H → Option (Int32 × hp_H)) (x0 : Nat) (x1 : Int32) (x2 : Int32) (x3 : Int32) (x4 : Int32) (h : hp_H) : Option (Int32 × hp_H) := k5 x0 x1 x2 x3 (x4 + 1) h
set_option maxRecDepth 20000 in
theorem w_X3_reachedFrom_73 (X : wx G p s m args meth c cX3_reachedFrom 6 RX3 (some .int)) (k5 : Nat → Int32 → Int32 → Int32 → Int32 → hp_H → Option (Int32 × hp_H)) (hk5 : ∀ (x0 : Nat) (x1 : Int32) (x2 : Int32) (x3 : Int32) (x4 : Int32) (h : hp_H), k5 x0 x1 x2 x3 x4 h = some o → wq p l e (mt_R (3) 0 0) s m args below meth c (MQ below (mt_Q G (some (.int o.1)) o.2) args s 0 0 (hp_A G)) G 6 0 0 5 [(0, .ref x0), (1, .int x1), (2, .int x2), (3, .int x3), (4, .int x4)] [] h) (x0 : Nat) (x1 : Int32) (x2 : Int32) (x3 : Int32) (x4 : Int32) (h : hp_H) (hf : f_X3_reachedFrom_73 k5 x0 x1 x2 x3 x4 h = some o) : wq p l e (mt_R (3) 0 0) s m args below meth c (MQ below (mt_Q G (some (.int o.1)) o.2) args s 0 0 (hp_A G)) G 6 0 0 73 [(0, .ref x0), (1, .int x1), (2, .int x2), (3, .int x3), (4, .int x4)] [] h := by
  unfold f_X3_reachedFrom_73 at hf
  refine wk_iinc (lv' := [(4, .int (x4 + 1)), (0, .ref x0), (1, .int x1), (2, .int x2), (3, .int x3)]) X dX3_reachedFrom_73 4 rfl ic_1 (by decide) rfl ?_
  refine wk_goto X 5 dX3_reachedFrom_76 (by decide) ?_
  exact wq_sub [1, 2, 3, 4, 0] rfl (hk5 _ _ _ _ _ _ hf)
def f_X3_reachedFrom_67 (k5 : Nat → Int32 → Int32 → Int32 → Int32 → hp_H → Option (Int32 × hp_H)) (k20 : Nat → Int32 → Int32 → Int32 → Int32 → Int32 → hp_H → Option (Int32 × hp_H)) (x0 : Nat) (x1 : Int32) (x2 : Int32) (x3 : Int32) (x4 : Int32) (x5 : Int32) (h : hp_H) : Option (Int32 × hp_H) := k20 x0 x1 x2 x3 x4 (x5 + 1) h
set_option maxRecDepth 20000 in
theorem w_X3_reachedFrom_67 (X : wx G p s m args meth c cX3_reachedFrom 6 RX3 (some .int)) (k5 : Nat → Int32 → Int32 → Int32 → Int32 → hp_H → Option (Int32 × hp_H)) (hk5 : ∀ (x0 : Nat) (x1 : Int32) (x2 : Int32) (x3 : Int32) (x4 : Int32) (h : hp_H), k5 x0 x1 x2 x3 x4 h = some o → wq p l e (mt_R (3) 0 0) s m args below meth c (MQ below (mt_Q G (some (.int o.1)) o.2) args s 0 0 (hp_A G)) G 6 0 0 5 [(0, .ref x0), (1, .int x1), (2, .int x2), (3, .int x3), (4, .int x4)] [] h) (k20 : Nat → Int32 → Int32 → Int32 → Int32 → Int32 → hp_H → Option (Int32 × hp_H)) (hk20 : ∀ (x0 : Nat) (x1 : Int32) (x2 : Int32) (x3 : Int32) (x4 : Int32) (x5 : Int32) (h : hp_H), k20 x0 x1 x2 x3 x4 x5 h = some o → wq p l e (mt_R (3) 0 0) s m args below meth c (MQ below (mt_Q G (some (.int o.1)) o.2) args s 0 0 (hp_A G)) G 6 0 0 20 [(0, .ref x0), (1, .int x1), (2, .int x2), (3, .int x3), (4, .int x4), (5, .int x5)] [] h) (x0 : Nat) (x1 : Int32) (x2 : Int32) (x3 : Int32) (x4 : Int32) (x5 : Int32) (h : hp_H) (hf : f_X3_reachedFrom_67 k5 k20 x0 x1 x2 x3 x4 x5 h = some o) : wq p l e (mt_R (3) 0 0) s m args below meth c (MQ below (mt_Q G (some (.int o.1)) o.2) args s 0 0 (hp_A G)) G 6 0 0 67 [(0, .ref x0), (1, .int x1), (2, .int x2), (3, .int x3), (4, .int x4), (5, .int x5)] [] h := by
  unfold f_X3_reachedFrom_67 at hf
  refine wk_iinc (lv' := [(5, .int (x5 + 1)), (0, .ref x0), (1, .int x1), (2, .int x2), (3, .int x3), (4, .int x4)]) X dX3_reachedFrom_67 5 rfl ic_1 (by decide) rfl ?_
  refine wk_goto X 20 dX3_reachedFrom_70 (by decide) ?_
  exact wq_sub [1, 2, 3, 4, 5, 0] rfl (hk20 _ _ _ _ _ _ _ hf)
def f_X3_reachedFrom_20 (k5 : Nat → Int32 → Int32 → Int32 → Int32 → hp_H → Option (Int32 × hp_H)) (k20 : Nat → Int32 → Int32 → Int32 → Int32 → Int32 → hp_H → Option (Int32 × hp_H)) (x0 : Nat) (x1 : Int32) (x2 : Int32) (x3 : Int32) (x4 : Int32) (x5 : Int32) (h : hp_H) : Option (Int32 × hp_H) := (rd_R h x0 3 0).bind fun v1 => (rd_I h v1 1 1).bind fun v2 => if v2 ≤ x5 then (f_X3_reachedFrom_73 k5 x0 x1 x2 x3 x4 h) else ((f_X10_holds x1 x4 h).bind fun r3 => if r3.1 = 0 then (f_X3_reachedFrom_67 k5 k20 x0 x1 x2 x3 x4 x5 r3.2) else ((rd_R r3.2 x0 3 2).bind fun v4 => (f_X2_at v4 x5 r3.2).bind fun r5 => (f_X3_farFrom x0 x4 r5.1 r5.2).bind fun r6 => if x2 < r6.1 then (f_X3_reachedFrom_67 k5 k20 x0 x1 x2 x3 x4 x5 r6.2) else (f_X3_reachedFrom_67 k5 k20 x0 x1 x2 (x3 ||| (1 <<< (x5 &&& 31))) x4 x5 r6.2)))
set_option maxRecDepth 20000 in
theorem w_X3_reachedFrom_20 (X : wx G p s m args meth c cX3_reachedFrom 6 RX3 (some .int)) (k5 : Nat → Int32 → Int32 → Int32 → Int32 → hp_H → Option (Int32 × hp_H)) (hk5 : ∀ (x0 : Nat) (x1 : Int32) (x2 : Int32) (x3 : Int32) (x4 : Int32) (h : hp_H), k5 x0 x1 x2 x3 x4 h = some o → wq p l e (mt_R (3) 0 0) s m args below meth c (MQ below (mt_Q G (some (.int o.1)) o.2) args s 0 0 (hp_A G)) G 6 0 0 5 [(0, .ref x0), (1, .int x1), (2, .int x2), (3, .int x3), (4, .int x4)] [] h) (k20 : Nat → Int32 → Int32 → Int32 → Int32 → Int32 → hp_H → Option (Int32 × hp_H)) (hk20 : ∀ (x0 : Nat) (x1 : Int32) (x2 : Int32) (x3 : Int32) (x4 : Int32) (x5 : Int32) (h : hp_H), k20 x0 x1 x2 x3 x4 x5 h = some o → wq p l e (mt_R (3) 0 0) s m args below meth c (MQ below (mt_Q G (some (.int o.1)) o.2) args s 0 0 (hp_A G)) G 6 0 0 20 [(0, .ref x0), (1, .int x1), (2, .int x2), (3, .int x3), (4, .int x4), (5, .int x5)] [] h) (x0 : Nat) (x1 : Int32) (x2 : Int32) (x3 : Int32) (x4 : Int32) (x5 : Int32) (h : hp_H) (hf : f_X3_reachedFrom_20 k5 k20 x0 x1 x2 x3 x4 x5 h = some o) : wq p l e (mt_R (3) 0 0) s m args below meth c (MQ below (mt_Q G (some (.int o.1)) o.2) args s 0 0 (hp_A G)) G 6 0 0 20 [(0, .ref x0), (1, .int x1), (2, .int x2), (3, .int x3), (4, .int x4), (5, .int x5)] [] h := by
  unfold f_X3_reachedFrom_20 at hf
  refine wk_iload X dX3_reachedFrom_20 5 rfl ?_
  refine wk_aload_n X dX3_reachedFrom_22 0 rfl ?_
  refine wk_getR X dX3_reachedFrom_23 fo_X3_33 hf (fun v1 hf => ?_)
  refine wk_getI X dX3_reachedFrom_26 fo_X3_104 hf (fun v2 hf => ?_)
  refine wk_icmp_ge X 73 dX3_reachedFrom_29 (by decide) hf (fun hf => ?_) (fun hf => ?_)
  · exact wq_sub [0, 1, 2, 3, 4] rfl (w_X3_reachedFrom_73 X k5 hk5 _ _ _ _ _ _ hf)
  · refine wk_iload_n X dX3_reachedFrom_32 1 rfl ?_
    refine wk_iload X dX3_reachedFrom_33 4 rfl ?_
    refine wk_callSNi X [.int x1, .int x4] [] dX3_reachedFrom_35 rfl vo_X3_107 rfl (by decide) (Nat.le_of_ble_eq_true rfl) hf (c_X10_holds l _ _ _) (fun r3 hf => ?_)
    refine wk_if_eq X 67 dX3_reachedFrom_38 (by decide) hf (fun hf => ?_) (fun hf => ?_)
    · exact wq_sub [0, 1, 2, 3, 4, 5] rfl (w_X3_reachedFrom_67 X k5 hk5 k20 hk20 _ _ _ _ _ _ _ hf)
    · refine wk_aload_n X dX3_reachedFrom_41 0 rfl ?_
      refine wk_iload X dX3_reachedFrom_42 4 rfl ?_
      refine wk_aload_n X dX3_reachedFrom_44 0 rfl ?_
      refine wk_getR X dX3_reachedFrom_45 fo_X3_20 hf (fun v4 hf => ?_)
      refine wk_iload X dX3_reachedFrom_48 5 rfl ?_
      refine wk_callVi X [.int x5] [.int x4, .ref x0] dX3_reachedFrom_50 rfl vo_X3_52 rfl (by decide) (Nat.le_of_ble_eq_true rfl) hf (c_X2_at l _ _ _) (fun r5 hf => ?_)
      refine wk_callVi X [.int x4, .int r5.1] [] dX3_reachedFrom_53 rfl vo_X3_137 rfl (by decide) (Nat.le_of_ble_eq_true rfl) hf (c_X3_farFrom l _ _ _ _) (fun r6 hf => ?_)
      refine wk_iload_n X dX3_reachedFrom_56 2 rfl ?_
      refine wk_icmp_gt X 67 dX3_reachedFrom_57 (by decide) hf (fun hf => ?_) (fun hf => ?_)
      · exact wq_sub [0, 1, 2, 3, 4, 5] rfl (w_X3_reachedFrom_67 X k5 hk5 k20 hk20 _ _ _ _ _ _ _ hf)
      · refine wk_iload_n X dX3_reachedFrom_60 3 rfl ?_
        refine wk_iconst X dX3_reachedFrom_61 ic_1 ?_
        refine wk_iload X dX3_reachedFrom_62 5 rfl ?_
        refine wk_ishl X dX3_reachedFrom_64 ?_
        refine wk_ior X dX3_reachedFrom_65 ?_
        refine wk_istore_n (lv' := [(3, .int (x3 ||| (1 <<< (x5 &&& 31)))), (0, .ref x0), (1, .int x1), (2, .int x2), (4, .int x4), (5, .int x5)]) X dX3_reachedFrom_66 (by decide) rfl ?_
        exact wq_sub [1, 2, 3, 0, 4, 5] rfl (w_X3_reachedFrom_67 X k5 hk5 k20 hk20 _ _ _ _ _ _ _ hf)
def l_X3_reachedFrom_20 (k5 : Nat → Int32 → Int32 → Int32 → Int32 → hp_H → Option (Int32 × hp_H)) (x0 : Nat) (x1 : Int32) (x2 : Int32) (x3 : Int32) (x4 : Int32) (x5 : Int32) (h : hp_H) : Option (Int32 × hp_H) := lp (fun k (s : Nat × Int32 × Int32 × Int32 × Int32 × Int32 × hp_H) => f_X3_reachedFrom_20 k5 (fun a0 a1 a2 a3 a4 a5 a6 => k (a0, a1, a2, a3, a4, a5, a6)) s.1 s.2.1 s.2.2.1 s.2.2.2.1 s.2.2.2.2.1 s.2.2.2.2.2.1 s.2.2.2.2.2.2) 100000 (x0, x1, x2, x3, x4, x5, h)
theorem wl_X3_reachedFrom_20 (X : wx G p s m args meth c cX3_reachedFrom 6 RX3 (some .int)) (k5 : Nat → Int32 → Int32 → Int32 → Int32 → hp_H → Option (Int32 × hp_H)) (hk5 : ∀ (x0 : Nat) (x1 : Int32) (x2 : Int32) (x3 : Int32) (x4 : Int32) (h : hp_H), k5 x0 x1 x2 x3 x4 h = some o → wq p l e (mt_R (3) 0 0) s m args below meth c (MQ below (mt_Q G (some (.int o.1)) o.2) args s 0 0 (hp_A G)) G 6 0 0 5 [(0, .ref x0), (1, .int x1), (2, .int x2), (3, .int x3), (4, .int x4)] [] h) (x0 : Nat) (x1 : Int32) (x2 : Int32) (x3 : Int32) (x4 : Int32) (x5 : Int32) (h : hp_H) (hf : l_X3_reachedFrom_20 k5 x0 x1 x2 x3 x4 x5 h = some o) : wq p l e (mt_R (3) 0 0) s m args below meth c (MQ below (mt_Q G (some (.int o.1)) o.2) args s 0 0 (hp_A G)) G 6 0 0 20 [(0, .ref x0), (1, .int x1), (2, .int x2), (3, .int x3), (4, .int x4), (5, .int x5)] [] h :=
  lp_ind (P := fun (s_ : Nat × Int32 × Int32 × Int32 × Int32 × Int32 × hp_H) => wq p l e (mt_R (3) 0 0) s m args below meth c (MQ below (mt_Q G (some (.int o.1)) o.2) args s 0 0 (hp_A G)) G 6 0 0 20 [(0, .ref s_.1), (1, .int s_.2.1), (2, .int s_.2.2.1), (3, .int s_.2.2.2.1), (4, .int s_.2.2.2.2.1), (5, .int s_.2.2.2.2.2.1)] [] s_.2.2.2.2.2.2) (fun k s hk hf => w_X3_reachedFrom_20 X k5 hk5 (fun a0 a1 a2 a3 a4 a5 a6 => k (a0, a1, a2, a3, a4, a5, a6)) (fun a0 a1 a2 a3 a4 a5 a6 hf => hk (a0, a1, a2, a3, a4, a5, a6) hf) s.1 s.2.1 s.2.2.1 s.2.2.2.1 s.2.2.2.2.1 s.2.2.2.2.2.1 s.2.2.2.2.2.2 hf) 100000 (x0, x1, x2, x3, x4, x5, h) hf
def f_X3_reachedFrom_5 (k5 : Nat → Int32 → Int32 → Int32 → Int32 → hp_H → Option (Int32 × hp_H)) (x0 : Nat) (x1 : Int32) (x2 : Int32) (x3 : Int32) (x4 : Int32) (h : hp_H) : Option (Int32 × hp_H) := (rd_R h x0 3 0).bind fun v1 => (rd_I h v1 1 1).bind fun v2 => if v2 ≤ x4 then (f_X3_reachedFrom_79 x3 h) else (l_X3_reachedFrom_20 k5 x0 x1 x2 x3 x4 0 h)
set_option maxRecDepth 20000 in
theorem w_X3_reachedFrom_5 (X : wx G p s m args meth c cX3_reachedFrom 6 RX3 (some .int)) (k5 : Nat → Int32 → Int32 → Int32 → Int32 → hp_H → Option (Int32 × hp_H)) (hk5 : ∀ (x0 : Nat) (x1 : Int32) (x2 : Int32) (x3 : Int32) (x4 : Int32) (h : hp_H), k5 x0 x1 x2 x3 x4 h = some o → wq p l e (mt_R (3) 0 0) s m args below meth c (MQ below (mt_Q G (some (.int o.1)) o.2) args s 0 0 (hp_A G)) G 6 0 0 5 [(0, .ref x0), (1, .int x1), (2, .int x2), (3, .int x3), (4, .int x4)] [] h) (x0 : Nat) (x1 : Int32) (x2 : Int32) (x3 : Int32) (x4 : Int32) (h : hp_H) (hf : f_X3_reachedFrom_5 k5 x0 x1 x2 x3 x4 h = some o) : wq p l e (mt_R (3) 0 0) s m args below meth c (MQ below (mt_Q G (some (.int o.1)) o.2) args s 0 0 (hp_A G)) G 6 0 0 5 [(0, .ref x0), (1, .int x1), (2, .int x2), (3, .int x3), (4, .int x4)] [] h := by
  unfold f_X3_reachedFrom_5 at hf
  refine wk_iload X dX3_reachedFrom_5 4 rfl ?_
  refine wk_aload_n X dX3_reachedFrom_7 0 rfl ?_
  refine wk_getR X dX3_reachedFrom_8 fo_X3_33 hf (fun v1 hf => ?_)
  refine wk_getI X dX3_reachedFrom_11 fo_X3_104 hf (fun v2 hf => ?_)
  refine wk_icmp_ge X 79 dX3_reachedFrom_14 (by decide) hf (fun hf => ?_) (fun hf => ?_)
  · exact wq_sub [3] rfl (w_X3_reachedFrom_79 X _ _ hf)
  · refine wk_iconst X dX3_reachedFrom_17 ic_0 ?_
    refine wk_istore (lv' := [(5, .int 0), (0, .ref x0), (1, .int x1), (2, .int x2), (3, .int x3), (4, .int x4)]) X dX3_reachedFrom_18 (by decide) rfl ?_
    exact wq_sub [1, 2, 3, 4, 5, 0] rfl (wl_X3_reachedFrom_20 X k5 hk5 _ _ _ _ _ _ _ hf)
def l_X3_reachedFrom_5 (x0 : Nat) (x1 : Int32) (x2 : Int32) (x3 : Int32) (x4 : Int32) (h : hp_H) : Option (Int32 × hp_H) := lp (fun k (s : Nat × Int32 × Int32 × Int32 × Int32 × hp_H) => f_X3_reachedFrom_5  (fun a0 a1 a2 a3 a4 a5 => k (a0, a1, a2, a3, a4, a5)) s.1 s.2.1 s.2.2.1 s.2.2.2.1 s.2.2.2.2.1 s.2.2.2.2.2) 100000 (x0, x1, x2, x3, x4, h)
theorem wl_X3_reachedFrom_5 (X : wx G p s m args meth c cX3_reachedFrom 6 RX3 (some .int)) (x0 : Nat) (x1 : Int32) (x2 : Int32) (x3 : Int32) (x4 : Int32) (h : hp_H) (hf : l_X3_reachedFrom_5 x0 x1 x2 x3 x4 h = some o) : wq p l e (mt_R (3) 0 0) s m args below meth c (MQ below (mt_Q G (some (.int o.1)) o.2) args s 0 0 (hp_A G)) G 6 0 0 5 [(0, .ref x0), (1, .int x1), (2, .int x2), (3, .int x3), (4, .int x4)] [] h :=
  lp_ind (P := fun (s_ : Nat × Int32 × Int32 × Int32 × Int32 × hp_H) => wq p l e (mt_R (3) 0 0) s m args below meth c (MQ below (mt_Q G (some (.int o.1)) o.2) args s 0 0 (hp_A G)) G 6 0 0 5 [(0, .ref s_.1), (1, .int s_.2.1), (2, .int s_.2.2.1), (3, .int s_.2.2.2.1), (4, .int s_.2.2.2.2.1)] [] s_.2.2.2.2.2) (fun k s hk hf => w_X3_reachedFrom_5 X  (fun a0 a1 a2 a3 a4 a5 => k (a0, a1, a2, a3, a4, a5)) (fun a0 a1 a2 a3 a4 a5 hf => hk (a0, a1, a2, a3, a4, a5) hf) s.1 s.2.1 s.2.2.1 s.2.2.2.1 s.2.2.2.2.1 s.2.2.2.2.2 hf) 100000 (x0, x1, x2, x3, x4, h) hf
end Sf_X3_reachedFrom
def f_X3_reachedFrom (x0 : Nat) (x1 : Int32) (x2 : Int32) (h : hp_H) : Option (Int32 × hp_H) := gd h x0 3 (l_X3_reachedFrom_5 x0 x1 x2 x1 0 h)
set_option maxRecDepth 20000 in
theorem c_X3_reachedFrom (l : Launch) (x0 : Nat) (x1 : Int32) (x2 : Int32) (h : hp_H) (r : Int32 × hp_H) (hf : f_X3_reachedFrom x0 x1 x2 h = some r) : cv l (3) yX3_reachedFrom cX3_reachedFrom 6 (some .int) 3 x0 [.int x1, .int x2] h (some (.int r.1)) r.2 := by
  unfold f_X3_reachedFrom at hf
  refine cv_of (lv := [(0, .ref x0), (1, .int x1), (2, .int x2)]) hf (by decide +kernel) (Nat.le_of_ble_eq_true rfl) rfl (fun hf p e s m args below meth c G X => ?_)
  refine wk_iload_n X dX3_reachedFrom_0 1 rfl ?_
  refine wk_istore_n (lv' := [(3, .int x1), (0, .ref x0), (1, .int x1), (2, .int x2)]) X dX3_reachedFrom_1 (by decide) rfl ?_
  refine wk_iconst X dX3_reachedFrom_2 ic_0 ?_
  refine wk_istore (lv' := [(4, .int 0), (3, .int x1), (0, .ref x0), (1, .int x1), (2, .int x2)]) X dX3_reachedFrom_3 (by decide) rfl ?_
  exact wq_sub [2, 3, 4, 1, 0] rfl (wl_X3_reachedFrom_5 X _ _ _ _ _ _ hf)
section Sf_X3_menWithBeat
variable {p : Program} {l : Launch} {e : Env} {s : State} {m : MethodId} {args : Array Value} {below : List Frame} {meth : Method} {c : Code} {G : hp_G} {o : Int32 × hp_H}
def f_X3_menWithBeat_44 (x2 : Int32) (h : hp_H) : Option (Int32 × hp_H) := some (x2, h)
set_option maxRecDepth 20000 in
theorem w_X3_menWithBeat_44 (X : wx G p s m args meth c cX3_menWithBeat 4 RX3 (some .int)) (x2 : Int32) (h : hp_H) (hf : f_X3_menWithBeat_44 x2 h = some o) : wq p l e (mt_R (2) 0 0) s m args below meth c (MQ below (mt_Q G (some (.int o.1)) o.2) args s 0 0 (hp_A G)) G 4 0 0 44 [(2, .int x2)] [] h := by
  unfold f_X3_menWithBeat_44 at hf
  refine wk_iload_n X dX3_menWithBeat_44 0 rfl ?_
  exact wk_ireturn X dX3_menWithBeat_45 hf
def f_X3_menWithBeat_36 (k4 : Nat → Int32 → Int32 → Int32 → hp_H → Option (Int32 × hp_H)) (x0 : Nat) (x1 : Int32) (x3 : Int32) (t0 : Int32) (t1 : Int32) (h : hp_H) : Option (Int32 × hp_H) := k4 x0 x1 (t0 + t1) (x3 + 1) h
set_option maxRecDepth 20000 in
theorem w_X3_menWithBeat_36 (X : wx G p s m args meth c cX3_menWithBeat 4 RX3 (some .int)) (k4 : Nat → Int32 → Int32 → Int32 → hp_H → Option (Int32 × hp_H)) (hk4 : ∀ (x0 : Nat) (x1 : Int32) (x2 : Int32) (x3 : Int32) (h : hp_H), k4 x0 x1 x2 x3 h = some o → wq p l e (mt_R (2) 0 0) s m args below meth c (MQ below (mt_Q G (some (.int o.1)) o.2) args s 0 0 (hp_A G)) G 4 0 0 4 [(0, .ref x0), (1, .int x1), (2, .int x2), (3, .int x3)] [] h) (x0 : Nat) (x1 : Int32) (x3 : Int32) (t0 : Int32) (t1 : Int32) (h : hp_H) (hf : f_X3_menWithBeat_36 k4 x0 x1 x3 t0 t1 h = some o) : wq p l e (mt_R (2) 0 0) s m args below meth c (MQ below (mt_Q G (some (.int o.1)) o.2) args s 0 0 (hp_A G)) G 4 0 0 36 [(0, .ref x0), (1, .int x1), (3, .int x3)] [.int t1, .int t0] h := by
  unfold f_X3_menWithBeat_36 at hf
  refine wk_iadd X dX3_menWithBeat_36 ?_
  refine wk_istore_n (lv' := [(2, .int (t0 + t1)), (0, .ref x0), (1, .int x1), (3, .int x3)]) X dX3_menWithBeat_37 (by decide) rfl ?_
  refine wk_iinc (lv' := [(3, .int (x3 + 1)), (2, .int (t0 + t1)), (0, .ref x0), (1, .int x1)]) X dX3_menWithBeat_38 3 rfl ic_1 (by decide) rfl ?_
  refine wk_goto X 4 dX3_menWithBeat_41 (by decide) ?_
  exact wq_sub [2, 3, 1, 0] rfl (hk4 _ _ _ _ _ hf)
def f_X3_menWithBeat_4 (k4 : Nat → Int32 → Int32 → Int32 → hp_H → Option (Int32 × hp_H)) (x0 : Nat) (x1 : Int32) (x2 : Int32) (x3 : Int32) (h : hp_H) : Option (Int32 × hp_H) := (rd_R h x0 3 0).bind fun v1 => (rd_I h v1 1 1).bind fun v2 => if v2 ≤ x3 then (f_X3_menWithBeat_44 x2 h) else ((rd_R h x0 3 2).bind fun v3 => (f_X2_at v3 x3 h).bind fun r4 => (f_X10_holds r4.1 x1 r4.2).bind fun r5 => if r5.1 = 0 then (f_X3_menWithBeat_36 k4 x0 x1 x3 x2 0 r5.2) else (f_X3_menWithBeat_36 k4 x0 x1 x3 x2 1 r5.2))
set_option maxRecDepth 20000 in
theorem w_X3_menWithBeat_4 (X : wx G p s m args meth c cX3_menWithBeat 4 RX3 (some .int)) (k4 : Nat → Int32 → Int32 → Int32 → hp_H → Option (Int32 × hp_H)) (hk4 : ∀ (x0 : Nat) (x1 : Int32) (x2 : Int32) (x3 : Int32) (h : hp_H), k4 x0 x1 x2 x3 h = some o → wq p l e (mt_R (2) 0 0) s m args below meth c (MQ below (mt_Q G (some (.int o.1)) o.2) args s 0 0 (hp_A G)) G 4 0 0 4 [(0, .ref x0), (1, .int x1), (2, .int x2), (3, .int x3)] [] h) (x0 : Nat) (x1 : Int32) (x2 : Int32) (x3 : Int32) (h : hp_H) (hf : f_X3_menWithBeat_4 k4 x0 x1 x2 x3 h = some o) : wq p l e (mt_R (2) 0 0) s m args below meth c (MQ below (mt_Q G (some (.int o.1)) o.2) args s 0 0 (hp_A G)) G 4 0 0 4 [(0, .ref x0), (1, .int x1), (2, .int x2), (3, .int x3)] [] h := by
  unfold f_X3_menWithBeat_4 at hf
  refine wk_iload_n X dX3_menWithBeat_4 3 rfl ?_
  refine wk_aload_n X dX3_menWithBeat_5 0 rfl ?_
  refine wk_getR X dX3_menWithBeat_6 fo_X3_33 hf (fun v1 hf => ?_)
  refine wk_getI X dX3_menWithBeat_9 fo_X3_104 hf (fun v2 hf => ?_)
  refine wk_icmp_ge X 44 dX3_menWithBeat_12 (by decide) hf (fun hf => ?_) (fun hf => ?_)
  · exact wq_sub [2] rfl (w_X3_menWithBeat_44 X _ _ hf)
  · refine wk_iload_n X dX3_menWithBeat_15 2 rfl ?_
    refine wk_aload_n X dX3_menWithBeat_16 0 rfl ?_
    refine wk_getR X dX3_menWithBeat_17 fo_X3_20 hf (fun v3 hf => ?_)
    refine wk_iload_n X dX3_menWithBeat_20 3 rfl ?_
    refine wk_callVi X [.int x3] [.int x2] dX3_menWithBeat_21 rfl vo_X3_52 rfl (by decide) (Nat.le_of_ble_eq_true rfl) hf (c_X2_at l _ _ _) (fun r4 hf => ?_)
    refine wk_iload_n X dX3_menWithBeat_24 1 rfl ?_
    refine wk_callSNi X [.int r4.1, .int x1] [.int x2] dX3_menWithBeat_25 rfl vo_X3_107 rfl (by decide) (Nat.le_of_ble_eq_true rfl) hf (c_X10_holds l _ _ _) (fun r5 hf => ?_)
    refine wk_if_eq X 35 dX3_menWithBeat_28 (by decide) hf (fun hf => ?_) (fun hf => ?_)
    · refine wk_iconst X dX3_menWithBeat_35 ic_0 ?_
      exact wq_sub [0, 1, 3] rfl (w_X3_menWithBeat_36 X k4 hk4 _ _ _ _ _ _ hf)
    · refine wk_iconst X dX3_menWithBeat_31 ic_1 ?_
      refine wk_goto X 36 dX3_menWithBeat_32 (by decide) ?_
      exact wq_sub [0, 1, 3] rfl (w_X3_menWithBeat_36 X k4 hk4 _ _ _ _ _ _ hf)
def l_X3_menWithBeat_4 (x0 : Nat) (x1 : Int32) (x2 : Int32) (x3 : Int32) (h : hp_H) : Option (Int32 × hp_H) := lp (fun k (s : Nat × Int32 × Int32 × Int32 × hp_H) => f_X3_menWithBeat_4  (fun a0 a1 a2 a3 a4 => k (a0, a1, a2, a3, a4)) s.1 s.2.1 s.2.2.1 s.2.2.2.1 s.2.2.2.2) 100000 (x0, x1, x2, x3, h)
theorem wl_X3_menWithBeat_4 (X : wx G p s m args meth c cX3_menWithBeat 4 RX3 (some .int)) (x0 : Nat) (x1 : Int32) (x2 : Int32) (x3 : Int32) (h : hp_H) (hf : l_X3_menWithBeat_4 x0 x1 x2 x3 h = some o) : wq p l e (mt_R (2) 0 0) s m args below meth c (MQ below (mt_Q G (some (.int o.1)) o.2) args s 0 0 (hp_A G)) G 4 0 0 4 [(0, .ref x0), (1, .int x1), (2, .int x2), (3, .int x3)] [] h :=
  lp_ind (P := fun (s_ : Nat × Int32 × Int32 × Int32 × hp_H) => wq p l e (mt_R (2) 0 0) s m args below meth c (MQ below (mt_Q G (some (.int o.1)) o.2) args s 0 0 (hp_A G)) G 4 0 0 4 [(0, .ref s_.1), (1, .int s_.2.1), (2, .int s_.2.2.1), (3, .int s_.2.2.2.1)] [] s_.2.2.2.2) (fun k s hk hf => w_X3_menWithBeat_4 X  (fun a0 a1 a2 a3 a4 => k (a0, a1, a2, a3, a4)) (fun a0 a1 a2 a3 a4 hf => hk (a0, a1, a2, a3, a4) hf) s.1 s.2.1 s.2.2.1 s.2.2.2.1 s.2.2.2.2 hf) 100000 (x0, x1, x2, x3, h) hf
end Sf_X3_menWithBeat
def f_X3_menWithBeat (x0 : Nat) (x1 : Int32) (h : hp_H) : Option (Int32 × hp_H) := gd h x0 3 (l_X3_menWithBeat_4 x0 x1 0 0 h)
set_option maxRecDepth 20000 in
theorem c_X3_menWithBeat (l : Launch) (x0 : Nat) (x1 : Int32) (h : hp_H) (r : Int32 × hp_H) (hf : f_X3_menWithBeat x0 x1 h = some r) : cv l (2) yX3_menWithBeat cX3_menWithBeat 4 (some .int) 3 x0 [.int x1] h (some (.int r.1)) r.2 := by
  unfold f_X3_menWithBeat at hf
  refine cv_of (lv := [(0, .ref x0), (1, .int x1)]) hf (by decide +kernel) (Nat.le_of_ble_eq_true rfl) rfl (fun hf p e s m args below meth c G X => ?_)
  refine wk_iconst X dX3_menWithBeat_0 ic_0 ?_
  refine wk_istore_n (lv' := [(2, .int 0), (0, .ref x0), (1, .int x1)]) X dX3_menWithBeat_1 (by decide) rfl ?_
  refine wk_iconst X dX3_menWithBeat_2 ic_0 ?_
  refine wk_istore_n (lv' := [(3, .int 0), (2, .int 0), (0, .ref x0), (1, .int x1)]) X dX3_menWithBeat_3 (by decide) rfl ?_
  exact wq_sub [2, 3, 1, 0] rfl (wl_X3_menWithBeat_4 X _ _ _ _ _ hf)
