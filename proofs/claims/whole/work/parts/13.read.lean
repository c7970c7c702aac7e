section S_X5_isNumberNext
variable {p : Program} {l : Launch} {e : Env} {s : State} {m : MethodId} {args : Array Value} {below : List Frame} {meth : Method} {c : Code} {G : hp_G} {o : Int32 × hp_H}
def f_X5_isNumberNext_24 (t0 : Int32) (h : hp_H) : Option (Int32 × hp_H) := if t0 = 0 ∨ t0 = 1 then some (t0, h) else none
set_option maxRecDepth 20000 in
theorem w_X5_isNumberNext_24 (X : wx G p s m args meth c cX5_isNumberNext 2 RX5 (some .boolean)) (t0 : Int32) (h : hp_H) (hf : f_X5_isNumberNext_24 t0 h = some o) : wq p l e (mt_R 1 0 0) s m args below meth c (MQ below (mt_Q G (some (.int o.1)) o.2) args s 0 0 (hp_A G)) G 2 0 0 24 [] [.int t0] h := by
  unfold f_X5_isNumberNext_24 at hf
  exact wk_zreturn X dX5_isNumberNext_24 hf
def f_X5_isNumberNext_23  (h : hp_H) : Option (Int32 × hp_H) := f_X5_isNumberNext_24 0 h
set_option maxRecDepth 20000 in
theorem w_X5_isNumberNext_23 (X : wx G p s m args meth c cX5_isNumberNext 2 RX5 (some .boolean))  (h : hp_H) (hf : f_X5_isNumberNext_23 h = some o) : wq p l e (mt_R 1 0 0) s m args below meth c (MQ below (mt_Q G (some (.int o.1)) o.2) args s 0 0 (hp_A G)) G 2 0 0 23 [] [] h := by
  unfold f_X5_isNumberNext_23 at hf
  refine wk_iconst X dX5_isNumberNext_23 ic_0 ?_
  exact wq_sub [] rfl (w_X5_isNumberNext_24 X _ _ hf)
def f_X5_isNumberNext_19  (h : hp_H) : Option (Int32 × hp_H) := f_X5_isNumberNext_24 1 h
set_option maxRecDepth 20000 in
theorem w_X5_isNumberNext_19 (X : wx G p s m args meth c cX5_isNumberNext 2 RX5 (some .boolean))  (h : hp_H) (hf : f_X5_isNumberNext_19 h = some o) : wq p l e (mt_R 1 0 0) s m args below meth c (MQ below (mt_Q G (some (.int o.1)) o.2) args s 0 0 (hp_A G)) G 2 0 0 19 [] [] h := by
  unfold f_X5_isNumberNext_19 at hf
  refine wk_iconst X dX5_isNumberNext_19 ic_1 ?_
  refine wk_goto X 24 dX5_isNumberNext_20 (by decide) ?_
  exact wq_sub [] rfl (w_X5_isNumberNext_24 X _ _ hf)
end S_X5_isNumberNext
def f_X5_isNumberNext (x0 : Nat) (x1 : Int32) (h : hp_H) : Option (Int32 × hp_H) := gd h x0 5 ((rd_I h x0 5 2).bind fun v1 => if v1 = 0 then (if x1 = 0 then (f_X5_isNumberNext_19 h) else ((rd_I h x0 5 7).bind fun v2 => if v2 = 1 then (f_X5_isNumberNext_19 h) else (f_X5_isNumberNext_23 h))) else (f_X5_isNumberNext_23 h))
set_option maxRecDepth 20000 in
theorem c_X5_isNumberNext (l : Launch) (x0 : Nat) (x1 : Int32) (h : hp_H) (r : Int32 × hp_H) (hf : f_X5_isNumberNext x0 x1 h = some r) : cv l 1 yX5_isNumberNext cX5_isNumberNext 2 (some .boolean) 5 x0 [.int x1] h (some (.int r.1)) r.2 := by
  unfold f_X5_isNumberNext at hf
  refine cv_of (lv := [(0, .ref x0), (1, .int x1)]) hf (by decide +kernel) (Nat.le_of_ble_eq_true rfl) rfl (fun hf p e s m args below meth c G X => ?_)
  refine wk_aload_n X dX5_isNumberNext_0 0 rfl ?_
  refine wk_getI X dX5_isNumberNext_1 fo_X5_27 hf (fun v1 hf => ?_)
  refine wk_if_ne X 23 dX5_isNumberNext_4 (by decide) hf (fun hf => ?_) (fun hf => ?_)
  · exact wq_sub [] rfl (w_X5_isNumberNext_23 X _ hf)
  · refine wk_iload_n X dX5_isNumberNext_7 1 rfl ?_
    refine wk_if_eq X 19 dX5_isNumberNext_8 (by decide) hf (fun hf => ?_) (fun hf => ?_)
    · exact wq_sub [] rfl (w_X5_isNumberNext_19 X _ hf)
    · refine wk_aload_n X dX5_isNumberNext_11 0 rfl ?_
      refine wk_getI X dX5_isNumberNext_12 fo_X5_40 hf (fun v2 hf => ?_)
      refine wk_iconst X dX5_isNumberNext_15 ic_1 ?_
      refine wk_icmp_ne X 23 dX5_isNumberNext_16 (by decide) hf (fun hf => ?_) (fun hf => ?_)
      · exact wq_sub [] rfl (w_X5_isNumberNext_23 X _ hf)
      · exact wq_sub [] rfl (w_X5_isNumberNext_19 X _ hf)
section S_X5_fail
variable {p : Program} {l : Launch} {e : Env} {s : State} {m : MethodId} {args : Array Value} {below : List Frame} {meth : Method} {c : Code} {G : hp_G} {o : hp_H}
def f_X5_fail_20  (h : hp_H) : Option (hp_H) := some h
set_option maxRecDepth 20000 in
theorem w_X5_fail_20 (X : wx G p s m args meth c cX5_fail 2 RX5 none)  (h : hp_H) (hf : f_X5_fail_20 h = some o) : wq p l e (mt_R 1 0 0) s m args below meth c (MQ below (mt_Q G none o) args s 0 0 (hp_A G)) G 2 0 0 20 [] [] h := by
  unfold f_X5_fail_20 at hf
  exact wk_return X dX5_fail_20 hf
end S_X5_fail
def f_X5_fail (x0 : Nat) (x1 : Int32) (h : hp_H) : Option (hp_H) := gd h x0 5 ((rd_I h x0 5 2).bind fun v1 => if v1 = 0 then ((wr_I h x0 5 2 x1).bind fun h2 => (rd_I h2 x0 5 8).bind fun v3 => (wr_I h2 x0 5 3 v3).bind fun h4 => f_X5_fail_20 h4) else (f_X5_fail_20 h))
set_option maxRecDepth 20000 in
theorem c_X5_fail (l : Launch) (x0 : Nat) (x1 : Int32) (h : hp_H) (r : hp_H) (hf : f_X5_fail x0 x1 h = some r) : cv l 1 yX5_fail cX5_fail 2 none 5 x0 [.int x1] h none r := by
  unfold f_X5_fail at hf
  refine cv_of (lv := [(0, .ref x0), (1, .int x1)]) hf (by decide +kernel) (Nat.le_of_ble_eq_true rfl) rfl (fun hf p e s m args below meth c G X => ?_)
  refine wk_aload_n X dX5_fail_0 0 rfl ?_
  refine wk_getI X dX5_fail_1 fo_X5_27 hf (fun v1 hf => ?_)
  refine wk_if_ne X 20 dX5_fail_4 (by decide) hf (fun hf => ?_) (fun hf => ?_)
  · exact wq_sub [] rfl (w_X5_fail_20 X _ hf)
  · refine wk_aload_n X dX5_fail_7 0 rfl ?_
    refine wk_iload_n X dX5_fail_8 1 rfl ?_
    refine wk_putI X dX5_fail_9 fo_X5_27 hf (fun h2 hf => ?_)
    refine wk_aload_n X dX5_fail_12 0 rfl ?_
    refine wk_aload_n X dX5_fail_13 0 rfl ?_
    refine wk_getI X dX5_fail_14 fo_X5_43 hf (fun v3 hf => ?_)
    refine wk_putI X dX5_fail_17 fo_X5_31 hf (fun h4 hf => ?_)
    exact wq_sub [] rfl (w_X5_fail_20 X _ hf)
section S_X5_peek
variable {p : Program} {l : Launch} {e : Env} {s : State} {m : MethodId} {args : Array Value} {below : List Frame} {meth : Method} {c : Code} {G : hp_G} {o : Int32 × hp_H}
def f_X5_peek_44 (x0 : Nat) (h : hp_H) : Option (Int32 × hp_H) := (f_X5_fail x0 2 h).bind fun r1 => some (0, r1)
set_option maxRecDepth 20000 in
theorem w_X5_peek_44 (X : wx G p s m args meth c cX5_peek 3 RX5 (some .int)) (x0 : Nat) (h : hp_H) (hf : f_X5_peek_44 x0 h = some o) : wq p l e (mt_R 2 0 0) s m args below meth c (MQ below (mt_Q G (some (.int o.1)) o.2) args s 0 0 (hp_A G)) G 3 0 0 44 [(0, .ref x0)] [] h := by
  unfold f_X5_peek_44 at hf
  refine wk_aload_n X dX5_peek_44 0 rfl ?_
  refine wk_iconst X dX5_peek_45 ic_2 ?_
  refine wk_callVv X [.int 2] [] dX5_peek_46 rfl vo_X5_129 rfl (by decide) (Nat.le_of_ble_eq_true rfl) hf (c_X5_fail l _ _ _) (fun r1 hf => ?_)
  refine wk_iconst X dX5_peek_49 ic_0 ?_
  exact wk_ireturn X dX5_peek_50 hf
end S_X5_peek
def f_X5_peek (x0 : Nat) (x1 : Int32) (x2 : Int32) (h : hp_H) : Option (Int32 × hp_H) := gd h x0 5 ((rd_I h x0 5 7).bind fun v1 => if v1 = 1 then ((rd_I h x0 5 6).bind fun v2 => (rd_I h x0 5 8).bind fun v3 => if 4 < (v2 - v3) then (f_X5_peek_44 x0 h) else ((rd_I h x0 5 9).bind fun v4 => if v4 < x1 then (f_X5_peek_44 x0 h) else ((rd_I h x0 5 9).bind fun v5 => if v5 ≤ x2 then ((rd_I h x0 5 9).bind fun v6 => some (v6, h)) else (f_X5_peek_44 x0 h)))) else ((f_X5_fail x0 1 h).bind fun r7 => some (0, r7)))
set_option maxRecDepth 20000 in
theorem c_X5_peek (l : Launch) (x0 : Nat) (x1 : Int32) (x2 : Int32) (h : hp_H) (r : Int32 × hp_H) (hf : f_X5_peek x0 x1 x2 h = some r) : cv l 2 yX5_peek cX5_peek 3 (some .int) 5 x0 [.int x1, .int x2] h (some (.int r.1)) r.2 := by
  unfold f_X5_peek at hf
  refine cv_of (lv := [(0, .ref x0), (1, .int x1), (2, .int x2)]) hf (by decide +kernel) (Nat.le_of_ble_eq_true rfl) rfl (fun hf p e s m args below meth c G X => ?_)
  refine wk_aload_n X dX5_peek_0 0 rfl ?_
  refine wk_getI X dX5_peek_1 fo_X5_40 hf (fun v1 hf => ?_)
  refine wk_iconst X dX5_peek_4 ic_1 ?_
  refine wk_icmp_eq X 15 dX5_peek_5 (by decide) hf (fun hf => ?_) (fun hf => ?_)
  · refine wk_aload_n X dX5_peek_15 0 rfl ?_
    refine wk_getI X dX5_peek_16 fo_X5_37 hf (fun v2 hf => ?_)
    refine wk_aload_n X dX5_peek_19 0 rfl ?_
    refine wk_getI X dX5_peek_20 fo_X5_43 hf (fun v3 hf => ?_)
    refine wk_isub X dX5_peek_23 ?_
    refine wk_iconst X dX5_peek_24 ic_4 ?_
    refine wk_icmp_gt X 44 dX5_peek_25 (by decide) hf (fun hf => ?_) (fun hf => ?_)
    · exact wq_sub [0] rfl (w_X5_peek_44 X _ _ hf)
    · refine wk_aload_n X dX5_peek_28 0 rfl ?_
      refine wk_getI X dX5_peek_29 fo_X5_46 hf (fun v4 hf => ?_)
      refine wk_iload_n X dX5_peek_32 1 rfl ?_
      refine wk_icmp_lt X 44 dX5_peek_33 (by decide) hf (fun hf => ?_) (fun hf => ?_)
      · exact wq_sub [0] rfl (w_X5_peek_44 X _ _ hf)
      · refine wk_aload_n X dX5_peek_36 0 rfl ?_
        refine wk_getI X dX5_peek_37 fo_X5_46 hf (fun v5 hf => ?_)
        refine wk_iload_n X dX5_peek_40 2 rfl ?_
        refine wk_icmp_le X 51 dX5_peek_41 (by decide) hf (fun hf => ?_) (fun hf => ?_)
        · refine wk_aload_n X dX5_peek_51 0 rfl ?_
          refine wk_getI X dX5_peek_52 fo_X5_46 hf (fun v6 hf => ?_)
          exact wk_ireturn X dX5_peek_55 hf
        · exact wq_sub [0] rfl (w_X5_peek_44 X _ _ hf)
  · refine wk_aload_n X dX5_peek_8 0 rfl ?_
    refine wk_iconst X dX5_peek_9 ic_1 ?_
    refine wk_callVv X [.int 1] [] dX5_peek_10 rfl vo_X5_129 rfl (by decide) (Nat.le_of_ble_eq_true rfl) hf (c_X5_fail l _ _ _) (fun r7 hf => ?_)
    refine wk_iconst X dX5_peek_13 ic_0 ?_
    exact wk_ireturn X dX5_peek_14 hf
section S_X5_isSign
variable {p : Program} {l : Launch} {e : Env} {s : State} {m : MethodId} {args : Array Value} {below : List Frame} {meth : Method} {c : Code} {G : hp_G} {o : Int32 × hp_H}
def f_X5_isSign_35 (t0 : Int32) (h : hp_H) : Option (Int32 × hp_H) := if t0 = 0 ∨ t0 = 1 then some (t0, h) else none
set_option maxRecDepth 20000 in
theorem w_X5_isSign_35 (X : wx G p s m args meth c cX5_isSign 2 RX5 (some .boolean)) (t0 : Int32) (h : hp_H) (hf : f_X5_isSign_35 t0 h = some o) : wq p l e (mt_R 2 0 0) s m args below meth c (MQ below (mt_Q G (some (.int o.1)) o.2) args s 0 0 (hp_A G)) G 2 0 0 35 [] [.int t0] h := by
  unfold f_X5_isSign_35 at hf
  exact wk_zreturn X dX5_isSign_35 hf
def f_X5_isSign_34  (h : hp_H) : Option (Int32 × hp_H) := f_X5_isSign_35 0 h
set_option maxRecDepth 20000 in
theorem w_X5_isSign_34 (X : wx G p s m args meth c cX5_isSign 2 RX5 (some .boolean))  (h : hp_H) (hf : f_X5_isSign_34 h = some o) : wq p l e (mt_R 2 0 0) s m args below meth c (MQ below (mt_Q G (some (.int o.1)) o.2) args s 0 0 (hp_A G)) G 2 0 0 34 [] [] h := by
  unfold f_X5_isSign_34 at hf
  refine wk_iconst X dX5_isSign_34 ic_0 ?_
  exact wq_sub [] rfl (w_X5_isSign_35 X _ _ hf)
end S_X5_isSign
def f_X5_isSign (x0 : Nat) (x1 : Int32) (h : hp_H) : Option (Int32 × hp_H) := gd h x0 5 ((rd_I h x0 5 2).bind fun v1 => if v1 = 0 then ((rd_I h x0 5 7).bind fun v2 => if v2 = 3 then ((rd_R h x0 5 4).bind fun v3 => (rd_I h x0 5 8).bind fun v4 => (f_X2_at v3 v4 h).bind fun r5 => if r5.1 = x1 then (f_X5_isSign_35 1 r5.2) else (f_X5_isSign_34 r5.2)) else (f_X5_isSign_34 h)) else (f_X5_isSign_34 h))
set_option maxRecDepth 20000 in
theorem c_X5_isSign (l : Launch) (x0 : Nat) (x1 : Int32) (h : hp_H) (r : Int32 × hp_H) (hf : f_X5_isSign x0 x1 h = some r) : cv l 2 yX5_isSign cX5_isSign 2 (some .boolean) 5 x0 [.int x1] h (some (.int r.1)) r.2 := by
  unfold f_X5_isSign at hf
  refine cv_of (lv := [(0, .ref x0), (1, .int x1)]) hf (by decide +kernel) (Nat.le_of_ble_eq_true rfl) rfl (fun hf p e s m args below meth c G X => ?_)
  refine wk_aload_n X dX5_isSign_0 0 rfl ?_
  refine wk_getI X dX5_isSign_1 fo_X5_27 hf (fun v1 hf => ?_)
  refine wk_if_ne X 34 dX5_isSign_4 (by decide) hf (fun hf => ?_) (fun hf => ?_)
  · exact wq_sub [] rfl (w_X5_isSign_34 X _ hf)
  · refine wk_aload_n X dX5_isSign_7 0 rfl ?_
    refine wk_getI X dX5_isSign_8 fo_X5_40 hf (fun v2 hf => ?_)
    refine wk_iconst X dX5_isSign_11 ic_3 ?_
    refine wk_icmp_ne X 34 dX5_isSign_12 (by decide) hf (fun hf => ?_) (fun hf => ?_)
    · exact wq_sub [] rfl (w_X5_isSign_34 X _ hf)
    · refine wk_aload_n X dX5_isSign_15 0 rfl ?_
      refine wk_getR X dX5_isSign_16 fo_X5_55 hf (fun v3 hf => ?_)
      refine wk_aload_n X dX5_isSign_19 0 rfl ?_
      refine wk_getI X dX5_isSign_20 fo_X5_43 hf (fun v4 hf => ?_)
      refine wk_callVi X [.int v4] [] dX5_isSign_23 rfl vo_X5_75 rfl (by decide) (Nat.le_of_ble_eq_true rfl) hf (c_X2_at l _ _ _) (fun r5 hf => ?_)
      refine wk_iload_n X dX5_isSign_26 1 rfl ?_
      refine wk_icmp_ne X 34 dX5_isSign_27 (by decide) hf (fun hf => ?_) (fun hf => ?_)
      · exact wq_sub [] rfl (w_X5_isSign_34 X _ hf)
      · refine wk_iconst X dX5_isSign_30 ic_1 ?_
        refine wk_goto X 35 dX5_isSign_31 (by decide) ?_
        exact wq_sub [] rfl (w_X5_isSign_35 X _ _ hf)
section S_X5_isBlank
variable {p : Program} {l : Launch} {e : Env} {s : State} {m : MethodId} {args : Array Value} {below : List Frame} {meth : Method} {c : Code} {G : hp_G} {o : Int32 × hp_H}
def f_X5_isBlank_17 (t0 : Int32) (h : hp_H) : Option (Int32 × hp_H) := if t0 = 0 ∨ t0 = 1 then some (t0, h) else none
set_option maxRecDepth 20000 in
theorem w_X5_isBlank_17 (X : wx G p s m args meth c cX5_isBlank 1 RX5 (some .boolean)) (t0 : Int32) (h : hp_H) (hf : f_X5_isBlank_17 t0 h = some o) : wq p l e (mt_R 1 0 0) s m args below meth c (MQ below (mt_Q G (some (.int o.1)) o.2) args s 0 0 (hp_A G)) G 1 0 0 17 [] [.int t0] h := by
  unfold f_X5_isBlank_17 at hf
  exact wk_zreturn X dX5_isBlank_17 hf
def f_X5_isBlank_12  (h : hp_H) : Option (Int32 × hp_H) := f_X5_isBlank_17 1 h
set_option maxRecDepth 20000 in
theorem w_X5_isBlank_12 (X : wx G p s m args meth c cX5_isBlank 1 RX5 (some .boolean))  (h : hp_H) (hf : f_X5_isBlank_12 h = some o) : wq p l e (mt_R 1 0 0) s m args below meth c (MQ below (mt_Q G (some (.int o.1)) o.2) args s 0 0 (hp_A G)) G 1 0 0 12 [] [] h := by
  unfold f_X5_isBlank_12 at hf
  refine wk_iconst X dX5_isBlank_12 ic_1 ?_
  refine wk_goto X 17 dX5_isBlank_13 (by decide) ?_
  exact wq_sub [] rfl (w_X5_isBlank_17 X _ _ hf)
end S_X5_isBlank
def f_X5_isBlank (x0 : Int32) (h : hp_H) : Option (Int32 × hp_H) := if x0 = 32 then (f_X5_isBlank_12 h) else (if x0 = 10 then (f_X5_isBlank_12 h) else (f_X5_isBlank_17 0 h))
set_option maxRecDepth 20000 in
theorem c_X5_isBlank (l : Launch) (x0 : Int32) (h : hp_H) (r : Int32 × hp_H) (hf : f_X5_isBlank x0 h = some r) : cs l 1 yX5_isBlank cX5_isBlank 1 (some .boolean) [.int x0] h (some (.int r.1)) r.2 := by
  unfold f_X5_isBlank at hf
  refine mt_of (lv := [(0, .int x0)]) (by decide +kernel) (Nat.le_of_ble_eq_true rfl) rfl (fun p e s m args below meth c G X => ?_)
  refine wk_iload_n X dX5_isBlank_0 0 rfl ?_
  refine wk_bipush X dX5_isBlank_1 ib_32 ?_
  refine wk_icmp_eq X 12 dX5_isBlank_3 (by decide) hf (fun hf => ?_) (fun hf => ?_)
  · exact wq_sub [] rfl (w_X5_isBlank_12 X _ hf)
  · refine wk_iload_n X dX5_isBlank_6 0 rfl ?_
    refine wk_bipush X dX5_isBlank_7 ib_10 ?_
    refine wk_icmp_ne X 16 dX5_isBlank_9 (by decide) hf (fun hf => ?_) (fun hf => ?_)
    · refine wk_iconst X dX5_isBlank_16 ic_0 ?_
      exact wq_sub [] rfl (w_X5_isBlank_17 X _ _ hf)
    · exact wq_sub [] rfl (w_X5_isBlank_12 X _ hf)
section S_X5_isDigit
variable {p : Program} {l : Launch} {e : Env} {s : State} {m : MethodId} {args : Array Value} {below : List Frame} {meth : Method} {c : Code} {G : hp_G} {o : Int32 × hp_H}
def f_X5_isDigit_17 (t0 : Int32) (h : hp_H) : Option (Int32 × hp_H) := if t0 = 0 ∨ t0 = 1 then some (t0, h) else none
set_option maxRecDepth 20000 in
theorem w_X5_isDigit_17 (X : wx G p s m args meth c cX5_isDigit 1 RX5 (some .boolean)) (t0 : Int32) (h : hp_H) (hf : f_X5_isDigit_17 t0 h = some o) : wq p l e (mt_R 1 0 0) s m args below meth c (MQ below (mt_Q G (some (.int o.1)) o.2) args s 0 0 (hp_A G)) G 1 0 0 17 [] [.int t0] h := by
  unfold f_X5_isDigit_17 at hf
  exact wk_zreturn X dX5_isDigit_17 hf
def f_X5_isDigit_16  (h : hp_H) : Option (Int32 × hp_H) := f_X5_isDigit_17 0 h
set_option maxRecDepth 20000 in
theorem w_X5_isDigit_16 (X : wx G p s m args meth c cX5_isDigit 1 RX5 (some .boolean))  (h : hp_H) (hf : f_X5_isDigit_16 h = some o) : wq p l e (mt_R 1 0 0) s m args below meth c (MQ below (mt_Q G (some (.int o.1)) o.2) args s 0 0 (hp_A G)) G 1 0 0 16 [] [] h := by
  unfold f_X5_isDigit_16 at hf
  refine wk_iconst X dX5_isDigit_16 ic_0 ?_
  exact wq_sub [] rfl (w_X5_isDigit_17 X _ _ hf)
end S_X5_isDigit
def f_X5_isDigit (x0 : Int32) (h : hp_H) : Option (Int32 × hp_H) := if x0 < 48 then (f_X5_isDigit_16 h) else (if 57 < x0 then (f_X5_isDigit_16 h) else (f_X5_isDigit_17 1 h))
set_option maxRecDepth 20000 in
theorem c_X5_isDigit (l : Launch) (x0 : Int32) (h : hp_H) (r : Int32 × hp_H) (hf : f_X5_isDigit x0 h = some r) : cs l 1 yX5_isDigit cX5_isDigit 1 (some .boolean) [.int x0] h (some (.int r.1)) r.2 := by
  unfold f_X5_isDigit at hf
  refine mt_of (lv := [(0, .int x0)]) (by decide +kernel) (Nat.le_of_ble_eq_true rfl) rfl (fun p e s m args below meth c G X => ?_)
  refine wk_iload_n X dX5_isDigit_0 0 rfl ?_
  refine wk_bipush X dX5_isDigit_1 ib_48 ?_
  refine wk_icmp_lt X 16 dX5_isDigit_3 (by decide) hf (fun hf => ?_) (fun hf => ?_)
  · exact wq_sub [] rfl (w_X5_isDigit_16 X _ hf)
  · refine wk_iload_n X dX5_isDigit_6 0 rfl ?_
    refine wk_bipush X dX5_isDigit_7 ib_57 ?_
    refine wk_icmp_gt X 16 dX5_isDigit_9 (by decide) hf (fun hf => ?_) (fun hf => ?_)
    · exact wq_sub [] rfl (w_X5_isDigit_16 X _ hf)
    · refine wk_iconst X dX5_isDigit_12 ic_1 ?_
      refine wk_goto X 17 dX5_isDigit_13 (by decide) ?_
      exact wq_sub [] rfl (w_X5_isDigit_17 X _ _ hf)
section S_X5_isLetter
variable {p : Program} {l : Launch} {e : Env} {s : State} {m : MethodId} {args : Array Value} {below : List Frame} {meth : Method} {c : Code} {G : hp_G} {o : Int32 × hp_H}
def f_X5_isLetter_17 (t0 : Int32) (h : hp_H) : Option (Int32 × hp_H) := if t0 = 0 ∨ t0 = 1 then some (t0, h) else none
set_option maxRecDepth 20000 in
theorem w_X5_isLetter_17 (X : wx G p s m args meth c cX5_isLetter 1 RX5 (some .boolean)) (t0 : Int32) (h : hp_H) (hf : f_X5_isLetter_17 t0 h = some o) : wq p l e (mt_R 1 0 0) s m args below meth c (MQ below (mt_Q G (some (.int o.1)) o.2) args s 0 0 (hp_A G)) G 1 0 0 17 [] [.int t0] h := by
  unfold f_X5_isLetter_17 at hf
  exact wk_zreturn X dX5_isLetter_17 hf
def f_X5_isLetter_16  (h : hp_H) : Option (Int32 × hp_H) := f_X5_isLetter_17 0 h
set_option maxRecDepth 20000 in
theorem w_X5_isLetter_16 (X : wx G p s m args meth c cX5_isLetter 1 RX5 (some .boolean))  (h : hp_H) (hf : f_X5_isLetter_16 h = some o) : wq p l e (mt_R 1 0 0) s m args below meth c (MQ below (mt_Q G (some (.int o.1)) o.2) args s 0 0 (hp_A G)) G 1 0 0 16 [] [] h := by
  unfold f_X5_isLetter_16 at hf
  refine wk_iconst X dX5_isLetter_16 ic_0 ?_
  exact wq_sub [] rfl (w_X5_isLetter_17 X _ _ hf)
end S_X5_isLetter
def f_X5_isLetter (x0 : Int32) (h : hp_H) : Option (Int32 × hp_H) := if x0 < 97 then (f_X5_isLetter_16 h) else (if 122 < x0 then (f_X5_isLetter_16 h) else (f_X5_isLetter_17 1 h))
set_option maxRecDepth 20000 in
theorem c_X5_isLetter (l : Launch) (x0 : Int32) (h : hp_H) (r : Int32 × hp_H) (hf : f_X5_isLetter x0 h = some r) : cs l 1 yX5_isLetter cX5_isLetter 1 (some .boolean) [.int x0] h (some (.int r.1)) r.2 := by
  unfold f_X5_isLetter at hf
  refine mt_of (lv := [(0, .int x0)]) (by decide +kernel) (Nat.le_of_ble_eq_true rfl) rfl (fun p e s m args below meth c G X => ?_)
  refine wk_iload_n X dX5_isLetter_0 0 rfl ?_
  refine wk_bipush X dX5_isLetter_1 ib_97 ?_
  refine wk_icmp_lt X 16 dX5_isLetter_3 (by decide) hf (fun hf => ?_) (fun hf => ?_)
  · exact wq_sub [] rfl (w_X5_isLetter_16 X _ hf)
  · refine wk_iload_n X dX5_isLetter_6 0 rfl ?_
    refine wk_bipush X dX5_isLetter_7 ib_122 ?_
    refine wk_icmp_gt X 16 dX5_isLetter_9 (by decide) hf (fun hf => ?_) (fun hf => ?_)
    · exact wq_sub [] rfl (w_X5_isLetter_16 X _ hf)
    · refine wk_iconst X dX5_isLetter_12 ic_1 ?_
      refine wk_goto X 17 dX5_isLetter_13 (by decide) ?_
      exact wq_sub [] rfl (w_X5_isLetter_17 X _ _ hf)
