section Sf_X5_readPart
variable {p : Program} {l : Launch} {e : Env} {s : State} {m : MethodId} {args : Array Value} {below : List Frame} {meth : Method} {c : Code} {G : hp_G} {o : hp_H}
def f_X5_readPart_70 (rec : Nat → Int32 → hp_H → Option hp_H)  (h : hp_H) : Option (hp_H) := some h
set_option maxRecDepth 20000 in
theorem w_X5_readPart_70 (X : wx G p s m args meth c cX5_readPart 2 RX5 none) {z : Nat} (hz : 20 ≤ z) (rec : Nat → Int32 → hp_H → Option hp_H) (hrec : ∀ (x0 : Nat) (x1 : Int32) (h r : hp_H), rec x0 x1 h = some r → cv l (z) yX5_readExpr cX5_readExpr 3 none 5 x0 [.int x1] h none r)  (h : hp_H) (hf : f_X5_readPart_70 rec h = some o) : wq p l e (mt_R (z + 1) 0 0) s m args below meth c (MQ below (mt_Q G none o) args s 0 0 (hp_A G)) G 2 0 0 70 [] [] h := by
  unfold f_X5_readPart_70 at hf
  exact wk_return X dX5_readPart_70 hf
end Sf_X5_readPart
def f_X5_readPart (rec : Nat → Int32 → hp_H → Option hp_H) (x0 : Nat) (x1 : Int32) (h : hp_H) : Option (hp_H) := gd h x0 5 ((rd_I h x0 5 2).bind fun v1 => if v1 = 0 then ((f_X5_isSign x0 40 h).bind fun r2 => if r2.1 = 0 then ((rd_I r2.2 x0 5 7).bind fun v3 => if v3 = 2 then ((f_X5_readValue x0 r2.2).bind fun r8 => f_X5_readPart_70 rec r8) else ((rd_R r2.2 x0 5 0).bind fun v4 => (rd_R r2.2 v4 1 6).bind fun v5 => (f_X5_take x0 0 9999 r2.2).bind fun r6 => (f_X6_add v5 r6.1 r6.2).bind fun r7 => f_X5_readPart_70 rec r7)) else ((f_X5_advance x0 r2.2).bind fun r9 => (rec x0 (x1 + 1) r9).bind fun r10 => (f_X5_pass x0 41 r10).bind fun r11 => f_X5_readPart_70 rec r11)) else (some h))
set_option maxRecDepth 20000 in
theorem c_X5_readPart (l : Launch) {z : Nat} (hz : 20 ≤ z) (rec : Nat → Int32 → hp_H → Option hp_H) (hrec : ∀ (x0 : Nat) (x1 : Int32) (h r : hp_H), rec x0 x1 h = some r → cv l (z) yX5_readExpr cX5_readExpr 3 none 5 x0 [.int x1] h none r) (x0 : Nat) (x1 : Int32) (h : hp_H) (r : hp_H) (hf : f_X5_readPart rec x0 x1 h = some r) : cv l (z + 1) yX5_readPart cX5_readPart 2 none 5 x0 [.int x1] h none r := by
  unfold f_X5_readPart at hf
  refine cv_of (lv := [(0, .ref x0), (1, .int x1)]) hf (by decide +kernel) (Nat.le_of_ble_eq_true rfl) rfl (fun hf p e s m args below meth c G X => ?_)
  refine wk_aload_n X dX5_readPart_0 0 rfl ?_
  refine wk_getI X dX5_readPart_1 fo_X5_27 hf (fun v1 hf => ?_)
  refine wk_if_eq X 8 dX5_readPart_4 (by decide) hf (fun hf => ?_) (fun hf => ?_)
  · refine wk_aload_n X dX5_readPart_8 0 rfl ?_
    refine wk_bipush X dX5_readPart_9 ib_40 ?_
    refine wk_callVi X [.int 40] [] dX5_readPart_11 rfl vo_X5_162 rfl (by omega) (Nat.le_of_ble_eq_true rfl) hf (c_X5_isSign l _ _ _) (fun r2 hf => ?_)
    refine wk_if_eq X 37 dX5_readPart_14 (by decide) hf (fun hf => ?_) (fun hf => ?_)
    · refine wk_aload_n X dX5_readPart_37 0 rfl ?_
      refine wk_getI X dX5_readPart_38 fo_X5_40 hf (fun v3 hf => ?_)
      refine wk_iconst X dX5_readPart_41 ic_2 ?_
      refine wk_icmp_ne X 52 dX5_readPart_42 (by decide) hf (fun hf => ?_) (fun hf => ?_)
      · refine wk_aload_n X dX5_readPart_52 0 rfl ?_
        refine wk_getR X dX5_readPart_53 fo_X5_12 hf (fun v4 hf => ?_)
        refine wk_getR X dX5_readPart_56 fo_X5_170 hf (fun v5 hf => ?_)
        refine wk_aload_n X dX5_readPart_59 0 rfl ?_
        refine wk_iconst X dX5_readPart_60 ic_0 ?_
        refine wk_sipush X dX5_readPart_61 is_9999 ?_
        refine wk_callVi X [.int 0, .int 9999] [.ref v5] dX5_readPart_64 rfl vo_X5_109 rfl (by omega) (Nat.le_of_ble_eq_true rfl) hf (c_X5_take l _ _ _ _) (fun r6 hf => ?_)
        refine wk_callVv X [.int r6.1] [] dX5_readPart_67 rfl vo_X5_176 rfl (by omega) (Nat.le_of_ble_eq_true rfl) hf (c_X6_add l _ _ _) (fun r7 hf => ?_)
        exact wq_sub [] rfl (w_X5_readPart_70 X hz rec hrec _ hf)
      · refine wk_aload_n X dX5_readPart_45 0 rfl ?_
        refine wk_callVv X [] [] dX5_readPart_46 rfl vo_X5_198 rfl (by omega) (Nat.le_of_ble_eq_true rfl) hf (c_X5_readValue l _ _) (fun r8 hf => ?_)
        refine wk_goto X 70 dX5_readPart_49 (by decide) ?_
        exact wq_sub [] rfl (w_X5_readPart_70 X hz rec hrec _ hf)
    · refine wk_aload_n X dX5_readPart_17 0 rfl ?_
      refine wk_callVv X [] [] dX5_readPart_18 rfl vo_X5_63 rfl (by omega) (Nat.le_of_ble_eq_true rfl) hf (c_X5_advance l _ _) (fun r9 hf => ?_)
      refine wk_aload_n X dX5_readPart_21 0 rfl ?_
      refine wk_iload_n X dX5_readPart_22 1 rfl ?_
      refine wk_iconst X dX5_readPart_23 ic_1 ?_
      refine wk_iadd X dX5_readPart_24 ?_
      refine wk_callVv X [.int (x1 + 1)] [] dX5_readPart_25 rfl vo_X5_126 rfl (by omega) (Nat.le_of_ble_eq_true rfl) hf (hrec _ _ _) (fun r10 hf => ?_)
      refine wk_aload_n X dX5_readPart_28 0 rfl ?_
      refine wk_bipush X dX5_readPart_29 ib_41 ?_
      refine wk_callVv X [.int 41] [] dX5_readPart_31 rfl vo_X5_132 rfl (by omega) (Nat.le_of_ble_eq_true rfl) hf (c_X5_pass l _ _ _) (fun r11 hf => ?_)
      refine wk_goto X 70 dX5_readPart_34 (by decide) ?_
      exact wq_sub [] rfl (w_X5_readPart_70 X hz rec hrec _ hf)
  · exact wk_return X dX5_readPart_7 hf
section Sf_X5_readProduct
variable {p : Program} {l : Launch} {e : Env} {s : State} {m : MethodId} {args : Array Value} {below : List Frame} {meth : Method} {c : Code} {G : hp_G} {o : hp_H}
def f_X5_readProduct_76 (rec : Nat → Int32 → hp_H → Option hp_H)  (h : hp_H) : Option (hp_H) := some h
set_option maxRecDepth 20000 in
theorem w_X5_readProduct_76 (X : wx G p s m args meth c cX5_readProduct 4 RX5 none) {z : Nat} (hz : 20 ≤ z) (rec : Nat → Int32 → hp_H → Option hp_H) (hrec : ∀ (x0 : Nat) (x1 : Int32) (h r : hp_H), rec x0 x1 h = some r → cv l (z) yX5_readExpr cX5_readExpr 3 none 5 x0 [.int x1] h none r)  (h : hp_H) (hf : f_X5_readProduct_76 rec h = some o) : wq p l e (mt_R (z + 2) 0 0) s m args below meth c (MQ below (mt_Q G none o) args s 0 0 (hp_A G)) G 4 0 0 76 [] [] h := by
  unfold f_X5_readProduct_76 at hf
  exact wk_return X dX5_readProduct_76 hf
def f_X5_readProduct_49 (rec : Nat → Int32 → hp_H → Option hp_H) (k7 : Nat → Int32 → Int32 → hp_H → Option (hp_H)) (x0 : Nat) (x1 : Int32) (x2 : Int32) (t0 : Int32) (h : hp_H) : Option (hp_H) := (f_X5_advance x0 h).bind fun r1 => (f_X5_readPart rec x0 x1 r1).bind fun r2 => (rd_R r2 x0 5 0).bind fun v3 => (rd_R r2 v3 1 6).bind fun v4 => (f_X6_add v4 t0 r2).bind fun r5 => k7 x0 x1 (x2 + 1) r5
set_option maxRecDepth 20000 in
theorem w_X5_readProduct_49 (X : wx G p s m args meth c cX5_readProduct 4 RX5 none) {z : Nat} (hz : 20 ≤ z) (rec : Nat → Int32 → hp_H → Option hp_H) (hrec : ∀ (x0 : Nat) (x1 : Int32) (h r : hp_H), rec x0 x1 h = some r → cv l (z) yX5_readExpr cX5_readExpr 3 none 5 x0 [.int x1] h none r) (k7 : Nat → Int32 → Int32 → hp_H → Option (hp_H)) (hk7 : ∀ (x0 : Nat) (x1 : Int32) (x2 : Int32) (h : hp_H), k7 x0 x1 x2 h = some o → wq p l e (mt_R (z + 2) 0 0) s m args below meth c (MQ below (mt_Q G none o) args s 0 0 (hp_A G)) G 4 0 0 7 [(0, .ref x0), (1, .int x1), (2, .int x2)] [] h) (x0 : Nat) (x1 : Int32) (x2 : Int32) (t0 : Int32) (h : hp_H) (hf : f_X5_readProduct_49 rec k7 x0 x1 x2 t0 h = some o) : wq p l e (mt_R (z + 2) 0 0) s m args below meth c (MQ below (mt_Q G none o) args s 0 0 (hp_A G)) G 4 0 0 49 [(0, .ref x0), (1, .int x1), (2, .int x2)] [.int t0] h := by
  unfold f_X5_readProduct_49 at hf
  refine wk_istore_n (lv' := [(3, .int t0), (0, .ref x0), (1, .int x1), (2, .int x2)]) X dX5_readProduct_49 (by decide) rfl ?_
  refine wk_aload_n X dX5_readProduct_50 1 rfl ?_
  refine wk_callVv X [] [] dX5_readProduct_51 rfl vo_X5_63 rfl (by omega) (Nat.le_of_ble_eq_true rfl) hf (c_X5_advance l _ _) (fun r1 hf => ?_)
  refine wk_aload_n X dX5_readProduct_54 1 rfl ?_
  refine wk_iload_n X dX5_readProduct_55 2 rfl ?_
  refine wk_callVv X [.int x1] [] dX5_readProduct_56 rfl vo_X5_195 rfl (by omega) (Nat.le_of_ble_eq_true rfl) hf (c_X5_readPart l hz rec hrec _ _ _) (fun r2 hf => ?_)
  refine wk_aload_n X dX5_readProduct_59 1 rfl ?_
  refine wk_getR X dX5_readProduct_60 fo_X5_12 hf (fun v3 hf => ?_)
  refine wk_getR X dX5_readProduct_63 fo_X5_170 hf (fun v4 hf => ?_)
  refine wk_iload_n X dX5_readProduct_66 0 rfl ?_
  refine wk_callVv X [.int t0] [] dX5_readProduct_67 rfl vo_X5_176 rfl (by omega) (Nat.le_of_ble_eq_true rfl) hf (c_X6_add l _ _ _) (fun r5 hf => ?_)
  refine wk_iinc (lv' := [(2, .int (x2 + 1)), (3, .int t0), (0, .ref x0), (1, .int x1)]) X dX5_readProduct_70 3 rfl ic_1 (by decide) rfl ?_
  refine wk_goto X 7 dX5_readProduct_73 (by decide) ?_
  exact wq_sub [2, 3, 0] rfl (hk7 _ _ _ _ hf)
def f_X5_readProduct_33 (rec : Nat → Int32 → hp_H → Option hp_H) (k7 : Nat → Int32 → Int32 → hp_H → Option (hp_H)) (x0 : Nat) (x1 : Int32) (x2 : Int32) (h : hp_H) : Option (hp_H) := (f_X5_isSign x0 42 h).bind fun r1 => if r1.1 = 0 then (f_X5_readProduct_49 rec k7 x0 x1 x2 (-11) r1.2) else (f_X5_readProduct_49 rec k7 x0 x1 x2 (-10) r1.2)
set_option maxRecDepth 20000 in
theorem w_X5_readProduct_33 (X : wx G p s m args meth c cX5_readProduct 4 RX5 none) {z : Nat} (hz : 20 ≤ z) (rec : Nat → Int32 → hp_H → Option hp_H) (hrec : ∀ (x0 : Nat) (x1 : Int32) (h r : hp_H), rec x0 x1 h = some r → cv l (z) yX5_readExpr cX5_readExpr 3 none 5 x0 [.int x1] h none r) (k7 : Nat → Int32 → Int32 → hp_H → Option (hp_H)) (hk7 : ∀ (x0 : Nat) (x1 : Int32) (x2 : Int32) (h : hp_H), k7 x0 x1 x2 h = some o → wq p l e (mt_R (z + 2) 0 0) s m args below meth c (MQ below (mt_Q G none o) args s 0 0 (hp_A G)) G 4 0 0 7 [(0, .ref x0), (1, .int x1), (2, .int x2)] [] h) (x0 : Nat) (x1 : Int32) (x2 : Int32) (h : hp_H) (hf : f_X5_readProduct_33 rec k7 x0 x1 x2 h = some o) : wq p l e (mt_R (z + 2) 0 0) s m args below meth c (MQ below (mt_Q G none o) args s 0 0 (hp_A G)) G 4 0 0 33 [(0, .ref x0), (1, .int x1), (2, .int x2)] [] h := by
  unfold f_X5_readProduct_33 at hf
  refine wk_aload_n X dX5_readProduct_33 0 rfl ?_
  refine wk_bipush X dX5_readProduct_34 ib_42 ?_
  refine wk_callVi X [.int 42] [] dX5_readProduct_36 rfl vo_X5_162 rfl (by omega) (Nat.le_of_ble_eq_true rfl) hf (c_X5_isSign l _ _ _) (fun r1 hf => ?_)
  refine wk_if_eq X 47 dX5_readProduct_39 (by decide) hf (fun hf => ?_) (fun hf => ?_)
  · refine wk_bipush X dX5_readProduct_47 ib_m11 ?_
    exact wq_sub [0, 1, 2] rfl (w_X5_readProduct_49 X hz rec hrec k7 hk7 _ _ _ _ _ hf)
  · refine wk_bipush X dX5_readProduct_42 ib_m10 ?_
    refine wk_goto X 49 dX5_readProduct_44 (by decide) ?_
    exact wq_sub [0, 1, 2] rfl (w_X5_readProduct_49 X hz rec hrec k7 hk7 _ _ _ _ _ hf)
def f_X5_readProduct_7 (rec : Nat → Int32 → hp_H → Option hp_H) (k7 : Nat → Int32 → Int32 → hp_H → Option (hp_H)) (x0 : Nat) (x1 : Int32) (x2 : Int32) (h : hp_H) : Option (hp_H) := (rd_I h x0 5 5).bind fun v1 => if v1 ≤ x2 then (f_X5_readProduct_76 rec h) else ((f_X5_isSign x0 42 h).bind fun r2 => if r2.1 = 0 then ((f_X5_isSign x0 47 r2.2).bind fun r3 => if r3.1 = 0 then (f_X5_readProduct_76 rec r3.2) else (f_X5_readProduct_33 rec k7 x0 x1 x2 r3.2)) else (f_X5_readProduct_33 rec k7 x0 x1 x2 r2.2))
set_option maxRecDepth 20000 in
theorem w_X5_readProduct_7 (X : wx G p s m args meth c cX5_readProduct 4 RX5 none) {z : Nat} (hz : 20 ≤ z) (rec : Nat → Int32 → hp_H → Option hp_H) (hrec : ∀ (x0 : Nat) (x1 : Int32) (h r : hp_H), rec x0 x1 h = some r → cv l (z) yX5_readExpr cX5_readExpr 3 none 5 x0 [.int x1] h none r) (k7 : Nat → Int32 → Int32 → hp_H → Option (hp_H)) (hk7 : ∀ (x0 : Nat) (x1 : Int32) (x2 : Int32) (h : hp_H), k7 x0 x1 x2 h = some o → wq p l e (mt_R (z + 2) 0 0) s m args below meth c (MQ below (mt_Q G none o) args s 0 0 (hp_A G)) G 4 0 0 7 [(0, .ref x0), (1, .int x1), (2, .int x2)] [] h) (x0 : Nat) (x1 : Int32) (x2 : Int32) (h : hp_H) (hf : f_X5_readProduct_7 rec k7 x0 x1 x2 h = some o) : wq p l e (mt_R (z + 2) 0 0) s m args below meth c (MQ below (mt_Q G none o) args s 0 0 (hp_A G)) G 4 0 0 7 [(0, .ref x0), (1, .int x1), (2, .int x2)] [] h := by
  unfold f_X5_readProduct_7 at hf
  refine wk_iload_n X dX5_readProduct_7 2 rfl ?_
  refine wk_aload_n X dX5_readProduct_8 0 rfl ?_
  refine wk_getI X dX5_readProduct_9 fo_X5_34 hf (fun v1 hf => ?_)
  refine wk_icmp_ge X 76 dX5_readProduct_12 (by decide) hf (fun hf => ?_) (fun hf => ?_)
  · exact wq_sub [] rfl (w_X5_readProduct_76 X hz rec hrec _ hf)
  · refine wk_aload_n X dX5_readProduct_15 0 rfl ?_
    refine wk_bipush X dX5_readProduct_16 ib_42 ?_
    refine wk_callVi X [.int 42] [] dX5_readProduct_18 rfl vo_X5_162 rfl (by omega) (Nat.le_of_ble_eq_true rfl) hf (c_X5_isSign l _ _ _) (fun r2 hf => ?_)
    refine wk_if_ne X 33 dX5_readProduct_21 (by decide) hf (fun hf => ?_) (fun hf => ?_)
    · exact wq_sub [0, 1, 2] rfl (w_X5_readProduct_33 X hz rec hrec k7 hk7 _ _ _ _ hf)
    · refine wk_aload_n X dX5_readProduct_24 0 rfl ?_
      refine wk_bipush X dX5_readProduct_25 ib_47 ?_
      refine wk_callVi X [.int 47] [] dX5_readProduct_27 rfl vo_X5_162 rfl (by omega) (Nat.le_of_ble_eq_true rfl) hf (c_X5_isSign l _ _ _) (fun r3 hf => ?_)
      refine wk_if_eq X 76 dX5_readProduct_30 (by decide) hf (fun hf => ?_) (fun hf => ?_)
      · exact wq_sub [] rfl (w_X5_readProduct_76 X hz rec hrec _ hf)
      · exact wq_sub [0, 1, 2] rfl (w_X5_readProduct_33 X hz rec hrec k7 hk7 _ _ _ _ hf)
def l_X5_readProduct_7 (rec : Nat → Int32 → hp_H → Option hp_H) (x0 : Nat) (x1 : Int32) (x2 : Int32) (h : hp_H) : Option (hp_H) := lp (fun k (s : Nat × Int32 × Int32 × hp_H) => f_X5_readProduct_7 rec  (fun a0 a1 a2 a3 => k (a0, a1, a2, a3)) s.1 s.2.1 s.2.2.1 s.2.2.2) 100000 (x0, x1, x2, h)
theorem wl_X5_readProduct_7 (X : wx G p s m args meth c cX5_readProduct 4 RX5 none) {z : Nat} (hz : 20 ≤ z) (rec : Nat → Int32 → hp_H → Option hp_H) (hrec : ∀ (x0 : Nat) (x1 : Int32) (h r : hp_H), rec x0 x1 h = some r → cv l (z) yX5_readExpr cX5_readExpr 3 none 5 x0 [.int x1] h none r) (x0 : Nat) (x1 : Int32) (x2 : Int32) (h : hp_H) (hf : l_X5_readProduct_7 rec x0 x1 x2 h = some o) : wq p l e (mt_R (z + 2) 0 0) s m args below meth c (MQ below (mt_Q G none o) args s 0 0 (hp_A G)) G 4 0 0 7 [(0, .ref x0), (1, .int x1), (2, .int x2)] [] h :=
  lp_ind (P := fun (s_ : Nat × Int32 × Int32 × hp_H) => wq p l e (mt_R (z + 2) 0 0) s m args below meth c (MQ below (mt_Q G none o) args s 0 0 (hp_A G)) G 4 0 0 7 [(0, .ref s_.1), (1, .int s_.2.1), (2, .int s_.2.2.1)] [] s_.2.2.2) (fun k s hk hf => w_X5_readProduct_7 X hz rec hrec  (fun a0 a1 a2 a3 => k (a0, a1, a2, a3)) (fun a0 a1 a2 a3 hf => hk (a0, a1, a2, a3) hf) s.1 s.2.1 s.2.2.1 s.2.2.2 hf) 100000 (x0, x1, x2, h) hf
end Sf_X5_readProduct
def f_X5_readProduct (rec : Nat → Int32 → hp_H → Option hp_H) (x0 : Nat) (x1 : Int32) (h : hp_H) : Option (hp_H) := gd h x0 5 ((f_X5_readPart rec x0 x1 h).bind fun r1 => l_X5_readProduct_7 rec x0 x1 0 r1)
set_option maxRecDepth 20000 in
theorem c_X5_readProduct (l : Launch) {z : Nat} (hz : 20 ≤ z) (rec : Nat → Int32 → hp_H → Option hp_H) (hrec : ∀ (x0 : Nat) (x1 : Int32) (h r : hp_H), rec x0 x1 h = some r → cv l (z) yX5_readExpr cX5_readExpr 3 none 5 x0 [.int x1] h none r) (x0 : Nat) (x1 : Int32) (h : hp_H) (r : hp_H) (hf : f_X5_readProduct rec x0 x1 h = some r) : cv l (z + 2) yX5_readProduct cX5_readProduct 4 none 5 x0 [.int x1] h none r := by
  unfold f_X5_readProduct at hf
  refine cv_of (lv := [(0, .ref x0), (1, .int x1)]) hf (by decide +kernel) (Nat.le_of_ble_eq_true rfl) rfl (fun hf p e s m args below meth c G X => ?_)
  refine wk_aload_n X dX5_readProduct_0 0 rfl ?_
  refine wk_iload_n X dX5_readProduct_1 1 rfl ?_
  refine wk_callVv X [.int x1] [] dX5_readProduct_2 rfl vo_X5_195 rfl (by omega) (Nat.le_of_ble_eq_true rfl) hf (c_X5_readPart l hz rec hrec _ _ _) (fun r1 hf => ?_)
  refine wk_iconst X dX5_readProduct_5 ic_0 ?_
  refine wk_istore_n (lv' := [(2, .int 0), (0, .ref x0), (1, .int x1)]) X dX5_readProduct_6 (by decide) rfl ?_
  exact wq_sub [1, 2, 0] rfl (wl_X5_readProduct_7 X hz rec hrec _ _ _ _ hf)
section Sf_X5_readSum
variable {p : Program} {l : Launch} {e : Env} {s : State} {m : MethodId} {args : Array Value} {below : List Frame} {meth : Method} {c : Code} {G : hp_G} {o : hp_H}
def f_X5_readSum_76 (rec : Nat → Int32 → hp_H → Option hp_H)  (h : hp_H) : Option (hp_H) := some h
set_option maxRecDepth 20000 in
theorem w_X5_readSum_76 (X : wx G p s m args meth c cX5_readSum 4 RX5 none) {z : Nat} (hz : 20 ≤ z) (rec : Nat → Int32 → hp_H → Option hp_H) (hrec : ∀ (x0 : Nat) (x1 : Int32) (h r : hp_H), rec x0 x1 h = some r → cv l (z) yX5_readExpr cX5_readExpr 3 none 5 x0 [.int x1] h none r)  (h : hp_H) (hf : f_X5_readSum_76 rec h = some o) : wq p l e (mt_R (z + 3) 0 0) s m args below meth c (MQ below (mt_Q G none o) args s 0 0 (hp_A G)) G 4 0 0 76 [] [] h := by
  unfold f_X5_readSum_76 at hf
  exact wk_return X dX5_readSum_76 hf
def f_X5_readSum_49 (rec : Nat → Int32 → hp_H → Option hp_H) (k7 : Nat → Int32 → Int32 → hp_H → Option (hp_H)) (x0 : Nat) (x1 : Int32) (x2 : Int32) (t0 : Int32) (h : hp_H) : Option (hp_H) := (f_X5_advance x0 h).bind fun r1 => (f_X5_readProduct rec x0 x1 r1).bind fun r2 => (rd_R r2 x0 5 0).bind fun v3 => (rd_R r2 v3 1 6).bind fun v4 => (f_X6_add v4 t0 r2).bind fun r5 => k7 x0 x1 (x2 + 1) r5
set_option maxRecDepth 20000 in
theorem w_X5_readSum_49 (X : wx G p s m args meth c cX5_readSum 4 RX5 none) {z : Nat} (hz : 20 ≤ z) (rec : Nat → Int32 → hp_H → Option hp_H) (hrec : ∀ (x0 : Nat) (x1 : Int32) (h r : hp_H), rec x0 x1 h = some r → cv l (z) yX5_readExpr cX5_readExpr 3 none 5 x0 [.int x1] h none r) (k7 : Nat → Int32 → Int32 → hp_H → Option (hp_H)) (hk7 : ∀ (x0 : Nat) (x1 : Int32) (x2 : Int32) (h : hp_H), k7 x0 x1 x2 h = some o → wq p l e (mt_R (z + 3) 0 0) s m args below meth c (MQ below (mt_Q G none o) args s 0 0 (hp_A G)) G 4 0 0 7 [(0, .ref x0), (1, .int x1), (2, .int x2)] [] h) (x0 : Nat) (x1 : Int32) (x2 : Int32) (t0 : Int32) (h : hp_H) (hf : f_X5_readSum_49 rec k7 x0 x1 x2 t0 h = some o) : wq p l e (mt_R (z + 3) 0 0) s m args below meth c (MQ below (mt_Q G none o) args s 0 0 (hp_A G)) G 4 0 0 49 [(0, .ref x0), (1, .int x1), (2, .int x2)] [.int t0] h := by
  unfold f_X5_readSum_49 at hf
  refine wk_istore_n (lv' := [(3, .int t0), (0, .ref x0), (1, .int x1), (2, .int x2)]) X dX5_readSum_49 (by decide) rfl ?_
  refine wk_aload_n X dX5_readSum_50 1 rfl ?_
  refine wk_callVv X [] [] dX5_readSum_51 rfl vo_X5_63 rfl (by omega) (Nat.le_of_ble_eq_true rfl) hf (c_X5_advance l _ _) (fun r1 hf => ?_)
  refine wk_aload_n X dX5_readSum_54 1 rfl ?_
  refine wk_iload_n X dX5_readSum_55 2 rfl ?_
  refine wk_callVv X [.int x1] [] dX5_readSum_56 rfl vo_X5_192 rfl (by omega) (Nat.le_of_ble_eq_true rfl) hf (c_X5_readProduct l hz rec hrec _ _ _) (fun r2 hf => ?_)
  refine wk_aload_n X dX5_readSum_59 1 rfl ?_
  refine wk_getR X dX5_readSum_60 fo_X5_12 hf (fun v3 hf => ?_)
  refine wk_getR X dX5_readSum_63 fo_X5_170 hf (fun v4 hf => ?_)
  refine wk_iload_n X dX5_readSum_66 0 rfl ?_
  refine wk_callVv X [.int t0] [] dX5_readSum_67 rfl vo_X5_176 rfl (by omega) (Nat.le_of_ble_eq_true rfl) hf (c_X6_add l _ _ _) (fun r5 hf => ?_)
  refine wk_iinc (lv' := [(2, .int (x2 + 1)), (3, .int t0), (0, .ref x0), (1, .int x1)]) X dX5_readSum_70 3 rfl ic_1 (by decide) rfl ?_
  refine wk_goto X 7 dX5_readSum_73 (by decide) ?_
  exact wq_sub [2, 3, 0] rfl (hk7 _ _ _ _ hf)
def f_X5_readSum_33 (rec : Nat → Int32 → hp_H → Option hp_H) (k7 : Nat → Int32 → Int32 → hp_H → Option (hp_H)) (x0 : Nat) (x1 : Int32) (x2 : Int32) (h : hp_H) : Option (hp_H) := (f_X5_isSign x0 43 h).bind fun r1 => if r1.1 = 0 then (f_X5_readSum_49 rec k7 x0 x1 x2 (-9) r1.2) else (f_X5_readSum_49 rec k7 x0 x1 x2 (-8) r1.2)
set_option maxRecDepth 20000 in
theorem w_X5_readSum_33 (X : wx G p s m args meth c cX5_readSum 4 RX5 none) {z : Nat} (hz : 20 ≤ z) (rec : Nat → Int32 → hp_H → Option hp_H) (hrec : ∀ (x0 : Nat) (x1 : Int32) (h r : hp_H), rec x0 x1 h = some r → cv l (z) yX5_readExpr cX5_readExpr 3 none 5 x0 [.int x1] h none r) (k7 : Nat → Int32 → Int32 → hp_H → Option (hp_H)) (hk7 : ∀ (x0 : Nat) (x1 : Int32) (x2 : Int32) (h : hp_H), k7 x0 x1 x2 h = some o → wq p l e (mt_R (z + 3) 0 0) s m args below meth c (MQ below (mt_Q G none o) args s 0 0 (hp_A G)) G 4 0 0 7 [(0, .ref x0), (1, .int x1), (2, .int x2)] [] h) (x0 : Nat) (x1 : Int32) (x2 : Int32) (h : hp_H) (hf : f_X5_readSum_33 rec k7 x0 x1 x2 h = some o) : wq p l e (mt_R (z + 3) 0 0) s m args below meth c (MQ below (mt_Q G none o) args s 0 0 (hp_A G)) G 4 0 0 33 [(0, .ref x0), (1, .int x1), (2, .int x2)] [] h := by
  unfold f_X5_readSum_33 at hf
  refine wk_aload_n X dX5_readSum_33 0 rfl ?_
  refine wk_bipush X dX5_readSum_34 ib_43 ?_
  refine wk_callVi X [.int 43] [] dX5_readSum_36 rfl vo_X5_162 rfl (by omega) (Nat.le_of_ble_eq_true rfl) hf (c_X5_isSign l _ _ _) (fun r1 hf => ?_)
  refine wk_if_eq X 47 dX5_readSum_39 (by decide) hf (fun hf => ?_) (fun hf => ?_)
  · refine wk_bipush X dX5_readSum_47 ib_m9 ?_
    exact wq_sub [0, 1, 2] rfl (w_X5_readSum_49 X hz rec hrec k7 hk7 _ _ _ _ _ hf)
  · refine wk_bipush X dX5_readSum_42 ib_m8 ?_
    refine wk_goto X 49 dX5_readSum_44 (by decide) ?_
    exact wq_sub [0, 1, 2] rfl (w_X5_readSum_49 X hz rec hrec k7 hk7 _ _ _ _ _ hf)
def f_X5_readSum_7 (rec : Nat → Int32 → hp_H → Option hp_H) (k7 : Nat → Int32 → Int32 → hp_H → Option (hp_H)) (x0 : Nat) (x1 : Int32) (x2 : Int32) (h : hp_H) : Option (hp_H) := (rd_I h x0 5 5).bind fun v1 => if v1 ≤ x2 then (f_X5_readSum_76 rec h) else ((f_X5_isSign x0 43 h).bind fun r2 => if r2.1 = 0 then ((f_X5_isSign x0 45 r2.2).bind fun r3 => if r3.1 = 0 then (f_X5_readSum_76 rec r3.2) else (f_X5_readSum_33 rec k7 x0 x1 x2 r3.2)) else (f_X5_readSum_33 rec k7 x0 x1 x2 r2.2))
set_option maxRecDepth 20000 in
theorem w_X5_readSum_7 (X : wx G p s m args meth c cX5_readSum 4 RX5 none) {z : Nat} (hz : 20 ≤ z) (rec : Nat → Int32 → hp_H → Option hp_H) (hrec : ∀ (x0 : Nat) (x1 : Int32) (h r : hp_H), rec x0 x1 h = some r → cv l (z) yX5_readExpr cX5_readExpr 3 none 5 x0 [.int x1] h none r) (k7 : Nat → Int32 → Int32 → hp_H → Option (hp_H)) (hk7 : ∀ (x0 : Nat) (x1 : Int32) (x2 : Int32) (h : hp_H), k7 x0 x1 x2 h = some o → wq p l e (mt_R (z + 3) 0 0) s m args below meth c (MQ below (mt_Q G none o) args s 0 0 (hp_A G)) G 4 0 0 7 [(0, .ref x0), (1, .int x1), (2, .int x2)] [] h) (x0 : Nat) (x1 : Int32) (x2 : Int32) (h : hp_H) (hf : f_X5_readSum_7 rec k7 x0 x1 x2 h = some o) : wq p l e (mt_R (z + 3) 0 0) s m args below meth c (MQ below (mt_Q G none o) args s 0 0 (hp_A G)) G 4 0 0 7 [(0, .ref x0), (1, .int x1), (2, .int x2)] [] h := by
  unfold f_X5_readSum_7 at hf
  refine wk_iload_n X dX5_readSum_7 2 rfl ?_
  refine wk_aload_n X dX5_readSum_8 0 rfl ?_
  refine wk_getI X dX5_readSum_9 fo_X5_34 hf (fun v1 hf => ?_)
  refine wk_icmp_ge X 76 dX5_readSum_12 (by decide) hf (fun hf => ?_) (fun hf => ?_)
  · exact wq_sub [] rfl (w_X5_readSum_76 X hz rec hrec _ hf)
  · refine wk_aload_n X dX5_readSum_15 0 rfl ?_
    refine wk_bipush X dX5_readSum_16 ib_43 ?_
    refine wk_callVi X [.int 43] [] dX5_readSum_18 rfl vo_X5_162 rfl (by omega) (Nat.le_of_ble_eq_true rfl) hf (c_X5_isSign l _ _ _) (fun r2 hf => ?_)
    refine wk_if_ne X 33 dX5_readSum_21 (by decide) hf (fun hf => ?_) (fun hf => ?_)
    · exact wq_sub [0, 1, 2] rfl (w_X5_readSum_33 X hz rec hrec k7 hk7 _ _ _ _ hf)
    · refine wk_aload_n X dX5_readSum_24 0 rfl ?_
      refine wk_bipush X dX5_readSum_25 ib_45 ?_
      refine wk_callVi X [.int 45] [] dX5_readSum_27 rfl vo_X5_162 rfl (by omega) (Nat.le_of_ble_eq_true rfl) hf (c_X5_isSign l _ _ _) (fun r3 hf => ?_)
      refine wk_if_eq X 76 dX5_readSum_30 (by decide) hf (fun hf => ?_) (fun hf => ?_)
      · exact wq_sub [] rfl (w_X5_readSum_76 X hz rec hrec _ hf)
      · exact wq_sub [0, 1, 2] rfl (w_X5_readSum_33 X hz rec hrec k7 hk7 _ _ _ _ hf)
def l_X5_readSum_7 (rec : Nat → Int32 → hp_H → Option hp_H) (x0 : Nat) (x1 : Int32) (x2 : Int32) (h : hp_H) : Option (hp_H) := lp (fun k (s : Nat × Int32 × Int32 × hp_H) => f_X5_readSum_7 rec  (fun a0 a1 a2 a3 => k (a0, a1, a2, a3)) s.1 s.2.1 s.2.2.1 s.2.2.2) 100000 (x0, x1, x2, h)
theorem wl_X5_readSum_7 (X : wx G p s m args meth c cX5_readSum 4 RX5 none) {z : Nat} (hz : 20 ≤ z) (rec : Nat → Int32 → hp_H → Option hp_H) (hrec : ∀ (x0 : Nat) (x1 : Int32) (h r : hp_H), rec x0 x1 h = some r → cv l (z) yX5_readExpr cX5_readExpr 3 none 5 x0 [.int x1] h none r) (x0 : Nat) (x1 : Int32) (x2 : Int32) (h : hp_H) (hf : l_X5_readSum_7 rec x0 x1 x2 h = some o) : wq p l e (mt_R (z + 3) 0 0) s m args below meth c (MQ below (mt_Q G none o) args s 0 0 (hp_A G)) G 4 0 0 7 [(0, .ref x0), (1, .int x1), (2, .int x2)] [] h :=
  lp_ind (P := fun (s_ : Nat × Int32 × Int32 × hp_H) => wq p l e (mt_R (z + 3) 0 0) s m args below meth c (MQ below (mt_Q G none o) args s 0 0 (hp_A G)) G 4 0 0 7 [(0, .ref s_.1), (1, .int s_.2.1), (2, .int s_.2.2.1)] [] s_.2.2.2) (fun k s hk hf => w_X5_readSum_7 X hz rec hrec  (fun a0 a1 a2 a3 => k (a0, a1, a2, a3)) (fun a0 a1 a2 a3 hf => hk (a0, a1, a2, a3) hf) s.1 s.2.1 s.2.2.1 s.2.2.2 hf) 100000 (x0, x1, x2, h) hf
end Sf_X5_readSum
def f_X5_readSum (rec : Nat → Int32 → hp_H → Option hp_H) (x0 : Nat) (x1 : Int32) (h : hp_H) : Option (hp_H) := gd h x0 5 ((f_X5_readProduct rec x0 x1 h).bind fun r1 => l_X5_readSum_7 rec x0 x1 0 r1)
set_option maxRecDepth 20000 in
theorem c_X5_readSum (l : Launch) {z : Nat} (hz : 20 ≤ z) (rec : Nat → Int32 → hp_H → Option hp_H) (hrec : ∀ (x0 : Nat) (x1 : Int32) (h r : hp_H), rec x0 x1 h = some r → cv l (z) yX5_readExpr cX5_readExpr 3 none 5 x0 [.int x1] h none r) (x0 : Nat) (x1 : Int32) (h : hp_H) (r : hp_H) (hf : f_X5_readSum rec x0 x1 h = some r) : cv l (z + 3) yX5_readSum cX5_readSum 4 none 5 x0 [.int x1] h none r := by
  unfold f_X5_readSum at hf
  refine cv_of (lv := [(0, .ref x0), (1, .int x1)]) hf (by decide +kernel) (Nat.le_of_ble_eq_true rfl) rfl (fun hf p e s m args below meth c G X => ?_)
  refine wk_aload_n X dX5_readSum_0 0 rfl ?_
  refine wk_iload_n X dX5_readSum_1 1 rfl ?_
  refine wk_callVv X [.int x1] [] dX5_readSum_2 rfl vo_X5_192 rfl (by omega) (Nat.le_of_ble_eq_true rfl) hf (c_X5_readProduct l hz rec hrec _ _ _) (fun r1 hf => ?_)
  refine wk_iconst X dX5_readSum_5 ic_0 ?_
  refine wk_istore_n (lv' := [(2, .int 0), (0, .ref x0), (1, .int x1)]) X dX5_readSum_6 (by decide) rfl ?_
  exact wq_sub [1, 2, 0] rfl (wl_X5_readSum_7 X hz rec hrec _ _ _ _ hf)
section Sf_X5_readTest
variable {p : Program} {l : Launch} {e : Env} {s : State} {m : MethodId} {args : Array Value} {below : List Frame} {meth : Method} {c : Code} {G : hp_G} {o : hp_H}
def f_X5_readTest_60 (rec : Nat → Int32 → hp_H → Option hp_H)  (h : hp_H) : Option (hp_H) := some h
set_option maxRecDepth 20000 in
theorem w_X5_readTest_60 (X : wx G p s m args meth c cX5_readTest 3 RX5 none) {z : Nat} (hz : 20 ≤ z) (rec : Nat → Int32 → hp_H → Option hp_H) (hrec : ∀ (x0 : Nat) (x1 : Int32) (h r : hp_H), rec x0 x1 h = some r → cv l (z) yX5_readExpr cX5_readExpr 3 none 5 x0 [.int x1] h none r)  (h : hp_H) (hf : f_X5_readTest_60 rec h = some o) : wq p l e (mt_R (z + 4) 0 0) s m args below meth c (MQ below (mt_Q G none o) args s 0 0 (hp_A G)) G 3 0 0 60 [] [] h := by
  unfold f_X5_readTest_60 at hf
  exact wk_return X dX5_readTest_60 hf
def f_X5_readTest_39 (rec : Nat → Int32 → hp_H → Option hp_H) (x0 : Nat) (x1 : Int32) (t0 : Int32) (h : hp_H) : Option (hp_H) := (f_X5_advance x0 h).bind fun r1 => (f_X5_readSum rec x0 x1 r1).bind fun r2 => (rd_R r2 x0 5 0).bind fun v3 => (rd_R r2 v3 1 6).bind fun v4 => (f_X6_add v4 t0 r2).bind fun r5 => f_X5_readTest_60 rec r5
set_option maxRecDepth 20000 in
theorem w_X5_readTest_39 (X : wx G p s m args meth c cX5_readTest 3 RX5 none) {z : Nat} (hz : 20 ≤ z) (rec : Nat → Int32 → hp_H → Option hp_H) (hrec : ∀ (x0 : Nat) (x1 : Int32) (h r : hp_H), rec x0 x1 h = some r → cv l (z) yX5_readExpr cX5_readExpr 3 none 5 x0 [.int x1] h none r) (x0 : Nat) (x1 : Int32) (t0 : Int32) (h : hp_H) (hf : f_X5_readTest_39 rec x0 x1 t0 h = some o) : wq p l e (mt_R (z + 4) 0 0) s m args below meth c (MQ below (mt_Q G none o) args s 0 0 (hp_A G)) G 3 0 0 39 [(0, .ref x0), (1, .int x1)] [.int t0] h := by
  unfold f_X5_readTest_39 at hf
  refine wk_istore_n (lv' := [(2, .int t0), (0, .ref x0), (1, .int x1)]) X dX5_readTest_39 (by decide) rfl ?_
  refine wk_aload_n X dX5_readTest_40 1 rfl ?_
  refine wk_callVv X [] [] dX5_readTest_41 rfl vo_X5_63 rfl (by omega) (Nat.le_of_ble_eq_true rfl) hf (c_X5_advance l _ _) (fun r1 hf => ?_)
  refine wk_aload_n X dX5_readTest_44 1 rfl ?_
  refine wk_iload_n X dX5_readTest_45 2 rfl ?_
  refine wk_callVv X [.int x1] [] dX5_readTest_46 rfl vo_X5_189 rfl (by omega) (Nat.le_of_ble_eq_true rfl) hf (c_X5_readSum l hz rec hrec _ _ _) (fun r2 hf => ?_)
  refine wk_aload_n X dX5_readTest_49 1 rfl ?_
  refine wk_getR X dX5_readTest_50 fo_X5_12 hf (fun v3 hf => ?_)
  refine wk_getR X dX5_readTest_53 fo_X5_170 hf (fun v4 hf => ?_)
  refine wk_iload_n X dX5_readTest_56 0 rfl ?_
  refine wk_callVv X [.int t0] [] dX5_readTest_57 rfl vo_X5_176 rfl (by omega) (Nat.le_of_ble_eq_true rfl) hf (c_X6_add l _ _ _) (fun r5 hf => ?_)
  exact wq_sub [] rfl (w_X5_readTest_60 X hz rec hrec _ hf)
def f_X5_readTest_23 (rec : Nat → Int32 → hp_H → Option hp_H) (x0 : Nat) (x1 : Int32) (h : hp_H) : Option (hp_H) := (f_X5_isSign x0 60 h).bind fun r1 => if r1.1 = 0 then (f_X5_readTest_39 rec x0 x1 (-13) r1.2) else (f_X5_readTest_39 rec x0 x1 (-12) r1.2)
set_option maxRecDepth 20000 in
theorem w_X5_readTest_23 (X : wx G p s m args meth c cX5_readTest 3 RX5 none) {z : Nat} (hz : 20 ≤ z) (rec : Nat → Int32 → hp_H → Option hp_H) (hrec : ∀ (x0 : Nat) (x1 : Int32) (h r : hp_H), rec x0 x1 h = some r → cv l (z) yX5_readExpr cX5_readExpr 3 none 5 x0 [.int x1] h none r) (x0 : Nat) (x1 : Int32) (h : hp_H) (hf : f_X5_readTest_23 rec x0 x1 h = some o) : wq p l e (mt_R (z + 4) 0 0) s m args below meth c (MQ below (mt_Q G none o) args s 0 0 (hp_A G)) G 3 0 0 23 [(0, .ref x0), (1, .int x1)] [] h := by
  unfold f_X5_readTest_23 at hf
  refine wk_aload_n X dX5_readTest_23 0 rfl ?_
  refine wk_bipush X dX5_readTest_24 ib_60 ?_
  refine wk_callVi X [.int 60] [] dX5_readTest_26 rfl vo_X5_162 rfl (by omega) (Nat.le_of_ble_eq_true rfl) hf (c_X5_isSign l _ _ _) (fun r1 hf => ?_)
  refine wk_if_eq X 37 dX5_readTest_29 (by decide) hf (fun hf => ?_) (fun hf => ?_)
  · refine wk_bipush X dX5_readTest_37 ib_m13 ?_
    exact wq_sub [0, 1] rfl (w_X5_readTest_39 X hz rec hrec _ _ _ _ hf)
  · refine wk_bipush X dX5_readTest_32 ib_m12 ?_
    refine wk_goto X 39 dX5_readTest_34 (by decide) ?_
    exact wq_sub [0, 1] rfl (w_X5_readTest_39 X hz rec hrec _ _ _ _ hf)
end Sf_X5_readTest
def f_X5_readTest (rec : Nat → Int32 → hp_H → Option hp_H) (x0 : Nat) (x1 : Int32) (h : hp_H) : Option (hp_H) := gd h x0 5 ((f_X5_readSum rec x0 x1 h).bind fun r1 => (f_X5_isSign x0 60 r1).bind fun r2 => if r2.1 = 0 then ((f_X5_isSign x0 61 r2.2).bind fun r3 => if r3.1 = 0 then (f_X5_readTest_60 rec r3.2) else (f_X5_readTest_23 rec x0 x1 r3.2)) else (f_X5_readTest_23 rec x0 x1 r2.2))
set_option maxRecDepth 20000 in
theorem c_X5_readTest (l : Launch) {z : Nat} (hz : 20 ≤ z) (rec : Nat → Int32 → hp_H → Option hp_H) (hrec : ∀ (x0 : Nat) (x1 : Int32) (h r : hp_H), rec x0 x1 h = some r → cv l (z) yX5_readExpr cX5_readExpr 3 none 5 x0 [.int x1] h none r) (x0 : Nat) (x1 : Int32) (h : hp_H) (r : hp_H) (hf : f_X5_readTest rec x0 x1 h = some r) : cv l (z + 4) yX5_readTest cX5_readTest 3 none 5 x0 [.int x1] h none r := by
  unfold f_X5_readTest at hf
  refine cv_of (lv := [(0, .ref x0), (1, .int x1)]) hf (by decide +kernel) (Nat.le_of_ble_eq_true rfl) rfl (fun hf p e s m args below meth c G X => ?_)
  refine wk_aload_n X dX5_readTest_0 0 rfl ?_
  refine wk_iload_n X dX5_readTest_1 1 rfl ?_
  refine wk_callVv X [.int x1] [] dX5_readTest_2 rfl vo_X5_189 rfl (by omega) (Nat.le_of_ble_eq_true rfl) hf (c_X5_readSum l hz rec hrec _ _ _) (fun r1 hf => ?_)
  refine wk_aload_n X dX5_readTest_5 0 rfl ?_
  refine wk_bipush X dX5_readTest_6 ib_60 ?_
  refine wk_callVi X [.int 60] [] dX5_readTest_8 rfl vo_X5_162 rfl (by omega) (Nat.le_of_ble_eq_true rfl) hf (c_X5_isSign l _ _ _) (fun r2 hf => ?_)
  refine wk_if_ne X 23 dX5_readTest_11 (by decide) hf (fun hf => ?_) (fun hf => ?_)
  · exact wq_sub [0, 1] rfl (w_X5_readTest_23 X hz rec hrec _ _ _ hf)
  · refine wk_aload_n X dX5_readTest_14 0 rfl ?_
    refine wk_bipush X dX5_readTest_15 ib_61 ?_
    refine wk_callVi X [.int 61] [] dX5_readTest_17 rfl vo_X5_162 rfl (by omega) (Nat.le_of_ble_eq_true rfl) hf (c_X5_isSign l _ _ _) (fun r3 hf => ?_)
    refine wk_if_eq X 60 dX5_readTest_20 (by decide) hf (fun hf => ?_) (fun hf => ?_)
    · exact wq_sub [] rfl (w_X5_readTest_60 X hz rec hrec _ hf)
    · exact wq_sub [0, 1] rfl (w_X5_readTest_23 X hz rec hrec _ _ _ hf)
section Sf_X5_readNot
variable {p : Program} {l : Launch} {e : Env} {s : State} {m : MethodId} {args : Array Value} {below : List Frame} {meth : Method} {c : Code} {G : hp_G} {o : hp_H}
def f_X5_readNot_53 (rec : Nat → Int32 → hp_H → Option hp_H) (k53 : Nat → Int32 → Int32 → hp_H → Option (hp_H)) (x0 : Nat) (x2 : Int32) (x3 : Int32) (h : hp_H) : Option (hp_H) := if x2 ≤ x3 then (some h) else ((rd_R h x0 5 0).bind fun v1 => (rd_R h v1 1 6).bind fun v2 => (f_X6_add v2 (-7) h).bind fun r3 => k53 x0 x2 (x3 + 1) r3)
set_option maxRecDepth 20000 in
theorem w_X5_readNot_53 (X : wx G p s m args meth c cX5_readNot 4 RX5 none) {z : Nat} (hz : 20 ≤ z) (rec : Nat → Int32 → hp_H → Option hp_H) (hrec : ∀ (x0 : Nat) (x1 : Int32) (h r : hp_H), rec x0 x1 h = some r → cv l (z) yX5_readExpr cX5_readExpr 3 none 5 x0 [.int x1] h none r) (k53 : Nat → Int32 → Int32 → hp_H → Option (hp_H)) (hk53 : ∀ (x0 : Nat) (x2 : Int32) (x3 : Int32) (h : hp_H), k53 x0 x2 x3 h = some o → wq p l e (mt_R (z + 5) 0 0) s m args below meth c (MQ below (mt_Q G none o) args s 0 0 (hp_A G)) G 4 0 0 53 [(0, .ref x0), (2, .int x2), (3, .int x3)] [] h) (x0 : Nat) (x2 : Int32) (x3 : Int32) (h : hp_H) (hf : f_X5_readNot_53 rec k53 x0 x2 x3 h = some o) : wq p l e (mt_R (z + 5) 0 0) s m args below meth c (MQ below (mt_Q G none o) args s 0 0 (hp_A G)) G 4 0 0 53 [(0, .ref x0), (2, .int x2), (3, .int x3)] [] h := by
  unfold f_X5_readNot_53 at hf
  refine wk_iload_n X dX5_readNot_53 2 rfl ?_
  refine wk_iload_n X dX5_readNot_54 1 rfl ?_
  refine wk_icmp_ge X 76 dX5_readNot_55 (by decide) hf (fun hf => ?_) (fun hf => ?_)
  · exact wk_return X dX5_readNot_76 hf
  · refine wk_aload_n X dX5_readNot_58 0 rfl ?_
    refine wk_getR X dX5_readNot_59 fo_X5_12 hf (fun v1 hf => ?_)
    refine wk_getR X dX5_readNot_62 fo_X5_170 hf (fun v2 hf => ?_)
    refine wk_bipush X dX5_readNot_65 ib_m7 ?_
    refine wk_callVv X [.int (-7)] [] dX5_readNot_67 rfl vo_X5_176 rfl (by omega) (Nat.le_of_ble_eq_true rfl) hf (c_X6_add l _ _ _) (fun r3 hf => ?_)
    refine wk_iinc (lv' := [(3, .int (x3 + 1)), (0, .ref x0), (2, .int x2)]) X dX5_readNot_70 2 rfl ic_1 (by decide) rfl ?_
    refine wk_goto X 53 dX5_readNot_73 (by decide) ?_
    exact wq_sub [1, 2, 0] rfl (hk53 _ _ _ _ hf)
def l_X5_readNot_53 (rec : Nat → Int32 → hp_H → Option hp_H) (x0 : Nat) (x2 : Int32) (x3 : Int32) (h : hp_H) : Option (hp_H) := lp (fun k (s : Nat × Int32 × Int32 × hp_H) => f_X5_readNot_53 rec  (fun a0 a1 a2 a3 => k (a0, a1, a2, a3)) s.1 s.2.1 s.2.2.1 s.2.2.2) 100000 (x0, x2, x3, h)
theorem wl_X5_readNot_53 (X : wx G p s m args meth c cX5_readNot 4 RX5 none) {z : Nat} (hz : 20 ≤ z) (rec : Nat → Int32 → hp_H → Option hp_H) (hrec : ∀ (x0 : Nat) (x1 : Int32) (h r : hp_H), rec x0 x1 h = some r → cv l (z) yX5_readExpr cX5_readExpr 3 none 5 x0 [.int x1] h none r) (x0 : Nat) (x2 : Int32) (x3 : Int32) (h : hp_H) (hf : l_X5_readNot_53 rec x0 x2 x3 h = some o) : wq p l e (mt_R (z + 5) 0 0) s m args below meth c (MQ below (mt_Q G none o) args s 0 0 (hp_A G)) G 4 0 0 53 [(0, .ref x0), (2, .int x2), (3, .int x3)] [] h :=
  lp_ind (P := fun (s_ : Nat × Int32 × Int32 × hp_H) => wq p l e (mt_R (z + 5) 0 0) s m args below meth c (MQ below (mt_Q G none o) args s 0 0 (hp_A G)) G 4 0 0 53 [(0, .ref s_.1), (2, .int s_.2.1), (3, .int s_.2.2.1)] [] s_.2.2.2) (fun k s hk hf => w_X5_readNot_53 X hz rec hrec  (fun a0 a1 a2 a3 => k (a0, a1, a2, a3)) (fun a0 a1 a2 a3 hf => hk (a0, a1, a2, a3) hf) s.1 s.2.1 s.2.2.1 s.2.2.2 hf) 100000 (x0, x2, x3, h) hf
def f_X5_readNot_46 (rec : Nat → Int32 → hp_H → Option hp_H) (x0 : Nat) (x1 : Int32) (x2 : Int32) (h : hp_H) : Option (hp_H) := (f_X5_readTest rec x0 x1 h).bind fun r1 => l_X5_readNot_53 rec x0 x2 0 r1
set_option maxRecDepth 20000 in
theorem w_X5_readNot_46 (X : wx G p s m args meth c cX5_readNot 4 RX5 none) {z : Nat} (hz : 20 ≤ z) (rec : Nat → Int32 → hp_H → Option hp_H) (hrec : ∀ (x0 : Nat) (x1 : Int32) (h r : hp_H), rec x0 x1 h = some r → cv l (z) yX5_readExpr cX5_readExpr 3 none 5 x0 [.int x1] h none r) (x0 : Nat) (x1 : Int32) (x2 : Int32) (h : hp_H) (hf : f_X5_readNot_46 rec x0 x1 x2 h = some o) : wq p l e (mt_R (z + 5) 0 0) s m args below meth c (MQ below (mt_Q G none o) args s 0 0 (hp_A G)) G 4 0 0 46 [(0, .ref x0), (1, .int x1), (2, .int x2)] [] h := by
  unfold f_X5_readNot_46 at hf
  refine wk_aload_n X dX5_readNot_46 0 rfl ?_
  refine wk_iload_n X dX5_readNot_47 1 rfl ?_
  refine wk_callVv X [.int x1] [] dX5_readNot_48 rfl vo_X5_186 rfl (by omega) (Nat.le_of_ble_eq_true rfl) hf (c_X5_readTest l hz rec hrec _ _ _) (fun r1 hf => ?_)
  refine wk_iconst X dX5_readNot_51 ic_0 ?_
  refine wk_istore_n (lv' := [(3, .int 0), (0, .ref x0), (1, .int x1), (2, .int x2)]) X dX5_readNot_52 (by decide) rfl ?_
  exact wq_sub [1, 3, 0] rfl (wl_X5_readNot_53 X hz rec hrec _ _ _ _ hf)
def f_X5_readNot_32 (rec : Nat → Int32 → hp_H → Option hp_H) (x0 : Nat) (x1 : Int32) (x2 : Int32) (h : hp_H) : Option (hp_H) := (f_X5_isWord x0 8 h).bind fun r1 => if r1.1 = 0 then (f_X5_readNot_46 rec x0 x1 x2 r1.2) else ((f_X5_fail x0 2 r1.2).bind fun r2 => f_X5_readNot_46 rec x0 x1 x2 r2)
set_option maxRecDepth 20000 in
theorem w_X5_readNot_32 (X : wx G p s m args meth c cX5_readNot 4 RX5 none) {z : Nat} (hz : 20 ≤ z) (rec : Nat → Int32 → hp_H → Option hp_H) (hrec : ∀ (x0 : Nat) (x1 : Int32) (h r : hp_H), rec x0 x1 h = some r → cv l (z) yX5_readExpr cX5_readExpr 3 none 5 x0 [.int x1] h none r) (x0 : Nat) (x1 : Int32) (x2 : Int32) (h : hp_H) (hf : f_X5_readNot_32 rec x0 x1 x2 h = some o) : wq p l e (mt_R (z + 5) 0 0) s m args below meth c (MQ below (mt_Q G none o) args s 0 0 (hp_A G)) G 4 0 0 32 [(0, .ref x0), (1, .int x1), (2, .int x2)] [] h := by
  unfold f_X5_readNot_32 at hf
  refine wk_aload_n X dX5_readNot_32 0 rfl ?_
  refine wk_ldcS X 8 (by decide) rfl dX5_readNot_33 ?_
  refine wk_callVi X [.float 8] [] dX5_readNot_35 rfl vo_X5_91 rfl (by omega) (Nat.le_of_ble_eq_true rfl) hf (c_X5_isWord l _ _ _) (fun r1 hf => ?_)
  refine wk_if_eq X 46 dX5_readNot_38 (by decide) hf (fun hf => ?_) (fun hf => ?_)
  · exact wq_sub [0, 1, 2] rfl (w_X5_readNot_46 X hz rec hrec _ _ _ _ hf)
  · refine wk_aload_n X dX5_readNot_41 0 rfl ?_
    refine wk_iconst X dX5_readNot_42 ic_2 ?_
    refine wk_callVv X [.int 2] [] dX5_readNot_43 rfl vo_X5_129 rfl (by omega) (Nat.le_of_ble_eq_true rfl) hf (c_X5_fail l _ _ _) (fun r2 hf => ?_)
    exact wq_sub [0, 1, 2] rfl (w_X5_readNot_46 X hz rec hrec _ _ _ _ hf)
def f_X5_readNot_4 (rec : Nat → Int32 → hp_H → Option hp_H) (k4 : Nat → Int32 → Int32 → Int32 → hp_H → Option (hp_H)) (x0 : Nat) (x1 : Int32) (x2 : Int32) (x3 : Int32) (h : hp_H) : Option (hp_H) := if 6 ≤ x3 then (f_X5_readNot_32 rec x0 x1 x2 h) else ((f_X5_isWord x0 8 h).bind fun r1 => if r1.1 = 0 then (f_X5_readNot_32 rec x0 x1 x2 r1.2) else ((f_X5_advance x0 r1.2).bind fun r2 => k4 x0 x1 (x2 + 1) (x3 + 1) r2))
set_option maxRecDepth 20000 in
theorem w_X5_readNot_4 (X : wx G p s m args meth c cX5_readNot 4 RX5 none) {z : Nat} (hz : 20 ≤ z) (rec : Nat → Int32 → hp_H → Option hp_H) (hrec : ∀ (x0 : Nat) (x1 : Int32) (h r : hp_H), rec x0 x1 h = some r → cv l (z) yX5_readExpr cX5_readExpr 3 none 5 x0 [.int x1] h none r) (k4 : Nat → Int32 → Int32 → Int32 → hp_H → Option (hp_H)) (hk4 : ∀ (x0 : Nat) (x1 : Int32) (x2 : Int32) (x3 : Int32) (h : hp_H), k4 x0 x1 x2 x3 h = some o → wq p l e (mt_R (z + 5) 0 0) s m args below meth c (MQ below (mt_Q G none o) args s 0 0 (hp_A G)) G 4 0 0 4 [(0, .ref x0), (1, .int x1), (2, .int x2), (3, .int x3)] [] h) (x0 : Nat) (x1 : Int32) (x2 : Int32) (x3 : Int32) (h : hp_H) (hf : f_X5_readNot_4 rec k4 x0 x1 x2 x3 h = some o) : wq p l e (mt_R (z + 5) 0 0) s m args below meth c (MQ below (mt_Q G none o) args s 0 0 (hp_A G)) G 4 0 0 4 [(0, .ref x0), (1, .int x1), (2, .int x2), (3, .int x3)] [] h := by
  unfold f_X5_readNot_4 at hf
  refine wk_iload_n X dX5_readNot_4 3 rfl ?_
  refine wk_bipush X dX5_readNot_5 ib_6 ?_
  refine wk_icmp_ge X 32 dX5_readNot_7 (by decide) hf (fun hf => ?_) (fun hf => ?_)
  · exact wq_sub [0, 1, 2] rfl (w_X5_readNot_32 X hz rec hrec _ _ _ _ hf)
  · refine wk_aload_n X dX5_readNot_10 0 rfl ?_
    refine wk_ldcS X 8 (by decide) rfl dX5_readNot_11 ?_
    refine wk_callVi X [.float 8] [] dX5_readNot_13 rfl vo_X5_91 rfl (by omega) (Nat.le_of_ble_eq_true rfl) hf (c_X5_isWord l _ _ _) (fun r1 hf => ?_)
    refine wk_if_eq X 32 dX5_readNot_16 (by decide) hf (fun hf => ?_) (fun hf => ?_)
    · exact wq_sub [0, 1, 2] rfl (w_X5_readNot_32 X hz rec hrec _ _ _ _ hf)
    · refine wk_iinc (lv' := [(2, .int (x2 + 1)), (0, .ref x0), (1, .int x1), (3, .int x3)]) X dX5_readNot_19 2 rfl ic_1 (by decide) rfl ?_
      refine wk_aload_n X dX5_readNot_22 1 rfl ?_
      refine wk_callVv X [] [] dX5_readNot_23 rfl vo_X5_63 rfl (by omega) (Nat.le_of_ble_eq_true rfl) hf (c_X5_advance l _ _) (fun r2 hf => ?_)
      refine wk_iinc (lv' := [(3, .int (x3 + 1)), (2, .int (x2 + 1)), (0, .ref x0), (1, .int x1)]) X dX5_readNot_26 3 rfl ic_1 (by decide) rfl ?_
      refine wk_goto X 4 dX5_readNot_29 (by decide) ?_
      exact wq_sub [2, 3, 1, 0] rfl (hk4 _ _ _ _ _ hf)
def l_X5_readNot_4 (rec : Nat → Int32 → hp_H → Option hp_H) (x0 : Nat) (x1 : Int32) (x2 : Int32) (x3 : Int32) (h : hp_H) : Option (hp_H) := lp (fun k (s : Nat × Int32 × Int32 × Int32 × hp_H) => f_X5_readNot_4 rec  (fun a0 a1 a2 a3 a4 => k (a0, a1, a2, a3, a4)) s.1 s.2.1 s.2.2.1 s.2.2.2.1 s.2.2.2.2) 100000 (x0, x1, x2, x3, h)
theorem wl_X5_readNot_4 (X : wx G p s m args meth c cX5_readNot 4 RX5 none) {z : Nat} (hz : 20 ≤ z) (rec : Nat → Int32 → hp_H → Option hp_H) (hrec : ∀ (x0 : Nat) (x1 : Int32) (h r : hp_H), rec x0 x1 h = some r → cv l (z) yX5_readExpr cX5_readExpr 3 none 5 x0 [.int x1] h none r) (x0 : Nat) (x1 : Int32) (x2 : Int32) (x3 : Int32) (h : hp_H) (hf : l_X5_readNot_4 rec x0 x1 x2 x3 h = some o) : wq p l e (mt_R (z + 5) 0 0) s m args below meth c (MQ below (mt_Q G none o) args s 0 0 (hp_A G)) G 4 0 0 4 [(0, .ref x0), (1, .int x1), (2, .int x2), (3, .int x3)] [] h :=
  lp_ind (P := fun (s_ : Nat × Int32 × Int32 × Int32 × hp_H) => wq p l e (mt_R (z + 5) 0 0) s m args below meth c (MQ below (mt_Q G none o) args s 0 0 (hp_A G)) G 4 0 0 4 [(0, .ref s_.1), (1, .int s_.2.1), (2, .int s_.2.2.1), (3, .int s_.2.2.2.1)] [] s_.2.2.2.2) (fun k s hk hf => w_X5_readNot_4 X hz rec hrec  (fun a0 a1 a2 a3 a4 => k (a0, a1, a2, a3, a4)) (fun a0 a1 a2 a3 a4 hf => hk (a0, a1, a2, a3, a4) hf) s.1 s.2.1 s.2.2.1 s.2.2.2.1 s.2.2.2.2 hf) 100000 (x0, x1, x2, x3, h) hf
end Sf_X5_readNot
def f_X5_readNot (rec : Nat → Int32 → hp_H → Option hp_H) (x0 : Nat) (x1 : Int32) (h : hp_H) : Option (hp_H) := gd h x0 5 (l_X5_readNot_4 rec x0 x1 0 0 h)
set_option maxRecDepth 20000 in
theorem c_X5_readNot (l : Launch) {z : Nat} (hz : 20 ≤ z) (rec : Nat → Int32 → hp_H → Option hp_H) (hrec : ∀ (x0 : Nat) (x1 : Int32) (h r : hp_H), rec x0 x1 h = some r → cv l (z) yX5_readExpr cX5_readExpr 3 none 5 x0 [.int x1] h none r) (x0 : Nat) (x1 : Int32) (h : hp_H) (r : hp_H) (hf : f_X5_readNot rec x0 x1 h = some r) : cv l (z + 5) yX5_readNot cX5_readNot 4 none 5 x0 [.int x1] h none r := by
  unfold f_X5_readNot at hf
  refine cv_of (lv := [(0, .ref x0), (1, .int x1)]) hf (by decide +kernel) (Nat.le_of_ble_eq_true rfl) rfl (fun hf p e s m args below meth c G X => ?_)
  refine wk_iconst X dX5_readNot_0 ic_0 ?_
  refine wk_istore_n (lv' := [(2, .int 0), (0, .ref x0), (1, .int x1)]) X dX5_readNot_1 (by decide) rfl ?_
  refine wk_iconst X dX5_readNot_2 ic_0 ?_
  refine wk_istore_n (lv' := [(3, .int 0), (2, .int 0), (0, .ref x0), (1, .int x1)]) X dX5_readNot_3 (by decide) rfl ?_
  exact wq_sub [2, 3, 1, 0] rfl (wl_X5_readNot_4 X hz rec hrec _ _ _ _ _ hf)
section Sf_X5_readAnd
variable {p : Program} {l : Launch} {e : Env} {s : State} {m : MethodId} {args : Array Value} {below : List Frame} {meth : Method} {c : Code} {G : hp_G} {o : hp_H}
def f_X5_readAnd_51 (rec : Nat → Int32 → hp_H → Option hp_H)  (h : hp_H) : Option (hp_H) := some h
set_option maxRecDepth 20000 in
theorem w_X5_readAnd_51 (X : wx G p s m args meth c cX5_readAnd 3 RX5 none) {z : Nat} (hz : 20 ≤ z) (rec : Nat → Int32 → hp_H → Option hp_H) (hrec : ∀ (x0 : Nat) (x1 : Int32) (h r : hp_H), rec x0 x1 h = some r → cv l (z) yX5_readExpr cX5_readExpr 3 none 5 x0 [.int x1] h none r)  (h : hp_H) (hf : f_X5_readAnd_51 rec h = some o) : wq p l e (mt_R (z + 6) 0 0) s m args below meth c (MQ below (mt_Q G none o) args s 0 0 (hp_A G)) G 3 0 0 51 [] [] h := by
  unfold f_X5_readAnd_51 at hf
  exact wk_return X dX5_readAnd_51 hf
def f_X5_readAnd_7 (rec : Nat → Int32 → hp_H → Option hp_H) (k7 : Nat → Int32 → Int32 → hp_H → Option (hp_H)) (x0 : Nat) (x1 : Int32) (x2 : Int32) (h : hp_H) : Option (hp_H) := (rd_I h x0 5 5).bind fun v1 => if v1 ≤ x2 then (f_X5_readAnd_51 rec h) else ((f_X5_isWord x0 14 h).bind fun r2 => if r2.1 = 0 then (f_X5_readAnd_51 rec r2.2) else ((f_X5_advance x0 r2.2).bind fun r3 => (f_X5_readNot rec x0 x1 r3).bind fun r4 => (rd_R r4 x0 5 0).bind fun v5 => (rd_R r4 v5 1 6).bind fun v6 => (f_X6_add v6 (-14) r4).bind fun r7 => k7 x0 x1 (x2 + 1) r7))
set_option maxRecDepth 20000 in
theorem w_X5_readAnd_7 (X : wx G p s m args meth c cX5_readAnd 3 RX5 none) {z : Nat} (hz : 20 ≤ z) (rec : Nat → Int32 → hp_H → Option hp_H) (hrec : ∀ (x0 : Nat) (x1 : Int32) (h r : hp_H), rec x0 x1 h = some r → cv l (z) yX5_readExpr cX5_readExpr 3 none 5 x0 [.int x1] h none r) (k7 : Nat → Int32 → Int32 → hp_H → Option (hp_H)) (hk7 : ∀ (x0 : Nat) (x1 : Int32) (x2 : Int32) (h : hp_H), k7 x0 x1 x2 h = some o → wq p l e (mt_R (z + 6) 0 0) s m args below meth c (MQ below (mt_Q G none o) args s 0 0 (hp_A G)) G 3 0 0 7 [(0, .ref x0), (1, .int x1), (2, .int x2)] [] h) (x0 : Nat) (x1 : Int32) (x2 : Int32) (h : hp_H) (hf : f_X5_readAnd_7 rec k7 x0 x1 x2 h = some o) : wq p l e (mt_R (z + 6) 0 0) s m args below meth c (MQ below (mt_Q G none o) args s 0 0 (hp_A G)) G 3 0 0 7 [(0, .ref x0), (1, .int x1), (2, .int x2)] [] h := by
  unfold f_X5_readAnd_7 at hf
  refine wk_iload_n X dX5_readAnd_7 2 rfl ?_
  refine wk_aload_n X dX5_readAnd_8 0 rfl ?_
  refine wk_getI X dX5_readAnd_9 fo_X5_34 hf (fun v1 hf => ?_)
  refine wk_icmp_ge X 51 dX5_readAnd_12 (by decide) hf (fun hf => ?_) (fun hf => ?_)
  · exact wq_sub [] rfl (w_X5_readAnd_51 X hz rec hrec _ hf)
  · refine wk_aload_n X dX5_readAnd_15 0 rfl ?_
    refine wk_ldcS X 14 (by decide) rfl dX5_readAnd_16 ?_
    refine wk_callVi X [.float 14] [] dX5_readAnd_18 rfl vo_X5_91 rfl (by omega) (Nat.le_of_ble_eq_true rfl) hf (c_X5_isWord l _ _ _) (fun r2 hf => ?_)
    refine wk_if_eq X 51 dX5_readAnd_21 (by decide) hf (fun hf => ?_) (fun hf => ?_)
    · exact wq_sub [] rfl (w_X5_readAnd_51 X hz rec hrec _ hf)
    · refine wk_aload_n X dX5_readAnd_24 0 rfl ?_
      refine wk_callVv X [] [] dX5_readAnd_25 rfl vo_X5_63 rfl (by omega) (Nat.le_of_ble_eq_true rfl) hf (c_X5_advance l _ _) (fun r3 hf => ?_)
      refine wk_aload_n X dX5_readAnd_28 0 rfl ?_
      refine wk_iload_n X dX5_readAnd_29 1 rfl ?_
      refine wk_callVv X [.int x1] [] dX5_readAnd_30 rfl vo_X5_179 rfl (by omega) (Nat.le_of_ble_eq_true rfl) hf (c_X5_readNot l hz rec hrec _ _ _) (fun r4 hf => ?_)
      refine wk_aload_n X dX5_readAnd_33 0 rfl ?_
      refine wk_getR X dX5_readAnd_34 fo_X5_12 hf (fun v5 hf => ?_)
      refine wk_getR X dX5_readAnd_37 fo_X5_170 hf (fun v6 hf => ?_)
      refine wk_bipush X dX5_readAnd_40 ib_m14 ?_
      refine wk_callVv X [.int (-14)] [] dX5_readAnd_42 rfl vo_X5_176 rfl (by omega) (Nat.le_of_ble_eq_true rfl) hf (c_X6_add l _ _ _) (fun r7 hf => ?_)
      refine wk_iinc (lv' := [(2, .int (x2 + 1)), (0, .ref x0), (1, .int x1)]) X dX5_readAnd_45 2 rfl ic_1 (by decide) rfl ?_
      refine wk_goto X 7 dX5_readAnd_48 (by decide) ?_
      exact wq_sub [1, 2, 0] rfl (hk7 _ _ _ _ hf)
def l_X5_readAnd_7 (rec : Nat → Int32 → hp_H → Option hp_H) (x0 : Nat) (x1 : Int32) (x2 : Int32) (h : hp_H) : Option (hp_H) := lp (fun k (s : Nat × Int32 × Int32 × hp_H) => f_X5_readAnd_7 rec  (fun a0 a1 a2 a3 => k (a0, a1, a2, a3)) s.1 s.2.1 s.2.2.1 s.2.2.2) 100000 (x0, x1, x2, h)
theorem wl_X5_readAnd_7 (X : wx G p s m args meth c cX5_readAnd 3 RX5 none) {z : Nat} (hz : 20 ≤ z) (rec : Nat → Int32 → hp_H → Option hp_H) (hrec : ∀ (x0 : Nat) (x1 : Int32) (h r : hp_H), rec x0 x1 h = some r → cv l (z) yX5_readExpr cX5_readExpr 3 none 5 x0 [.int x1] h none r) (x0 : Nat) (x1 : Int32) (x2 : Int32) (h : hp_H) (hf : l_X5_readAnd_7 rec x0 x1 x2 h = some o) : wq p l e (mt_R (z + 6) 0 0) s m args below meth c (MQ below (mt_Q G none o) args s 0 0 (hp_A G)) G 3 0 0 7 [(0, .ref x0), (1, .int x1), (2, .int x2)] [] h :=
  lp_ind (P := fun (s_ : Nat × Int32 × Int32 × hp_H) => wq p l e (mt_R (z + 6) 0 0) s m args below meth c (MQ below (mt_Q G none o) args s 0 0 (hp_A G)) G 3 0 0 7 [(0, .ref s_.1), (1, .int s_.2.1), (2, .int s_.2.2.1)] [] s_.2.2.2) (fun k s hk hf => w_X5_readAnd_7 X hz rec hrec  (fun a0 a1 a2 a3 => k (a0, a1, a2, a3)) (fun a0 a1 a2 a3 hf => hk (a0, a1, a2, a3) hf) s.1 s.2.1 s.2.2.1 s.2.2.2 hf) 100000 (x0, x1, x2, h) hf
end Sf_X5_readAnd
def f_X5_readAnd (rec : Nat → Int32 → hp_H → Option hp_H) (x0 : Nat) (x1 : Int32) (h : hp_H) : Option (hp_H) := gd h x0 5 ((f_X5_readNot rec x0 x1 h).bind fun r1 => l_X5_readAnd_7 rec x0 x1 0 r1)
set_option maxRecDepth 20000 in
theorem c_X5_readAnd (l : Launch) {z : Nat} (hz : 20 ≤ z) (rec : Nat → Int32 → hp_H → Option hp_H) (hrec : ∀ (x0 : Nat) (x1 : Int32) (h r : hp_H), rec x0 x1 h = some r → cv l (z) yX5_readExpr cX5_readExpr 3 none 5 x0 [.int x1] h none r) (x0 : Nat) (x1 : Int32) (h : hp_H) (r : hp_H) (hf : f_X5_readAnd rec x0 x1 h = some r) : cv l (z + 6) yX5_readAnd cX5_readAnd 3 none 5 x0 [.int x1] h none r := by
  unfold f_X5_readAnd at hf
  refine cv_of (lv := [(0, .ref x0), (1, .int x1)]) hf (by decide +kernel) (Nat.le_of_ble_eq_true rfl) rfl (fun hf p e s m args below meth c G X => ?_)
  refine wk_aload_n X dX5_readAnd_0 0 rfl ?_
  refine wk_iload_n X dX5_readAnd_1 1 rfl ?_
  refine wk_callVv X [.int x1] [] dX5_readAnd_2 rfl vo_X5_179 rfl (by omega) (Nat.le_of_ble_eq_true rfl) hf (c_X5_readNot l hz rec hrec _ _ _) (fun r1 hf => ?_)
  refine wk_iconst X dX5_readAnd_5 ic_0 ?_
  refine wk_istore_n (lv' := [(2, .int 0), (0, .ref x0), (1, .int x1)]) X dX5_readAnd_6 (by decide) rfl ?_
  exact wq_sub [1, 2, 0] rfl (wl_X5_readAnd_7 X hz rec hrec _ _ _ _ hf)
section Sf_X5_readExpr
variable {p : Program} {l : Launch} {e : Env} {s : State} {m : MethodId} {args : Array Value} {below : List Frame} {meth : Method} {c : Code} {G : hp_G} {o : hp_H}
def f_X5_readExpr_92 (rec : Nat → Int32 → hp_H → Option hp_H)  (h : hp_H) : Option (hp_H) := some h
set_option maxRecDepth 20000 in
theorem w_X5_readExpr_92 (X : wx G p s m args meth c cX5_readExpr 3 RX5 none) {z : Nat} (hz : 20 ≤ z) (rec : Nat → Int32 → hp_H → Option hp_H) (hrec : ∀ (x0 : Nat) (x1 : Int32) (h r : hp_H), rec x0 x1 h = some r → cv l (z) yX5_readExpr cX5_readExpr 3 none 5 x0 [.int x1] h none r)  (h : hp_H) (hf : f_X5_readExpr_92 rec h = some o) : wq p l e (mt_R (z + 7) 0 0) s m args below meth c (MQ below (mt_Q G none o) args s 0 0 (hp_A G)) G 3 0 0 92 [] [] h := by
  unfold f_X5_readExpr_92 at hf
  exact wk_return X dX5_readExpr_92 hf
def f_X5_readExpr_48 (rec : Nat → Int32 → hp_H → Option hp_H) (k48 : Nat → Int32 → Int32 → hp_H → Option (hp_H)) (x0 : Nat) (x1 : Int32) (x2 : Int32) (h : hp_H) : Option (hp_H) := (rd_I h x0 5 5).bind fun v1 => if v1 ≤ x2 then (f_X5_readExpr_92 rec h) else ((f_X5_isWord x0 15 h).bind fun r2 => if r2.1 = 0 then (f_X5_readExpr_92 rec r2.2) else ((f_X5_advance x0 r2.2).bind fun r3 => (f_X5_readAnd rec x0 x1 r3).bind fun r4 => (rd_R r4 x0 5 0).bind fun v5 => (rd_R r4 v5 1 6).bind fun v6 => (f_X6_add v6 (-15) r4).bind fun r7 => k48 x0 x1 (x2 + 1) r7))
set_option maxRecDepth 20000 in
theorem w_X5_readExpr_48 (X : wx G p s m args meth c cX5_readExpr 3 RX5 none) {z : Nat} (hz : 20 ≤ z) (rec : Nat → Int32 → hp_H → Option hp_H) (hrec : ∀ (x0 : Nat) (x1 : Int32) (h r : hp_H), rec x0 x1 h = some r → cv l (z) yX5_readExpr cX5_readExpr 3 none 5 x0 [.int x1] h none r) (k48 : Nat → Int32 → Int32 → hp_H → Option (hp_H)) (hk48 : ∀ (x0 : Nat) (x1 : Int32) (x2 : Int32) (h : hp_H), k48 x0 x1 x2 h = some o → wq p l e (mt_R (z + 7) 0 0) s m args below meth c (MQ below (mt_Q G none o) args s 0 0 (hp_A G)) G 3 0 0 48 [(0, .ref x0), (1, .int x1), (2, .int x2)] [] h) (x0 : Nat) (x1 : Int32) (x2 : Int32) (h : hp_H) (hf : f_X5_readExpr_48 rec k48 x0 x1 x2 h = some o) : wq p l e (mt_R (z + 7) 0 0) s m args below meth c (MQ below (mt_Q G none o) args s 0 0 (hp_A G)) G 3 0 0 48 [(0, .ref x0), (1, .int x1), (2, .int x2)] [] h := by
  unfold f_X5_readExpr_48 at hf
  refine wk_iload_n X dX5_readExpr_48 2 rfl ?_
  refine wk_aload_n X dX5_readExpr_49 0 rfl ?_
  refine wk_getI X dX5_readExpr_50 fo_X5_34 hf (fun v1 hf => ?_)
  refine wk_icmp_ge X 92 dX5_readExpr_53 (by decide) hf (fun hf => ?_) (fun hf => ?_)
  · exact wq_sub [] rfl (w_X5_readExpr_92 X hz rec hrec _ hf)
  · refine wk_aload_n X dX5_readExpr_56 0 rfl ?_
    refine wk_ldcS X 15 (by decide) rfl dX5_readExpr_57 ?_
    refine wk_callVi X [.float 15] [] dX5_readExpr_59 rfl vo_X5_91 rfl (by omega) (Nat.le_of_ble_eq_true rfl) hf (c_X5_isWord l _ _ _) (fun r2 hf => ?_)
    refine wk_if_eq X 92 dX5_readExpr_62 (by decide) hf (fun hf => ?_) (fun hf => ?_)
    · exact wq_sub [] rfl (w_X5_readExpr_92 X hz rec hrec _ hf)
    · refine wk_aload_n X dX5_readExpr_65 0 rfl ?_
      refine wk_callVv X [] [] dX5_readExpr_66 rfl vo_X5_63 rfl (by omega) (Nat.le_of_ble_eq_true rfl) hf (c_X5_advance l _ _) (fun r3 hf => ?_)
      refine wk_aload_n X dX5_readExpr_69 0 rfl ?_
      refine wk_iload_n X dX5_readExpr_70 1 rfl ?_
      refine wk_callVv X [.int x1] [] dX5_readExpr_71 rfl vo_X5_165 rfl (by omega) (Nat.le_of_ble_eq_true rfl) hf (c_X5_readAnd l hz rec hrec _ _ _) (fun r4 hf => ?_)
      refine wk_aload_n X dX5_readExpr_74 0 rfl ?_
      refine wk_getR X dX5_readExpr_75 fo_X5_12 hf (fun v5 hf => ?_)
      refine wk_getR X dX5_readExpr_78 fo_X5_170 hf (fun v6 hf => ?_)
      refine wk_bipush X dX5_readExpr_81 ib_m15 ?_
      refine wk_callVv X [.int (-15)] [] dX5_readExpr_83 rfl vo_X5_176 rfl (by omega) (Nat.le_of_ble_eq_true rfl) hf (c_X6_add l _ _ _) (fun r7 hf => ?_)
      refine wk_iinc (lv' := [(2, .int (x2 + 1)), (0, .ref x0), (1, .int x1)]) X dX5_readExpr_86 2 rfl ic_1 (by decide) rfl ?_
      refine wk_goto X 48 dX5_readExpr_89 (by decide) ?_
      exact wq_sub [1, 2, 0] rfl (hk48 _ _ _ _ hf)
def l_X5_readExpr_48 (rec : Nat → Int32 → hp_H → Option hp_H) (x0 : Nat) (x1 : Int32) (x2 : Int32) (h : hp_H) : Option (hp_H) := lp (fun k (s : Nat × Int32 × Int32 × hp_H) => f_X5_readExpr_48 rec  (fun a0 a1 a2 a3 => k (a0, a1, a2, a3)) s.1 s.2.1 s.2.2.1 s.2.2.2) 100000 (x0, x1, x2, h)
theorem wl_X5_readExpr_48 (X : wx G p s m args meth c cX5_readExpr 3 RX5 none) {z : Nat} (hz : 20 ≤ z) (rec : Nat → Int32 → hp_H → Option hp_H) (hrec : ∀ (x0 : Nat) (x1 : Int32) (h r : hp_H), rec x0 x1 h = some r → cv l (z) yX5_readExpr cX5_readExpr 3 none 5 x0 [.int x1] h none r) (x0 : Nat) (x1 : Int32) (x2 : Int32) (h : hp_H) (hf : l_X5_readExpr_48 rec x0 x1 x2 h = some o) : wq p l e (mt_R (z + 7) 0 0) s m args below meth c (MQ below (mt_Q G none o) args s 0 0 (hp_A G)) G 3 0 0 48 [(0, .ref x0), (1, .int x1), (2, .int x2)] [] h :=
  lp_ind (P := fun (s_ : Nat × Int32 × Int32 × hp_H) => wq p l e (mt_R (z + 7) 0 0) s m args below meth c (MQ below (mt_Q G none o) args s 0 0 (hp_A G)) G 3 0 0 48 [(0, .ref s_.1), (1, .int s_.2.1), (2, .int s_.2.2.1)] [] s_.2.2.2) (fun k s hk hf => w_X5_readExpr_48 X hz rec hrec  (fun a0 a1 a2 a3 => k (a0, a1, a2, a3)) (fun a0 a1 a2 a3 hf => hk (a0, a1, a2, a3) hf) s.1 s.2.1 s.2.2.1 s.2.2.2 hf) 100000 (x0, x1, x2, h) hf
def f_X5_readExpr_37 (rec : Nat → Int32 → hp_H → Option hp_H) (t0 : Nat) (t1 : Int32) (h : hp_H) : Option (hp_H) := (f_X5_fail t0 t1 h).bind fun r1 => some r1
set_option maxRecDepth 20000 in
theorem w_X5_readExpr_37 (X : wx G p s m args meth c cX5_readExpr 3 RX5 none) {z : Nat} (hz : 20 ≤ z) (rec : Nat → Int32 → hp_H → Option hp_H) (hrec : ∀ (x0 : Nat) (x1 : Int32) (h r : hp_H), rec x0 x1 h = some r → cv l (z) yX5_readExpr cX5_readExpr 3 none 5 x0 [.int x1] h none r) (t0 : Nat) (t1 : Int32) (h : hp_H) (hf : f_X5_readExpr_37 rec t0 t1 h = some o) : wq p l e (mt_R (z + 7) 0 0) s m args below meth c (MQ below (mt_Q G none o) args s 0 0 (hp_A G)) G 3 0 0 37 [] [.int t1, .ref t0] h := by
  unfold f_X5_readExpr_37 at hf
  refine wk_callVv X [.int t1] [] dX5_readExpr_37 rfl vo_X5_129 rfl (by omega) (Nat.le_of_ble_eq_true rfl) hf (c_X5_fail l _ _ _) (fun r1 hf => ?_)
  exact wk_return X dX5_readExpr_40 hf
def f_X5_readExpr_32 (rec : Nat → Int32 → hp_H → Option hp_H) (t0 : Nat) (h : hp_H) : Option (hp_H) := f_X5_readExpr_37 rec t0 2 h
set_option maxRecDepth 20000 in
theorem w_X5_readExpr_32 (X : wx G p s m args meth c cX5_readExpr 3 RX5 none) {z : Nat} (hz : 20 ≤ z) (rec : Nat → Int32 → hp_H → Option hp_H) (hrec : ∀ (x0 : Nat) (x1 : Int32) (h r : hp_H), rec x0 x1 h = some r → cv l (z) yX5_readExpr cX5_readExpr 3 none 5 x0 [.int x1] h none r) (t0 : Nat) (h : hp_H) (hf : f_X5_readExpr_32 rec t0 h = some o) : wq p l e (mt_R (z + 7) 0 0) s m args below meth c (MQ below (mt_Q G none o) args s 0 0 (hp_A G)) G 3 0 0 32 [] [.ref t0] h := by
  unfold f_X5_readExpr_32 at hf
  refine wk_iconst X dX5_readExpr_32 ic_2 ?_
  refine wk_goto X 37 dX5_readExpr_33 (by decide) ?_
  exact wq_sub [] rfl (w_X5_readExpr_37 X hz rec hrec _ _ _ hf)
end Sf_X5_readExpr
def f_X5_readExpr (rec : Nat → Int32 → hp_H → Option hp_H) (x0 : Nat) (x1 : Int32) (h : hp_H) : Option (hp_H) := gd h x0 5 (if x1 < 6 then ((f_X5_readAnd rec x0 x1 h).bind fun r1 => l_X5_readExpr_48 rec x0 x1 0 r1) else ((rd_I h x0 5 7).bind fun v2 => if v2 = 1 then (f_X5_readExpr_32 rec x0 h) else ((rd_I h x0 5 7).bind fun v3 => if v3 = 2 then (f_X5_readExpr_32 rec x0 h) else ((f_X5_isSign x0 40 h).bind fun r4 => if r4.1 = 0 then (f_X5_readExpr_37 rec x0 1 r4.2) else (f_X5_readExpr_32 rec x0 r4.2)))))
set_option maxRecDepth 20000 in
theorem c_X5_readExpr (l : Launch) {z : Nat} (hz : 20 ≤ z) (rec : Nat → Int32 → hp_H → Option hp_H) (hrec : ∀ (x0 : Nat) (x1 : Int32) (h r : hp_H), rec x0 x1 h = some r → cv l (z) yX5_readExpr cX5_readExpr 3 none 5 x0 [.int x1] h none r) (x0 : Nat) (x1 : Int32) (h : hp_H) (r : hp_H) (hf : f_X5_readExpr rec x0 x1 h = some r) : cv l (z + 7) yX5_readExpr cX5_readExpr 3 none 5 x0 [.int x1] h none r := by
  unfold f_X5_readExpr at hf
  refine cv_of (lv := [(0, .ref x0), (1, .int x1)]) hf (by decide +kernel) (Nat.le_of_ble_eq_true rfl) rfl (fun hf p e s m args below meth c G X => ?_)
  refine wk_iload_n X dX5_readExpr_0 1 rfl ?_
  refine wk_bipush X dX5_readExpr_1 ib_6 ?_
  refine wk_icmp_lt X 41 dX5_readExpr_3 (by decide) hf (fun hf => ?_) (fun hf => ?_)
  · refine wk_aload_n X dX5_readExpr_41 0 rfl ?_
    refine wk_iload_n X dX5_readExpr_42 1 rfl ?_
    refine wk_callVv X [.int x1] [] dX5_readExpr_43 rfl vo_X5_165 rfl (by omega) (Nat.le_of_ble_eq_true rfl) hf (c_X5_readAnd l hz rec hrec _ _ _) (fun r1 hf => ?_)
    refine wk_iconst X dX5_readExpr_46 ic_0 ?_
    refine wk_istore_n (lv' := [(2, .int 0), (0, .ref x0), (1, .int x1)]) X dX5_readExpr_47 (by decide) rfl ?_
    exact wq_sub [1, 2, 0] rfl (wl_X5_readExpr_48 X hz rec hrec _ _ _ _ hf)
  · refine wk_aload_n X dX5_readExpr_6 0 rfl ?_
    refine wk_aload_n X dX5_readExpr_7 0 rfl ?_
    refine wk_getI X dX5_readExpr_8 fo_X5_40 hf (fun v2 hf => ?_)
    refine wk_iconst X dX5_readExpr_11 ic_1 ?_
    refine wk_icmp_eq X 32 dX5_readExpr_12 (by decide) hf (fun hf => ?_) (fun hf => ?_)
    · exact wq_sub [] rfl (w_X5_readExpr_32 X hz rec hrec _ _ hf)
    · refine wk_aload_n X dX5_readExpr_15 0 rfl ?_
      refine wk_getI X dX5_readExpr_16 fo_X5_40 hf (fun v3 hf => ?_)
      refine wk_iconst X dX5_readExpr_19 ic_2 ?_
      refine wk_icmp_eq X 32 dX5_readExpr_20 (by decide) hf (fun hf => ?_) (fun hf => ?_)
      · exact wq_sub [] rfl (w_X5_readExpr_32 X hz rec hrec _ _ hf)
      · refine wk_aload_n X dX5_readExpr_23 0 rfl ?_
        refine wk_bipush X dX5_readExpr_24 ib_40 ?_
        refine wk_callVi X [.int 40] [.ref x0] dX5_readExpr_26 rfl vo_X5_162 rfl (by omega) (Nat.le_of_ble_eq_true rfl) hf (c_X5_isSign l _ _ _) (fun r4 hf => ?_)
        refine wk_if_eq X 36 dX5_readExpr_29 (by decide) hf (fun hf => ?_) (fun hf => ?_)
        · refine wk_iconst X dX5_readExpr_36 ic_1 ?_
          exact wq_sub [] rfl (w_X5_readExpr_37 X hz rec hrec _ _ _ hf)
        · exact wq_sub [] rfl (w_X5_readExpr_32 X hz rec hrec _ _ hf)
def r_X5_readExpr : Nat → Nat → Int32 → hp_H → Option hp_H
  | 0 => fun _ _ _ => none
  | d + 1 => f_X5_readExpr (r_X5_readExpr d)
theorem rc_X5_readExpr (l : Launch) : ∀ (d : Nat) (x0 : Nat) (x1 : Int32) (h r : hp_H), r_X5_readExpr d x0 x1 h = some r → cv l (20 + 7 * d) yX5_readExpr cX5_readExpr 3 none 5 x0 [.int x1] h none r
  | 0, _, _, _, _, hf => nomatch hf
  | d + 1, x0, x1, h, r, hf => by
    have q := c_X5_readExpr l (z := 20 + 7 * d) (by omega) (r_X5_readExpr d) (fun x0 x1 h r hf => rc_X5_readExpr l d x0 x1 h r hf) x0 x1 h r hf
    rw [show 20 + 7 * (d + 1) = 20 + 7 * d + 7 by omega]
    exact q
section Sf_X4_tryFrom
variable {p : Program} {l : Launch} {e : Env} {s : State} {m : MethodId} {args : Array Value} {below : List Frame} {meth : Method} {c : Code} {G : hp_G} {o : hp_H}
def f_X4_tryFrom_99 (rec : Nat → Nat → Int32 → Int32 → Int32 → hp_H → Option hp_H) (k40 : Nat → Nat → Int32 → Int32 → Int32 → Int32 → Int32 → hp_H → Option (hp_H)) (x0 : Nat) (x1 : Nat) (x2 : Int32) (x3 : Int32) (x4 : Int32) (x5 : Int32) (x6 : Int32) (h : hp_H) : Option (hp_H) := k40 x0 x1 x2 x3 x4 x5 (x6 + 1) h
set_option maxRecDepth 20000 in
theorem w_X4_tryFrom_99 (X : wx G p s m args meth c cX4_tryFrom 8 RX4 none) {z : Nat} (hz : 20 ≤ z) (rec : Nat → Nat → Int32 → Int32 → Int32 → hp_H → Option hp_H) (hrec : ∀ (x0 x1 : Nat) (x2 x3 x4 : Int32) (h r : hp_H), rec x0 x1 x2 x3 x4 h = some r → cv l (z) yX4_tryFrom cX4_tryFrom 8 none 4 x0 [.ref x1, .int x2, .int x3, .int x4] h none r) (k40 : Nat → Nat → Int32 → Int32 → Int32 → Int32 → Int32 → hp_H → Option (hp_H)) (hk40 : ∀ (x0 : Nat) (x1 : Nat) (x2 : Int32) (x3 : Int32) (x4 : Int32) (x5 : Int32) (x6 : Int32) (h : hp_H), k40 x0 x1 x2 x3 x4 x5 x6 h = some o → wq p l e (mt_R (z + 1) 0 0) s m args below meth c (MQ below (mt_Q G none o) args s 0 0 (hp_A G)) G 8 0 0 40 [(0, .ref x0), (1, .ref x1), (2, .int x2), (3, .int x3), (4, .int x4), (5, .int x5), (6, .int x6)] [] h) (x0 : Nat) (x1 : Nat) (x2 : Int32) (x3 : Int32) (x4 : Int32) (x5 : Int32) (x6 : Int32) (h : hp_H) (hf : f_X4_tryFrom_99 rec k40 x0 x1 x2 x3 x4 x5 x6 h = some o) : wq p l e (mt_R (z + 1) 0 0) s m args below meth c (MQ below (mt_Q G none o) args s 0 0 (hp_A G)) G 8 0 0 99 [(0, .ref x0), (1, .ref x1), (2, .int x2), (3, .int x3), (4, .int x4), (5, .int x5), (6, .int x6)] [] h := by
  unfold f_X4_tryFrom_99 at hf
  refine wk_iinc (lv' := [(6, .int (x6 + 1)), (0, .ref x0), (1, .ref x1), (2, .int x2), (3, .int x3), (4, .int x4), (5, .int x5)]) X dX4_tryFrom_99 6 rfl ic_1 (by decide) rfl ?_
  refine wk_goto X 40 dX4_tryFrom_102 (by decide) ?_
  exact wq_sub [1, 2, 3, 4, 5, 6, 0] rfl (hk40 _ _ _ _ _ _ _ _ hf)
def f_X4_tryFrom_40 (rec : Nat → Nat → Int32 → Int32 → Int32 → hp_H → Option hp_H) (k40 : Nat → Nat → Int32 → Int32 → Int32 → Int32 → Int32 → hp_H → Option (hp_H)) (x0 : Nat) (x1 : Nat) (x2 : Int32) (x3 : Int32) (x4 : Int32) (x5 : Int32) (x6 : Int32) (h : hp_H) : Option (hp_H) := if x5 ≤ x6 then (some h) else ((f_X10_holds x3 x6 h).bind fun r1 => if r1.1 = 0 then ((f_X4_rightAt x0 x1 (x2 - 1) (1 <<< (x6 &&& 31)) r1.2).bind fun r2 => (rd_R r2.2 x0 4 1).bind fun v3 => (f_X2_set v3 x2 x6 r2.2).bind fun r4 => (rec x0 x1 (x2 + 1) (x3 ||| (1 <<< (x6 &&& 31))) (x4 + r2.1) r4).bind fun r5 => f_X4_tryFrom_99 rec k40 x0 x1 x2 x3 x4 x5 x6 r5) else (f_X4_tryFrom_99 rec k40 x0 x1 x2 x3 x4 x5 x6 r1.2))
set_option maxRecDepth 20000 in
theorem w_X4_tryFrom_40 (X : wx G p s m args meth c cX4_tryFrom 8 RX4 none) {z : Nat} (hz : 20 ≤ z) (rec : Nat → Nat → Int32 → Int32 → Int32 → hp_H → Option hp_H) (hrec : ∀ (x0 x1 : Nat) (x2 x3 x4 : Int32) (h r : hp_H), rec x0 x1 x2 x3 x4 h = some r → cv l (z) yX4_tryFrom cX4_tryFrom 8 none 4 x0 [.ref x1, .int x2, .int x3, .int x4] h none r) (k40 : Nat → Nat → Int32 → Int32 → Int32 → Int32 → Int32 → hp_H → Option (hp_H)) (hk40 : ∀ (x0 : Nat) (x1 : Nat) (x2 : Int32) (x3 : Int32) (x4 : Int32) (x5 : Int32) (x6 : Int32) (h : hp_H), k40 x0 x1 x2 x3 x4 x5 x6 h = some o → wq p l e (mt_R (z + 1) 0 0) s m args below meth c (MQ below (mt_Q G none o) args s 0 0 (hp_A G)) G 8 0 0 40 [(0, .ref x0), (1, .ref x1), (2, .int x2), (3, .int x3), (4, .int x4), (5, .int x5), (6, .int x6)] [] h) (x0 : Nat) (x1 : Nat) (x2 : Int32) (x3 : Int32) (x4 : Int32) (x5 : Int32) (x6 : Int32) (h : hp_H) (hf : f_X4_tryFrom_40 rec k40 x0 x1 x2 x3 x4 x5 x6 h = some o) : wq p l e (mt_R (z + 1) 0 0) s m args below meth c (MQ below (mt_Q G none o) args s 0 0 (hp_A G)) G 8 0 0 40 [(0, .ref x0), (1, .ref x1), (2, .int x2), (3, .int x3), (4, .int x4), (5, .int x5), (6, .int x6)] [] h := by
  unfold f_X4_tryFrom_40 at hf
  refine wk_iload X dX4_tryFrom_40 6 rfl ?_
  refine wk_iload X dX4_tryFrom_42 5 rfl ?_
  refine wk_icmp_ge X 105 dX4_tryFrom_44 (by decide) hf (fun hf => ?_) (fun hf => ?_)
  · exact wk_return X dX4_tryFrom_105 hf
  · refine wk_iload_n X dX4_tryFrom_47 3 rfl ?_
    refine wk_iload X dX4_tryFrom_48 6 rfl ?_
    refine wk_callSNi X [.int x3, .int x6] [] dX4_tryFrom_50 rfl vo_X4_61 rfl (by omega) (Nat.le_of_ble_eq_true rfl) hf (c_X10_holds l _ _ _) (fun r1 hf => ?_)
    refine wk_if_ne X 99 dX4_tryFrom_53 (by decide) hf (fun hf => ?_) (fun hf => ?_)
    · exact wq_sub [0, 1, 2, 3, 4, 5, 6] rfl (w_X4_tryFrom_99 X hz rec hrec k40 hk40 _ _ _ _ _ _ _ _ hf)
    · refine wk_aload_n X dX4_tryFrom_56 0 rfl ?_
      refine wk_aload_n X dX4_tryFrom_57 1 rfl ?_
      refine wk_iload_n X dX4_tryFrom_58 2 rfl ?_
      refine wk_iconst X dX4_tryFrom_59 ic_1 ?_
      refine wk_isub X dX4_tryFrom_60 ?_
      refine wk_iconst X dX4_tryFrom_61 ic_1 ?_
      refine wk_iload X dX4_tryFrom_62 6 rfl ?_
      refine wk_ishl X dX4_tryFrom_64 ?_
      refine wk_callVi X [.ref x1, .int (x2 - 1), .int (1 <<< (x6 &&& 31))] [] dX4_tryFrom_65 rfl vo_X4_54 rfl (by omega) (Nat.le_of_ble_eq_true rfl) hf (c_X4_rightAt l _ _ _ _ _) (fun r2 hf => ?_)
      refine wk_istore (lv' := [(7, .int r2.1), (0, .ref x0), (1, .ref x1), (2, .int x2), (3, .int x3), (4, .int x4), (5, .int x5), (6, .int x6)]) X dX4_tryFrom_68 (by decide) rfl ?_
      refine wk_aload_n X dX4_tryFrom_70 1 rfl ?_
      refine wk_getR X dX4_tryFrom_71 fo_X4_20 hf (fun v3 hf => ?_)
      refine wk_iload_n X dX4_tryFrom_74 3 rfl ?_
      refine wk_iload X dX4_tryFrom_75 7 rfl ?_
      refine wk_callVv X [.int x2, .int x6] [] dX4_tryFrom_77 rfl vo_X4_65 rfl (by omega) (Nat.le_of_ble_eq_true rfl) hf (c_X2_set l _ _ _ _) (fun r4 hf => ?_)
      refine wk_aload_n X dX4_tryFrom_80 1 rfl ?_
      refine wk_aload_n X dX4_tryFrom_81 2 rfl ?_
      refine wk_iload_n X dX4_tryFrom_82 3 rfl ?_
      refine wk_iconst X dX4_tryFrom_83 ic_1 ?_
      refine wk_iadd X dX4_tryFrom_84 ?_
      refine wk_iload_n X dX4_tryFrom_85 4 rfl ?_
      refine wk_iconst X dX4_tryFrom_86 ic_1 ?_
      refine wk_iload X dX4_tryFrom_87 7 rfl ?_
      refine wk_ishl X dX4_tryFrom_89 ?_
      refine wk_ior X dX4_tryFrom_90 ?_
      refine wk_iload X dX4_tryFrom_91 5 rfl ?_
      refine wk_iload X dX4_tryFrom_93 0 rfl ?_
      refine wk_iadd X dX4_tryFrom_95 ?_
      refine wk_callVv X [.ref x1, .int (x2 + 1), .int (x3 ||| (1 <<< (x6 &&& 31))), .int (x4 + r2.1)] [] dX4_tryFrom_96 rfl vo_X4_33 rfl (by omega) (Nat.le_of_ble_eq_true rfl) hf (hrec _ _ _ _ _ _) (fun r5 hf => ?_)
      exact wq_sub [1, 2, 3, 4, 5, 6, 7] rfl (w_X4_tryFrom_99 X hz rec hrec k40 hk40 _ _ _ _ _ _ _ _ hf)
def l_X4_tryFrom_40 (rec : Nat → Nat → Int32 → Int32 → Int32 → hp_H → Option hp_H) (x0 : Nat) (x1 : Nat) (x2 : Int32) (x3 : Int32) (x4 : Int32) (x5 : Int32) (x6 : Int32) (h : hp_H) : Option (hp_H) := lp (fun k (s : Nat × Nat × Int32 × Int32 × Int32 × Int32 × Int32 × hp_H) => f_X4_tryFrom_40 rec  (fun a0 a1 a2 a3 a4 a5 a6 a7 => k (a0, a1, a2, a3, a4, a5, a6, a7)) s.1 s.2.1 s.2.2.1 s.2.2.2.1 s.2.2.2.2.1 s.2.2.2.2.2.1 s.2.2.2.2.2.2.1 s.2.2.2.2.2.2.2) 100000 (x0, x1, x2, x3, x4, x5, x6, h)
theorem wl_X4_tryFrom_40 (X : wx G p s m args meth c cX4_tryFrom 8 RX4 none) {z : Nat} (hz : 20 ≤ z) (rec : Nat → Nat → Int32 → Int32 → Int32 → hp_H → Option hp_H) (hrec : ∀ (x0 x1 : Nat) (x2 x3 x4 : Int32) (h r : hp_H), rec x0 x1 x2 x3 x4 h = some r → cv l (z) yX4_tryFrom cX4_tryFrom 8 none 4 x0 [.ref x1, .int x2, .int x3, .int x4] h none r) (x0 : Nat) (x1 : Nat) (x2 : Int32) (x3 : Int32) (x4 : Int32) (x5 : Int32) (x6 : Int32) (h : hp_H) (hf : l_X4_tryFrom_40 rec x0 x1 x2 x3 x4 x5 x6 h = some o) : wq p l e (mt_R (z + 1) 0 0) s m args below meth c (MQ below (mt_Q G none o) args s 0 0 (hp_A G)) G 8 0 0 40 [(0, .ref x0), (1, .ref x1), (2, .int x2), (3, .int x3), (4, .int x4), (5, .int x5), (6, .int x6)] [] h :=
  lp_ind (P := fun (s_ : Nat × Nat × Int32 × Int32 × Int32 × Int32 × Int32 × hp_H) => wq p l e (mt_R (z + 1) 0 0) s m args below meth c (MQ below (mt_Q G none o) args s 0 0 (hp_A G)) G 8 0 0 40 [(0, .ref s_.1), (1, .ref s_.2.1), (2, .int s_.2.2.1), (3, .int s_.2.2.2.1), (4, .int s_.2.2.2.2.1), (5, .int s_.2.2.2.2.2.1), (6, .int s_.2.2.2.2.2.2.1)] [] s_.2.2.2.2.2.2.2) (fun k s hk hf => w_X4_tryFrom_40 X hz rec hrec  (fun a0 a1 a2 a3 a4 a5 a6 a7 => k (a0, a1, a2, a3, a4, a5, a6, a7)) (fun a0 a1 a2 a3 a4 a5 a6 a7 hf => hk (a0, a1, a2, a3, a4, a5, a6, a7) hf) s.1 s.2.1 s.2.2.1 s.2.2.2.1 s.2.2.2.2.1 s.2.2.2.2.2.1 s.2.2.2.2.2.2.1 s.2.2.2.2.2.2.2 hf) 100000 (x0, x1, x2, x3, x4, x5, x6, h) hf
end Sf_X4_tryFrom
def f_X4_tryFrom (rec : Nat → Nat → Int32 → Int32 → Int32 → hp_H → Option hp_H) (x0 : Nat) (x1 : Nat) (x2 : Int32) (x3 : Int32) (x4 : Int32) (h : hp_H) : Option (hp_H) := gd h x0 4 ((rd_R h x1 3 0).bind fun v1 => (rd_I h v1 1 2).bind fun v2 => if x2 < (hp_min v2 6) then (l_X4_tryFrom_40 rec x0 x1 x2 x3 x4 (hp_min v2 6) 0 h) else ((f_X4_rightAt x0 x1 (x2 - 1) 0 h).bind fun r3 => (f_X4_keepBetter x0 (x4 + r3.1) r3.2).bind fun r4 => some r4))
set_option maxRecDepth 20000 in
theorem c_X4_tryFrom (l : Launch) {z : Nat} (hz : 20 ≤ z) (rec : Nat → Nat → Int32 → Int32 → Int32 → hp_H → Option hp_H) (hrec : ∀ (x0 x1 : Nat) (x2 x3 x4 : Int32) (h r : hp_H), rec x0 x1 x2 x3 x4 h = some r → cv l (z) yX4_tryFrom cX4_tryFrom 8 none 4 x0 [.ref x1, .int x2, .int x3, .int x4] h none r) (x0 : Nat) (x1 : Nat) (x2 : Int32) (x3 : Int32) (x4 : Int32) (h : hp_H) (r : hp_H) (hf : f_X4_tryFrom rec x0 x1 x2 x3 x4 h = some r) : cv l (z + 1) yX4_tryFrom cX4_tryFrom 8 none 4 x0 [.ref x1, .int x2, .int x3, .int x4] h none r := by
  unfold f_X4_tryFrom at hf
  refine cv_of (lv := [(0, .ref x0), (1, .ref x1), (2, .int x2), (3, .int x3), (4, .int x4)]) hf (by decide +kernel) (Nat.le_of_ble_eq_true rfl) rfl (fun hf p e s m args below meth c G X => ?_)
  refine wk_aload_n X dX4_tryFrom_0 1 rfl ?_
  refine wk_getR X dX4_tryFrom_1 fo_X4_37 hf (fun v1 hf => ?_)
  refine wk_getI X dX4_tryFrom_4 fo_X4_43 hf (fun v2 hf => ?_)
  refine wk_bipush X dX4_tryFrom_7 ib_6 ?_
  refine wk_min X dX4_tryFrom_9 ml_X4_48 (by omega) (Nat.le_of_ble_eq_true rfl) ?_
  refine wk_istore (lv' := [(5, .int (hp_min v2 6)), (0, .ref x0), (1, .ref x1), (2, .int x2), (3, .int x3), (4, .int x4)]) X dX4_tryFrom_12 (by decide) rfl ?_
  refine wk_iload_n X dX4_tryFrom_14 3 rfl ?_
  refine wk_iload X dX4_tryFrom_15 0 rfl ?_
  refine wk_icmp_lt X 37 dX4_tryFrom_17 (by decide) hf (fun hf => ?_) (fun hf => ?_)
  · refine wk_iconst X dX4_tryFrom_37 ic_0 ?_
    refine wk_istore (lv' := [(6, .int 0), (5, .int (hp_min v2 6)), (0, .ref x0), (1, .ref x1), (2, .int x2), (3, .int x3), (4, .int x4)]) X dX4_tryFrom_38 (by decide) rfl ?_
    exact wq_sub [2, 3, 4, 5, 6, 1, 0] rfl (wl_X4_tryFrom_40 X hz rec hrec _ _ _ _ _ _ _ _ hf)
  · refine wk_aload_n X dX4_tryFrom_20 1 rfl ?_
    refine wk_iload X dX4_tryFrom_21 5 rfl ?_
    refine wk_aload_n X dX4_tryFrom_23 1 rfl ?_
    refine wk_aload_n X dX4_tryFrom_24 2 rfl ?_
    refine wk_iload_n X dX4_tryFrom_25 3 rfl ?_
    refine wk_iconst X dX4_tryFrom_26 ic_1 ?_
    refine wk_isub X dX4_tryFrom_27 ?_
    refine wk_iconst X dX4_tryFrom_28 ic_0 ?_
    refine wk_callVi X [.ref x1, .int (x2 - 1), .int 0] [.int x4, .ref x0] dX4_tryFrom_29 rfl vo_X4_54 rfl (by omega) (Nat.le_of_ble_eq_true rfl) hf (c_X4_rightAt l _ _ _ _ _) (fun r3 hf => ?_)
    refine wk_iadd X dX4_tryFrom_32 ?_
    refine wk_callVv X [.int (x4 + r3.1)] [] dX4_tryFrom_33 rfl vo_X4_58 rfl (by omega) (Nat.le_of_ble_eq_true rfl) hf (c_X4_keepBetter l _ _ _) (fun r4 hf => ?_)
    exact wk_return X dX4_tryFrom_36 hf
def r_X4_tryFrom : Nat → Nat → Nat → Int32 → Int32 → Int32 → hp_H → Option hp_H
  | 0 => fun _ _ _ _ _ _ => none
  | d + 1 => f_X4_tryFrom (r_X4_tryFrom d)
theorem rc_X4_tryFrom (l : Launch) : ∀ (d : Nat) (x0 : Nat) (x1 : Nat) (x2 : Int32) (x3 : Int32) (x4 : Int32) (h r : hp_H), r_X4_tryFrom d x0 x1 x2 x3 x4 h = some r → cv l (20 + 1 * d) yX4_tryFrom cX4_tryFrom 8 none 4 x0 [.ref x1, .int x2, .int x3, .int x4] h none r
  | 0, _, _, _, _, _, _, _, hf => nomatch hf
  | d + 1, x0, x1, x2, x3, x4, h, r, hf => by
    have q := c_X4_tryFrom l (z := 20 + 1 * d) (by omega) (r_X4_tryFrom d) (fun x0 x1 x2 x3 x4 h r hf => rc_X4_tryFrom l d x0 x1 x2 x3 x4 h r hf) x0 x1 x2 x3 x4 h r hf
    rw [show 20 + 1 * (d + 1) = 20 + 1 * d + 1 by omega]
    exact q
section Sf_X5_readLine
variable {p : Program} {l : Launch} {e : Env} {s : State} {m : MethodId} {args : Array Value} {below : List Frame} {meth : Method} {c : Code} {G : hp_G} {o : hp_H}
def f_X5_readLine_143 (x0 : Nat) (h : hp_H) : Option (hp_H) := (f_X5_pass x0 59 h).bind fun r1 => some r1
set_option maxRecDepth 20000 in
theorem w_X5_readLine_143 (X : wx G p s m args meth c cX5_readLine 1 RX5 none) (x0 : Nat) (h : hp_H) (hf : f_X5_readLine_143 x0 h = some o) : wq p l e (mt_R (77) 0 0) s m args below meth c (MQ below (mt_Q G none o) args s 0 0 (hp_A G)) G 1 0 0 143 [(0, .ref x0)] [] h := by
  unfold f_X5_readLine_143 at hf
  refine wk_aload_n X dX5_readLine_143 0 rfl ?_
  refine wk_bipush X dX5_readLine_144 ib_59 ?_
  refine wk_callVv X [.int 59] [] dX5_readLine_146 rfl vo_X5_132 rfl (by decide) (Nat.le_of_ble_eq_true rfl) hf (c_X5_pass l _ _ _) (fun r1 hf => ?_)
  exact wk_return X dX5_readLine_149 hf
end Sf_X5_readLine
def f_X5_readLine (x0 : Nat) (h : hp_H) : Option (hp_H) := gd h x0 5 ((f_X5_isWord x0 2 h).bind fun r1 => if r1.1 = 0 then ((f_X5_isWord x0 3 r1.2).bind fun r2 => if r2.1 = 0 then ((f_X5_isWord x0 4 r2.2).bind fun r3 => if r3.1 = 0 then ((f_X5_isWord x0 5 r3.2).bind fun r4 => if r4.1 = 0 then ((f_X5_isWord x0 6 r4.2).bind fun r5 => if r5.1 = 0 then ((f_X5_isWord x0 7 r5.2).bind fun r6 => if r6.1 = 0 then ((f_X5_fail x0 1 r6.2).bind fun r7 => f_X5_readLine_143 x0 r7) else ((f_X5_passOnce x0 8 r6.2).bind fun r8 => (r_X5_readExpr 8 x0 0 r8).bind fun r9 => f_X5_readLine_143 x0 r9)) else ((f_X5_passOnce x0 4 r5.2).bind fun r10 => (f_X5_readMuds x0 r10).bind fun r11 => f_X5_readLine_143 x0 r11)) else ((f_X5_passOnce x0 2 r4.2).bind fun r12 => (rd_R r12 x0 5 0).bind fun v13 => (f_X5_take x0 0 12 r12).bind fun r14 => (wr_I r14.2 v13 1 3 r14.1).bind fun h15 => f_X5_readLine_143 x0 h15)) else ((f_X5_passOnce x0 1 r3.2).bind fun r16 => (rd_R r16 x0 5 0).bind fun v17 => (f_X5_take x0 4 12 r16).bind fun r18 => (wr_I r18.2 v17 1 0 r18.1).bind fun h19 => f_X5_readLine_143 x0 h19)) else ((f_X5_readRow x0 r2.2).bind fun r20 => f_X5_readLine_143 x0 r20)) else ((f_X5_readMan x0 r1.2).bind fun r21 => f_X5_readLine_143 x0 r21))
set_option maxRecDepth 20000 in
theorem c_X5_readLine (l : Launch) (x0 : Nat) (h : hp_H) (r : hp_H) (hf : f_X5_readLine x0 h = some r) : cv l (77) yX5_readLine cX5_readLine 1 none 5 x0 [] h none r := by
  unfold f_X5_readLine at hf
  refine cv_of (lv := [(0, .ref x0)]) hf (by decide +kernel) (Nat.le_of_ble_eq_true rfl) rfl (fun hf p e s m args below meth c G X => ?_)
  refine wk_aload_n X dX5_readLine_0 0 rfl ?_
  refine wk_ldcS X 2 (by decide) rfl dX5_readLine_1 ?_
  refine wk_callVi X [.float 2] [] dX5_readLine_3 rfl vo_X5_91 rfl (by decide) (Nat.le_of_ble_eq_true rfl) hf (c_X5_isWord l _ _ _) (fun r1 hf => ?_)
  refine wk_if_eq X 16 dX5_readLine_6 (by decide) hf (fun hf => ?_) (fun hf => ?_)
  · refine wk_aload_n X dX5_readLine_16 0 rfl ?_
    refine wk_ldcS X 3 (by decide) rfl dX5_readLine_17 ?_
    refine wk_callVi X [.float 3] [] dX5_readLine_19 rfl vo_X5_91 rfl (by decide) (Nat.le_of_ble_eq_true rfl) hf (c_X5_isWord l _ _ _) (fun r2 hf => ?_)
    refine wk_if_eq X 32 dX5_readLine_22 (by decide) hf (fun hf => ?_) (fun hf => ?_)
    · refine wk_aload_n X dX5_readLine_32 0 rfl ?_
      refine wk_ldcS X 4 (by decide) rfl dX5_readLine_33 ?_
      refine wk_callVi X [.float 4] [] dX5_readLine_35 rfl vo_X5_91 rfl (by decide) (Nat.le_of_ble_eq_true rfl) hf (c_X5_isWord l _ _ _) (fun r3 hf => ?_)
      refine wk_if_eq X 63 dX5_readLine_38 (by decide) hf (fun hf => ?_) (fun hf => ?_)
      · refine wk_aload_n X dX5_readLine_63 0 rfl ?_
        refine wk_ldcS X 5 (by decide) rfl dX5_readLine_64 ?_
        refine wk_callVi X [.float 5] [] dX5_readLine_66 rfl vo_X5_91 rfl (by decide) (Nat.le_of_ble_eq_true rfl) hf (c_X5_isWord l _ _ _) (fun r4 hf => ?_)
        refine wk_if_eq X 94 dX5_readLine_69 (by decide) hf (fun hf => ?_) (fun hf => ?_)
        · refine wk_aload_n X dX5_readLine_94 0 rfl ?_
          refine wk_ldcS X 6 (by decide) rfl dX5_readLine_95 ?_
          refine wk_callVi X [.float 6] [] dX5_readLine_97 rfl vo_X5_91 rfl (by decide) (Nat.le_of_ble_eq_true rfl) hf (c_X5_isWord l _ _ _) (fun r5 hf => ?_)
          refine wk_if_eq X 115 dX5_readLine_100 (by decide) hf (fun hf => ?_) (fun hf => ?_)
          · refine wk_aload_n X dX5_readLine_115 0 rfl ?_
            refine wk_ldcS X 7 (by decide) rfl dX5_readLine_116 ?_
            refine wk_callVi X [.float 7] [] dX5_readLine_118 rfl vo_X5_91 rfl (by decide) (Nat.le_of_ble_eq_true rfl) hf (c_X5_isWord l _ _ _) (fun r6 hf => ?_)
            refine wk_if_eq X 138 dX5_readLine_121 (by decide) hf (fun hf => ?_) (fun hf => ?_)
            · refine wk_aload_n X dX5_readLine_138 0 rfl ?_
              refine wk_iconst X dX5_readLine_139 ic_1 ?_
              refine wk_callVv X [.int 1] [] dX5_readLine_140 rfl vo_X5_129 rfl (by decide) (Nat.le_of_ble_eq_true rfl) hf (c_X5_fail l _ _ _) (fun r7 hf => ?_)
              exact wq_sub [0] rfl (w_X5_readLine_143 X _ _ hf)
            · refine wk_aload_n X dX5_readLine_124 0 rfl ?_
              refine wk_bipush X dX5_readLine_125 ib_8 ?_
              refine wk_callVv X [.int 8] [] dX5_readLine_127 rfl vo_X5_105 rfl (by decide) (Nat.le_of_ble_eq_true rfl) hf (c_X5_passOnce l _ _ _) (fun r8 hf => ?_)
              refine wk_aload_n X dX5_readLine_130 0 rfl ?_
              refine wk_iconst X dX5_readLine_131 ic_0 ?_
              refine wk_callVv X [.int 0] [] dX5_readLine_132 rfl vo_X5_126 rfl (by decide) (Nat.le_of_ble_eq_true rfl) hf (rc_X5_readExpr l 8 _ _ _) (fun r9 hf => ?_)
              refine wk_goto X 143 dX5_readLine_135 (by decide) ?_
              exact wq_sub [0] rfl (w_X5_readLine_143 X _ _ hf)
          · refine wk_aload_n X dX5_readLine_103 0 rfl ?_
            refine wk_iconst X dX5_readLine_104 ic_4 ?_
            refine wk_callVv X [.int 4] [] dX5_readLine_105 rfl vo_X5_105 rfl (by decide) (Nat.le_of_ble_eq_true rfl) hf (c_X5_passOnce l _ _ _) (fun r10 hf => ?_)
            refine wk_aload_n X dX5_readLine_108 0 rfl ?_
            refine wk_callVv X [] [] dX5_readLine_109 rfl vo_X5_121 rfl (by decide) (Nat.le_of_ble_eq_true rfl) hf (c_X5_readMuds l _ _) (fun r11 hf => ?_)
            refine wk_goto X 143 dX5_readLine_112 (by decide) ?_
            exact wq_sub [0] rfl (w_X5_readLine_143 X _ _ hf)
        · refine wk_aload_n X dX5_readLine_72 0 rfl ?_
          refine wk_iconst X dX5_readLine_73 ic_2 ?_
          refine wk_callVv X [.int 2] [] dX5_readLine_74 rfl vo_X5_105 rfl (by decide) (Nat.le_of_ble_eq_true rfl) hf (c_X5_passOnce l _ _ _) (fun r12 hf => ?_)
          refine wk_aload_n X dX5_readLine_77 0 rfl ?_
          refine wk_getR X dX5_readLine_78 fo_X5_12 hf (fun v13 hf => ?_)
          refine wk_aload_n X dX5_readLine_81 0 rfl ?_
          refine wk_iconst X dX5_readLine_82 ic_0 ?_
          refine wk_bipush X dX5_readLine_83 ib_12 ?_
          refine wk_callVi X [.int 0, .int 12] [.ref v13] dX5_readLine_85 rfl vo_X5_109 rfl (by decide) (Nat.le_of_ble_eq_true rfl) hf (c_X5_take l _ _ _ _) (fun r14 hf => ?_)
          refine wk_putI X dX5_readLine_88 fo_X5_117 hf (fun h15 hf => ?_)
          refine wk_goto X 143 dX5_readLine_91 (by decide) ?_
          exact wq_sub [0] rfl (w_X5_readLine_143 X _ _ hf)
      · refine wk_aload_n X dX5_readLine_41 0 rfl ?_
        refine wk_iconst X dX5_readLine_42 ic_1 ?_
        refine wk_callVv X [.int 1] [] dX5_readLine_43 rfl vo_X5_105 rfl (by decide) (Nat.le_of_ble_eq_true rfl) hf (c_X5_passOnce l _ _ _) (fun r16 hf => ?_)
        refine wk_aload_n X dX5_readLine_46 0 rfl ?_
        refine wk_getR X dX5_readLine_47 fo_X5_12 hf (fun v17 hf => ?_)
        refine wk_aload_n X dX5_readLine_50 0 rfl ?_
        refine wk_iconst X dX5_readLine_51 ic_4 ?_
        refine wk_bipush X dX5_readLine_52 ib_12 ?_
        refine wk_callVi X [.int 4, .int 12] [.ref v17] dX5_readLine_54 rfl vo_X5_109 rfl (by decide) (Nat.le_of_ble_eq_true rfl) hf (c_X5_take l _ _ _ _) (fun r18 hf => ?_)
        refine wk_putI X dX5_readLine_57 fo_X5_113 hf (fun h19 hf => ?_)
        refine wk_goto X 143 dX5_readLine_60 (by decide) ?_
        exact wq_sub [0] rfl (w_X5_readLine_143 X _ _ hf)
    · refine wk_aload_n X dX5_readLine_25 0 rfl ?_
      refine wk_callVv X [] [] dX5_readLine_26 rfl vo_X5_100 rfl (by decide) (Nat.le_of_ble_eq_true rfl) hf (c_X5_readRow l _ _) (fun r20 hf => ?_)
      refine wk_goto X 143 dX5_readLine_29 (by decide) ?_
      exact wq_sub [0] rfl (w_X5_readLine_143 X _ _ hf)
  · refine wk_aload_n X dX5_readLine_9 0 rfl ?_
    refine wk_callVv X [] [] dX5_readLine_10 rfl vo_X5_95 rfl (by decide) (Nat.le_of_ble_eq_true rfl) hf (c_X5_readMan l _ _) (fun r21 hf => ?_)
    refine wk_goto X 143 dX5_readLine_13 (by decide) ?_
    exact wq_sub [0] rfl (w_X5_readLine_143 X _ _ hf)
section Sf_X5_readArmy
variable {p : Program} {l : Launch} {e : Env} {s : State} {m : MethodId} {args : Array Value} {below : List Frame} {meth : Method} {c : Code} {G : hp_G} {o : Int32 × hp_H}
def f_X5_readArmy_128 (x0 : Nat) (h : hp_H) : Option (Int32 × hp_H) := (rd_I h x0 5 2).bind fun v1 => some (v1, h)
set_option maxRecDepth 20000 in
theorem w_X5_readArmy_128 (X : wx G p s m args meth c cX5_readArmy 3 RX5 (some .int)) (x0 : Nat) (h : hp_H) (hf : f_X5_readArmy_128 x0 h = some o) : wq p l e (mt_R (78) 0 0) s m args below meth c (MQ below (mt_Q G (some (.int o.1)) o.2) args s 0 0 (hp_A G)) G 3 0 0 128 [(0, .ref x0)] [] h := by
  unfold f_X5_readArmy_128 at hf
  refine wk_aload_n X dX5_readArmy_128 0 rfl ?_
  refine wk_getI X dX5_readArmy_129 fo_X5_27 hf (fun v1 hf => ?_)
  exact wk_ireturn X dX5_readArmy_132 hf
def f_X5_readArmy_81 (k81 : Nat → Int32 → hp_H → Option (Int32 × hp_H)) (x0 : Nat) (x2 : Int32) (h : hp_H) : Option (Int32 × hp_H) := (rd_R h x0 5 0).bind fun v1 => (rd_I h v1 1 1).bind fun v2 => if v2 ≤ x2 then (f_X5_readArmy_128 x0 h) else ((rd_R h x0 5 1).bind fun v3 => (rd_R h v3 3 2).bind fun v4 => (rd_R h x0 5 1).bind fun v5 => (rd_R h v5 3 2).bind fun v6 => (f_X2_at v6 x2 h).bind fun r7 => (rd_R r7.2 x0 5 0).bind fun v8 => (f_X1_allBeats v8 r7.2).bind fun r9 => (f_X2_set v4 x2 (r7.1 &&& r9.1) r9.2).bind fun r10 => k81 x0 (x2 + 1) r10)
set_option maxRecDepth 20000 in
theorem w_X5_readArmy_81 (X : wx G p s m args meth c cX5_readArmy 3 RX5 (some .int)) (k81 : Nat → Int32 → hp_H → Option (Int32 × hp_H)) (hk81 : ∀ (x0 : Nat) (x2 : Int32) (h : hp_H), k81 x0 x2 h = some o → wq p l e (mt_R (78) 0 0) s m args below meth c (MQ below (mt_Q G (some (.int o.1)) o.2) args s 0 0 (hp_A G)) G 3 0 0 81 [(0, .ref x0), (2, .int x2)] [] h) (x0 : Nat) (x2 : Int32) (h : hp_H) (hf : f_X5_readArmy_81 k81 x0 x2 h = some o) : wq p l e (mt_R (78) 0 0) s m args below meth c (MQ below (mt_Q G (some (.int o.1)) o.2) args s 0 0 (hp_A G)) G 3 0 0 81 [(0, .ref x0), (2, .int x2)] [] h := by
  unfold f_X5_readArmy_81 at hf
  refine wk_iload_n X dX5_readArmy_81 1 rfl ?_
  refine wk_aload_n X dX5_readArmy_82 0 rfl ?_
  refine wk_getR X dX5_readArmy_83 fo_X5_12 hf (fun v1 hf => ?_)
  refine wk_getI X dX5_readArmy_86 fo_X5_69 hf (fun v2 hf => ?_)
  refine wk_icmp_ge X 128 dX5_readArmy_89 (by decide) hf (fun hf => ?_) (fun hf => ?_)
  · exact wq_sub [0] rfl (w_X5_readArmy_128 X _ _ hf)
  · refine wk_aload_n X dX5_readArmy_92 0 rfl ?_
    refine wk_getR X dX5_readArmy_93 fo_X5_23 hf (fun v3 hf => ?_)
    refine wk_getR X dX5_readArmy_96 fo_X5_72 hf (fun v4 hf => ?_)
    refine wk_iload_n X dX5_readArmy_99 1 rfl ?_
    refine wk_aload_n X dX5_readArmy_100 0 rfl ?_
    refine wk_getR X dX5_readArmy_101 fo_X5_23 hf (fun v5 hf => ?_)
    refine wk_getR X dX5_readArmy_104 fo_X5_72 hf (fun v6 hf => ?_)
    refine wk_iload_n X dX5_readArmy_107 1 rfl ?_
    refine wk_callVi X [.int x2] [.int x2, .ref v4] dX5_readArmy_108 rfl vo_X5_75 rfl (by decide) (Nat.le_of_ble_eq_true rfl) hf (c_X2_at l _ _ _) (fun r7 hf => ?_)
    refine wk_aload_n X dX5_readArmy_111 0 rfl ?_
    refine wk_getR X dX5_readArmy_112 fo_X5_12 hf (fun v8 hf => ?_)
    refine wk_callVi X [] [.int r7.1, .int x2, .ref v4] dX5_readArmy_115 rfl vo_X5_81 rfl (by decide) (Nat.le_of_ble_eq_true rfl) hf (c_X1_allBeats l _ _) (fun r9 hf => ?_)
    refine wk_iand X dX5_readArmy_118 ?_
    refine wk_callVv X [.int x2, .int (r7.1 &&& r9.1)] [] dX5_readArmy_119 rfl vo_X5_85 rfl (by decide) (Nat.le_of_ble_eq_true rfl) hf (c_X2_set l _ _ _ _) (fun r10 hf => ?_)
    refine wk_iinc (lv' := [(2, .int (x2 + 1)), (0, .ref x0)]) X dX5_readArmy_122 1 rfl ic_1 (by decide) rfl ?_
    refine wk_goto X 81 dX5_readArmy_125 (by decide) ?_
    exact wq_sub [1, 0] rfl (hk81 _ _ _ hf)
def l_X5_readArmy_81 (x0 : Nat) (x2 : Int32) (h : hp_H) : Option (Int32 × hp_H) := lp (fun k (s : Nat × Int32 × hp_H) => f_X5_readArmy_81  (fun a0 a1 a2 => k (a0, a1, a2)) s.1 s.2.1 s.2.2) 100000 (x0, x2, h)
theorem wl_X5_readArmy_81 (X : wx G p s m args meth c cX5_readArmy 3 RX5 (some .int)) (x0 : Nat) (x2 : Int32) (h : hp_H) (hf : l_X5_readArmy_81 x0 x2 h = some o) : wq p l e (mt_R (78) 0 0) s m args below meth c (MQ below (mt_Q G (some (.int o.1)) o.2) args s 0 0 (hp_A G)) G 3 0 0 81 [(0, .ref x0), (2, .int x2)] [] h :=
  lp_ind (P := fun (s_ : Nat × Int32 × hp_H) => wq p l e (mt_R (78) 0 0) s m args below meth c (MQ below (mt_Q G (some (.int o.1)) o.2) args s 0 0 (hp_A G)) G 3 0 0 81 [(0, .ref s_.1), (2, .int s_.2.1)] [] s_.2.2) (fun k s hk hf => w_X5_readArmy_81 X  (fun a0 a1 a2 => k (a0, a1, a2)) (fun a0 a1 a2 hf => hk (a0, a1, a2) hf) s.1 s.2.1 s.2.2 hf) 100000 (x0, x2, h) hf
def f_X5_readArmy_79 (x0 : Nat) (h : hp_H) : Option (Int32 × hp_H) := l_X5_readArmy_81 x0 0 h
set_option maxRecDepth 20000 in
theorem w_X5_readArmy_79 (X : wx G p s m args meth c cX5_readArmy 3 RX5 (some .int)) (x0 : Nat) (h : hp_H) (hf : f_X5_readArmy_79 x0 h = some o) : wq p l e (mt_R (78) 0 0) s m args below meth c (MQ below (mt_Q G (some (.int o.1)) o.2) args s 0 0 (hp_A G)) G 3 0 0 79 [(0, .ref x0)] [] h := by
  unfold f_X5_readArmy_79 at hf
  refine wk_iconst X dX5_readArmy_79 ic_0 ?_
  refine wk_istore_n (lv' := [(2, .int 0), (0, .ref x0)]) X dX5_readArmy_80 (by decide) rfl ?_
  exact wq_sub [1, 0] rfl (wl_X5_readArmy_81 X _ _ _ hf)
def f_X5_readArmy_50 (k50 : Nat → Int32 → Int32 → hp_H → Option (Int32 × hp_H)) (x0 : Nat) (x1 : Int32) (x2 : Int32) (h : hp_H) : Option (Int32 × hp_H) := if x1 < x2 then (f_X5_readArmy_79 x0 h) else ((rd_I h x0 5 2).bind fun v1 => if v1 = 0 then ((rd_I h x0 5 7).bind fun v2 => if v2 = 0 then (f_X5_readArmy_79 x0 h) else ((f_X5_readLine x0 h).bind fun r3 => k50 x0 x1 (x2 + 1) r3)) else (f_X5_readArmy_79 x0 h))
set_option maxRecDepth 20000 in
theorem w_X5_readArmy_50 (X : wx G p s m args meth c cX5_readArmy 3 RX5 (some .int)) (k50 : Nat → Int32 → Int32 → hp_H → Option (Int32 × hp_H)) (hk50 : ∀ (x0 : Nat) (x1 : Int32) (x2 : Int32) (h : hp_H), k50 x0 x1 x2 h = some o → wq p l e (mt_R (78) 0 0) s m args below meth c (MQ below (mt_Q G (some (.int o.1)) o.2) args s 0 0 (hp_A G)) G 3 0 0 50 [(0, .ref x0), (1, .int x1), (2, .int x2)] [] h) (x0 : Nat) (x1 : Int32) (x2 : Int32) (h : hp_H) (hf : f_X5_readArmy_50 k50 x0 x1 x2 h = some o) : wq p l e (mt_R (78) 0 0) s m args below meth c (MQ below (mt_Q G (some (.int o.1)) o.2) args s 0 0 (hp_A G)) G 3 0 0 50 [(0, .ref x0), (1, .int x1), (2, .int x2)] [] h := by
  unfold f_X5_readArmy_50 at hf
  refine wk_iload_n X dX5_readArmy_50 2 rfl ?_
  refine wk_iload_n X dX5_readArmy_51 1 rfl ?_
  refine wk_icmp_gt X 79 dX5_readArmy_52 (by decide) hf (fun hf => ?_) (fun hf => ?_)
  · exact wq_sub [0] rfl (w_X5_readArmy_79 X _ _ hf)
  · refine wk_aload_n X dX5_readArmy_55 0 rfl ?_
    refine wk_getI X dX5_readArmy_56 fo_X5_27 hf (fun v1 hf => ?_)
    refine wk_if_ne X 79 dX5_readArmy_59 (by decide) hf (fun hf => ?_) (fun hf => ?_)
    · exact wq_sub [0] rfl (w_X5_readArmy_79 X _ _ hf)
    · refine wk_aload_n X dX5_readArmy_62 0 rfl ?_
      refine wk_getI X dX5_readArmy_63 fo_X5_40 hf (fun v2 hf => ?_)
      refine wk_if_eq X 79 dX5_readArmy_66 (by decide) hf (fun hf => ?_) (fun hf => ?_)
      · exact wq_sub [0] rfl (w_X5_readArmy_79 X _ _ hf)
      · refine wk_aload_n X dX5_readArmy_69 0 rfl ?_
        refine wk_callVv X [] [] dX5_readArmy_70 rfl vo_X5_66 rfl (by decide) (Nat.le_of_ble_eq_true rfl) hf (c_X5_readLine l _ _) (fun r3 hf => ?_)
        refine wk_iinc (lv' := [(2, .int (x2 + 1)), (0, .ref x0), (1, .int x1)]) X dX5_readArmy_73 2 rfl ic_1 (by decide) rfl ?_
        refine wk_goto X 50 dX5_readArmy_76 (by decide) ?_
        exact wq_sub [1, 2, 0] rfl (hk50 _ _ _ _ hf)
def l_X5_readArmy_50 (x0 : Nat) (x1 : Int32) (x2 : Int32) (h : hp_H) : Option (Int32 × hp_H) := lp (fun k (s : Nat × Int32 × Int32 × hp_H) => f_X5_readArmy_50  (fun a0 a1 a2 a3 => k (a0, a1, a2, a3)) s.1 s.2.1 s.2.2.1 s.2.2.2) 100000 (x0, x1, x2, h)
theorem wl_X5_readArmy_50 (X : wx G p s m args meth c cX5_readArmy 3 RX5 (some .int)) (x0 : Nat) (x1 : Int32) (x2 : Int32) (h : hp_H) (hf : l_X5_readArmy_50 x0 x1 x2 h = some o) : wq p l e (mt_R (78) 0 0) s m args below meth c (MQ below (mt_Q G (some (.int o.1)) o.2) args s 0 0 (hp_A G)) G 3 0 0 50 [(0, .ref x0), (1, .int x1), (2, .int x2)] [] h :=
  lp_ind (P := fun (s_ : Nat × Int32 × Int32 × hp_H) => wq p l e (mt_R (78) 0 0) s m args below meth c (MQ below (mt_Q G (some (.int o.1)) o.2) args s 0 0 (hp_A G)) G 3 0 0 50 [(0, .ref s_.1), (1, .int s_.2.1), (2, .int s_.2.2.1)] [] s_.2.2.2) (fun k s hk hf => w_X5_readArmy_50 X  (fun a0 a1 a2 a3 => k (a0, a1, a2, a3)) (fun a0 a1 a2 a3 hf => hk (a0, a1, a2, a3) hf) s.1 s.2.1 s.2.2.1 s.2.2.2 hf) 100000 (x0, x1, x2, h) hf
end Sf_X5_readArmy
def f_X5_readArmy (x0 : Nat) (x1 : Int32) (h : hp_H) : Option (Int32 × hp_H) := gd h x0 5 ((wr_I h x0 5 5 x1).bind fun h1 => (wr_I h1 x0 5 6 0).bind fun h2 => (wr_I h2 x0 5 10 0).bind fun h3 => (wr_I h3 x0 5 11 0).bind fun h4 => (wr_I h4 x0 5 2 0).bind fun h5 => (wr_I h5 x0 5 3 (-1)).bind fun h6 => (rd_R h6 x0 5 0).bind fun v7 => (f_X1_clear v7 h6).bind fun r8 => (rd_R r8 x0 5 1).bind fun v9 => (f_X3_clear v9 r8).bind fun r10 => (f_X5_advance x0 r10).bind fun r11 => l_X5_readArmy_50 x0 x1 0 r11)
set_option maxRecDepth 20000 in
theorem c_X5_readArmy (l : Launch) (x0 : Nat) (x1 : Int32) (h : hp_H) (r : Int32 × hp_H) (hf : f_X5_readArmy x0 x1 h = some r) : cv l (78) yX5_readArmy cX5_readArmy 3 (some .int) 5 x0 [.int x1] h (some (.int r.1)) r.2 := by
  unfold f_X5_readArmy at hf
  refine cv_of (lv := [(0, .ref x0), (1, .int x1)]) hf (by decide +kernel) (Nat.le_of_ble_eq_true rfl) rfl (fun hf p e s m args below meth c G X => ?_)
  refine wk_aload_n X dX5_readArmy_0 0 rfl ?_
  refine wk_iload_n X dX5_readArmy_1 1 rfl ?_
  refine wk_putI X dX5_readArmy_2 fo_X5_34 hf (fun h1 hf => ?_)
  refine wk_aload_n X dX5_readArmy_5 0 rfl ?_
  refine wk_iconst X dX5_readArmy_6 ic_0 ?_
  refine wk_putI X dX5_readArmy_7 fo_X5_37 hf (fun h2 hf => ?_)
  refine wk_aload_n X dX5_readArmy_10 0 rfl ?_
  refine wk_iconst X dX5_readArmy_11 ic_0 ?_
  refine wk_putI X dX5_readArmy_12 fo_X5_49 hf (fun h3 hf => ?_)
  refine wk_aload_n X dX5_readArmy_15 0 rfl ?_
  refine wk_iconst X dX5_readArmy_16 ic_0 ?_
  refine wk_putI X dX5_readArmy_17 fo_X5_52 hf (fun h4 hf => ?_)
  refine wk_aload_n X dX5_readArmy_20 0 rfl ?_
  refine wk_iconst X dX5_readArmy_21 ic_0 ?_
  refine wk_putI X dX5_readArmy_22 fo_X5_27 hf (fun h5 hf => ?_)
  refine wk_aload_n X dX5_readArmy_25 0 rfl ?_
  refine wk_iconst X dX5_readArmy_26 ic_m1 ?_
  refine wk_putI X dX5_readArmy_27 fo_X5_31 hf (fun h6 hf => ?_)
  refine wk_aload_n X dX5_readArmy_30 0 rfl ?_
  refine wk_getR X dX5_readArmy_31 fo_X5_12 hf (fun v7 hf => ?_)
  refine wk_callVv X [] [] dX5_readArmy_34 rfl vo_X5_59 rfl (by decide) (Nat.le_of_ble_eq_true rfl) hf (c_X1_clear l _ _) (fun r8 hf => ?_)
  refine wk_aload_n X dX5_readArmy_37 0 rfl ?_
  refine wk_getR X dX5_readArmy_38 fo_X5_23 hf (fun v9 hf => ?_)
  refine wk_callVv X [] [] dX5_readArmy_41 rfl vo_X5_62 rfl (by decide) (Nat.le_of_ble_eq_true rfl) hf (c_X3_clear l _ _) (fun r10 hf => ?_)
  refine wk_aload_n X dX5_readArmy_44 0 rfl ?_
  refine wk_callVv X [] [] dX5_readArmy_45 rfl vo_X5_63 rfl (by decide) (Nat.le_of_ble_eq_true rfl) hf (c_X5_advance l _ _) (fun r11 hf => ?_)
  refine wk_iconst X dX5_readArmy_48 ic_0 ?_
  refine wk_istore_n (lv' := [(2, .int 0), (0, .ref x0), (1, .int x1)]) X dX5_readArmy_49 (by decide) rfl ?_
  exact wq_sub [1, 2, 0] rfl (wl_X5_readArmy_50 X _ _ _ _ hf)
section Sf_X4_seek
variable {p : Program} {l : Launch} {e : Env} {s : State} {m : MethodId} {args : Array Value} {below : List Frame} {meth : Method} {c : Code} {G : hp_G} {o : hp_H}
end Sf_X4_seek
def f_X4_seek (x0 : Nat) (x1 : Nat) (h : hp_H) : Option (hp_H) := gd h x0 4 ((rd_R h x0 4 0).bind fun v1 => (f_X2_fill v1 (-1) h).bind fun r2 => (wr_I r2 x0 4 3 (-1)).bind fun h3 => (r_X4_tryFrom 9 x0 x1 0 0 0 h3).bind fun r4 => some r4)
set_option maxRecDepth 20000 in
theorem c_X4_seek (l : Launch) (x0 : Nat) (x1 : Nat) (h : hp_H) (r : hp_H) (hf : f_X4_seek x0 x1 h = some r) : cv l (30) yX4_seek cX4_seek 2 none 4 x0 [.ref x1] h none r := by
  unfold f_X4_seek at hf
  refine cv_of (lv := [(0, .ref x0), (1, .ref x1)]) hf (by decide +kernel) (Nat.le_of_ble_eq_true rfl) rfl (fun hf p e s m args below meth c G X => ?_)
  refine wk_aload_n X dX4_seek_0 0 rfl ?_
  refine wk_getR X dX4_seek_1 fo_X4_16 hf (fun v1 hf => ?_)
  refine wk_iconst X dX4_seek_4 ic_m1 ?_
  refine wk_callVv X [.int (-1)] [] dX4_seek_5 rfl vo_X4_30 rfl (by decide) (Nat.le_of_ble_eq_true rfl) hf (c_X2_fill l _ _ _) (fun r2 hf => ?_)
  refine wk_aload_n X dX4_seek_8 0 rfl ?_
  refine wk_iconst X dX4_seek_9 ic_m1 ?_
  refine wk_putI X dX4_seek_10 fo_X4_26 hf (fun h3 hf => ?_)
  refine wk_aload_n X dX4_seek_13 0 rfl ?_
  refine wk_aload_n X dX4_seek_14 1 rfl ?_
  refine wk_iconst X dX4_seek_15 ic_0 ?_
  refine wk_iconst X dX4_seek_16 ic_0 ?_
  refine wk_iconst X dX4_seek_17 ic_0 ?_
  refine wk_callVv X [.ref x1, .int 0, .int 0, .int 0] [] dX4_seek_18 rfl vo_X4_33 rfl (by decide) (Nat.le_of_ble_eq_true rfl) hf (rc_X4_tryFrom l 9 _ _ _ _ _ _) (fun r4 hf => ?_)
  exact wk_return X dX4_seek_21 hf
