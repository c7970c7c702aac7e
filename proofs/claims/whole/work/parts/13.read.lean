section Sf_X5_isBlank
variable {p : Program} {l : Launch} {e : Env} {s : State} {m : MethodId} {args : Array Value} {below : List Frame} {meth : Method} {c : Code} {G : hp_G} {o : Int32 × hp_H}
def f_X5_isBlank_17 (t0 : Int32) (h : hp_H) : Option (Int32 × hp_H) := if t0 = 0 ∨ t0 = 1 then some (t0, h) else none
set_option maxRecDepth 20000 in
theorem w_X5_isBlank_17 (X : wx G p s m args meth c cX5_isBlank 1 RX5 (some .boolean)) (t0 : Int32) (h : hp_H) (hf : f_X5_isBlank_17 t0 h = some o) : wq p l e (mt_R (1) 0 0) s m args below meth c (MQ below (mt_Q G (some (.int o.1)) o.2) args s 0 0 (hp_A G)) G 1 0 0 17 [] [.int t0] h := by
  unfold f_X5_isBlank_17 at hf
  exact wk_zreturn X dX5_isBlank_17 hf
def f_X5_isBlank_12  (h : hp_H) : Option (Int32 × hp_H) := f_X5_isBlank_17 1 h
set_option maxRecDepth 20000 in
theorem w_X5_isBlank_12 (X : wx G p s m args meth c cX5_isBlank 1 RX5 (some .boolean))  (h : hp_H) (hf : f_X5_isBlank_12 h = some o) : wq p l e (mt_R (1) 0 0) s m args below meth c (MQ below (mt_Q G (some (.int o.1)) o.2) args s 0 0 (hp_A G)) G 1 0 0 12 [] [] h := by
  unfold f_X5_isBlank_12 at hf
  refine wk_iconst X dX5_isBlank_12 ic_1 ?_
  refine wk_goto X 17 dX5_isBlank_13 (by decide) ?_
  exact wq_sub [] rfl (w_X5_isBlank_17 X _ _ hf)
end Sf_X5_isBlank
def f_X5_isBlank (x0 : Int32) (h : hp_H) : Option (Int32 × hp_H) := if x0 = 32 then (f_X5_isBlank_12 h) else (if x0 = 10 then (f_X5_isBlank_12 h) else (f_X5_isBlank_17 0 h))
set_option maxRecDepth 20000 in
theorem c_X5_isBlank (l : Launch) (x0 : Int32) (h : hp_H) (r : Int32 × hp_H) (hf : f_X5_isBlank x0 h = some r) : cs l 1 yX5_isBlank cX5_isBlank 1 (some .boolean) [.int x0] h (some (.int r.1)) r.2 := by
  unfold f_X5_isBlank at hf
  refine mt_of (lv := [(0, .int x0)]) (by decide +kernel) (Nat.le_of_ble_eq_true rfl) rfl (fun p e s m args below meth c G X => ?_)
  refine wk_iload_n X dX5_isBlank_0 0 rfl ?_
  refine wk_bipush X dX5_isBlank_1 ib_32 ?_
  refine wk_icmp_eq X 12 dX5_isBlank_3 (by decide) hf (fun hf => ?_) (fun hf => ?_)
  · exact wq_sub [] rfl (w_X5_isBlank_12 X _ hf)
  · refine wk_iload_n X dX5_isBlank_6 0 rfl ?_
    refine wk_bipush X dX5_isBlank_7 ib_10 ?_
    refine wk_icmp_ne X 16 dX5_isBlank_9 (by decide) hf (fun hf => ?_) (fun hf => ?_)
    · refine wk_iconst X dX5_isBlank_16 ic_0 ?_
      exact wq_sub [] rfl (w_X5_isBlank_17 X _ _ hf)
    · exact wq_sub [] rfl (w_X5_isBlank_12 X _ hf)
section Sf_X5_isLetter
variable {p : Program} {l : Launch} {e : Env} {s : State} {m : MethodId} {args : Array Value} {below : List Frame} {meth : Method} {c : Code} {G : hp_G} {o : Int32 × hp_H}
def f_X5_isLetter_17 (t0 : Int32) (h : hp_H) : Option (Int32 × hp_H) := if t0 = 0 ∨ t0 = 1 then some (t0, h) else none
set_option maxRecDepth 20000 in
theorem w_X5_isLetter_17 (X : wx G p s m args meth c cX5_isLetter 1 RX5 (some .boolean)) (t0 : Int32) (h : hp_H) (hf : f_X5_isLetter_17 t0 h = some o) : wq p l e (mt_R (1) 0 0) s m args below meth c (MQ below (mt_Q G (some (.int o.1)) o.2) args s 0 0 (hp_A G)) G 1 0 0 17 [] [.int t0] h := by
  unfold f_X5_isLetter_17 at hf
  exact wk_zreturn X dX5_isLetter_17 hf
def f_X5_isLetter_16  (h : hp_H) : Option (Int32 × hp_H) := f_X5_isLetter_17 0 h
set_option maxRecDepth 20000 in
theorem w_X5_isLetter_16 (X : wx G p s m args meth c cX5_isLetter 1 RX5 (some .boolean))  (h : hp_H) (hf : f_X5_isLetter_16 h = some o) : wq p l e (mt_R (1) 0 0) s m args below meth c (MQ below (mt_Q G (some (.int o.1)) o.2) args s 0 0 (hp_A G)) G 1 0 0 16 [] [] h := by
  unfold f_X5_isLetter_16 at hf
  refine wk_iconst X dX5_isLetter_16 ic_0 ?_
  exact wq_sub [] rfl (w_X5_isLetter_17 X _ _ hf)
end Sf_X5_isLetter
def f_X5_isLetter (x0 : Int32) (h : hp_H) : Option (Int32 × hp_H) := if x0 < 97 then (f_X5_isLetter_16 h) else (if 122 < x0 then (f_X5_isLetter_16 h) else (f_X5_isLetter_17 1 h))
set_option maxRecDepth 20000 in
theorem c_X5_isLetter (l : Launch) (x0 : Int32) (h : hp_H) (r : Int32 × hp_H) (hf : f_X5_isLetter x0 h = some r) : cs l 1 yX5_isLetter cX5_isLetter 1 (some .boolean) [.int x0] h (some (.int r.1)) r.2 := by
  unfold f_X5_isLetter at hf
  refine mt_of (lv := [(0, .int x0)]) (by decide +kernel) (Nat.le_of_ble_eq_true rfl) rfl (fun p e s m args below meth c G X => ?_)
  refine wk_iload_n X dX5_isLetter_0 0 rfl ?_
  refine wk_bipush X dX5_isLetter_1 ib_97 ?_
  refine wk_icmp_lt X 16 dX5_isLetter_3 (by decide) hf (fun hf => ?_) (fun hf => ?_)
  · exact wq_sub [] rfl (w_X5_isLetter_16 X _ hf)
  · refine wk_iload_n X dX5_isLetter_6 0 rfl ?_
    refine wk_bipush X dX5_isLetter_7 ib_122 ?_
    refine wk_icmp_gt X 16 dX5_isLetter_9 (by decide) hf (fun hf => ?_) (fun hf => ?_)
    · exact wq_sub [] rfl (w_X5_isLetter_16 X _ hf)
    · refine wk_iconst X dX5_isLetter_12 ic_1 ?_
      refine wk_goto X 17 dX5_isLetter_13 (by decide) ?_
      exact wq_sub [] rfl (w_X5_isLetter_17 X _ _ hf)
section Sf_X5_isDigit
variable {p : Program} {l : Launch} {e : Env} {s : State} {m : MethodId} {args : Array Value} {below : List Frame} {meth : Method} {c : Code} {G : hp_G} {o : Int32 × hp_H}
def f_X5_isDigit_17 (t0 : Int32) (h : hp_H) : Option (Int32 × hp_H) := if t0 = 0 ∨ t0 = 1 then some (t0, h) else none
set_option maxRecDepth 20000 in
theorem w_X5_isDigit_17 (X : wx G p s m args meth c cX5_isDigit 1 RX5 (some .boolean)) (t0 : Int32) (h : hp_H) (hf : f_X5_isDigit_17 t0 h = some o) : wq p l e (mt_R (1) 0 0) s m args below meth c (MQ below (mt_Q G (some (.int o.1)) o.2) args s 0 0 (hp_A G)) G 1 0 0 17 [] [.int t0] h := by
  unfold f_X5_isDigit_17 at hf
  exact wk_zreturn X dX5_isDigit_17 hf
def f_X5_isDigit_16  (h : hp_H) : Option (Int32 × hp_H) := f_X5_isDigit_17 0 h
set_option maxRecDepth 20000 in
theorem w_X5_isDigit_16 (X : wx G p s m args meth c cX5_isDigit 1 RX5 (some .boolean))  (h : hp_H) (hf : f_X5_isDigit_16 h = some o) : wq p l e (mt_R (1) 0 0) s m args below meth c (MQ below (mt_Q G (some (.int o.1)) o.2) args s 0 0 (hp_A G)) G 1 0 0 16 [] [] h := by
  unfold f_X5_isDigit_16 at hf
  refine wk_iconst X dX5_isDigit_16 ic_0 ?_
  exact wq_sub [] rfl (w_X5_isDigit_17 X _ _ hf)
end Sf_X5_isDigit
def f_X5_isDigit (x0 : Int32) (h : hp_H) : Option (Int32 × hp_H) := if x0 < 48 then (f_X5_isDigit_16 h) else (if 57 < x0 then (f_X5_isDigit_16 h) else (f_X5_isDigit_17 1 h))
set_option maxRecDepth 20000 in
theorem c_X5_isDigit (l : Launch) (x0 : Int32) (h : hp_H) (r : Int32 × hp_H) (hf : f_X5_isDigit x0 h = some r) : cs l 1 yX5_isDigit cX5_isDigit 1 (some .boolean) [.int x0] h (some (.int r.1)) r.2 := by
  unfold f_X5_isDigit at hf
  refine mt_of (lv := [(0, .int x0)]) (by decide +kernel) (Nat.le_of_ble_eq_true rfl) rfl (fun p e s m args below meth c G X => ?_)
  refine wk_iload_n X dX5_isDigit_0 0 rfl ?_
  refine wk_bipush X dX5_isDigit_1 ib_48 ?_
  refine wk_icmp_lt X 16 dX5_isDigit_3 (by decide) hf (fun hf => ?_) (fun hf => ?_)
  · exact wq_sub [] rfl (w_X5_isDigit_16 X _ hf)
  · refine wk_iload_n X dX5_isDigit_6 0 rfl ?_
    refine wk_bipush X dX5_isDigit_7 ib_57 ?_
    refine wk_icmp_gt X 16 dX5_isDigit_9 (by decide) hf (fun hf => ?_) (fun hf => ?_)
    · exact wq_sub [] rfl (w_X5_isDigit_16 X _ hf)
    · refine wk_iconst X dX5_isDigit_12 ic_1 ?_
      refine wk_goto X 17 dX5_isDigit_13 (by decide) ?_
      exact wq_sub [] rfl (w_X5_isDigit_17 X _ _ hf)
section Sf_X5_advance
variable {p : Program} {l : Launch} {e : Env} {s : State} {m : MethodId} {args : Array Value} {below : List Frame} {meth : Method} {c : Code} {G : hp_G} {o : hp_H}
def f_X5_advance_260  (h : hp_H) : Option (hp_H) := some h
set_option maxRecDepth 20000 in
theorem w_X5_advance_260 (X : wx G p s m args meth c cX5_advance 2 RX5 none)  (h : hp_H) (hf : f_X5_advance_260 h = some o) : wq p l e (mt_R (5) 0 0) s m args below meth c (MQ below (mt_Q G none o) args s 0 0 (hp_A G)) G 2 0 0 260 [] [] h := by
  unfold f_X5_advance_260 at hf
  exact wk_return X dX5_advance_260 hf
def f_X5_advance_247 (x0 : Nat) (t0 : Nat) (t1 : Int32) (h : hp_H) : Option (hp_H) := (wr_I h t0 5 7 t1).bind fun h1 => (rd_I h1 x0 5 6).bind fun v2 => (wr_I h1 x0 5 6 (v2 + 1)).bind fun h3 => f_X5_advance_260 h3
set_option maxRecDepth 20000 in
theorem w_X5_advance_247 (X : wx G p s m args meth c cX5_advance 2 RX5 none) (x0 : Nat) (t0 : Nat) (t1 : Int32) (h : hp_H) (hf : f_X5_advance_247 x0 t0 t1 h = some o) : wq p l e (mt_R (5) 0 0) s m args below meth c (MQ below (mt_Q G none o) args s 0 0 (hp_A G)) G 2 0 0 247 [(0, .ref x0)] [.int t1, .ref t0] h := by
  unfold f_X5_advance_247 at hf
  refine wk_putI X dX5_advance_247 fo_X5_40 hf (fun h1 hf => ?_)
  refine wk_aload_n X dX5_advance_250 0 rfl ?_
  refine wk_dup X dX5_advance_251 rfl ?_
  refine wk_getI X dX5_advance_252 fo_X5_37 hf (fun v2 hf => ?_)
  refine wk_iconst X dX5_advance_255 ic_1 ?_
  refine wk_iadd X dX5_advance_256 ?_
  refine wk_putI X dX5_advance_257 fo_X5_37 hf (fun h3 hf => ?_)
  exact wq_sub [] rfl (w_X5_advance_260 X _ hf)
def f_X5_advance_190 (k190 : Nat → hp_H → Option (hp_H)) (x0 : Nat) (h : hp_H) : Option (hp_H) := (rd_I h x0 5 6).bind fun v1 => (rd_I h x0 5 5).bind fun v2 => if v2 ≤ v1 then (f_X5_advance_260 h) else ((rd_R h x0 5 4).bind fun v3 => (rd_I h x0 5 6).bind fun v4 => (f_X2_at v3 v4 h).bind fun r5 => (f_X5_isLetter r5.1 r5.2).bind fun r6 => if r6.1 = 0 then (f_X5_advance_260 r6.2) else ((rd_I r6.2 x0 5 6).bind fun v7 => (wr_I r6.2 x0 5 6 (v7 + 1)).bind fun h8 => k190 x0 h8))
set_option maxRecDepth 20000 in
theorem w_X5_advance_190 (X : wx G p s m args meth c cX5_advance 2 RX5 none) (k190 : Nat → hp_H → Option (hp_H)) (hk190 : ∀ (x0 : Nat) (h : hp_H), k190 x0 h = some o → wq p l e (mt_R (5) 0 0) s m args below meth c (MQ below (mt_Q G none o) args s 0 0 (hp_A G)) G 2 0 0 190 [(0, .ref x0)] [] h) (x0 : Nat) (h : hp_H) (hf : f_X5_advance_190 k190 x0 h = some o) : wq p l e (mt_R (5) 0 0) s m args below meth c (MQ below (mt_Q G none o) args s 0 0 (hp_A G)) G 2 0 0 190 [(0, .ref x0)] [] h := by
  unfold f_X5_advance_190 at hf
  refine wk_aload_n X dX5_advance_190 0 rfl ?_
  refine wk_getI X dX5_advance_191 fo_X5_37 hf (fun v1 hf => ?_)
  refine wk_aload_n X dX5_advance_194 0 rfl ?_
  refine wk_getI X dX5_advance_195 fo_X5_34 hf (fun v2 hf => ?_)
  refine wk_icmp_ge X 260 dX5_advance_198 (by decide) hf (fun hf => ?_) (fun hf => ?_)
  · exact wq_sub [] rfl (w_X5_advance_260 X _ hf)
  · refine wk_aload_n X dX5_advance_201 0 rfl ?_
    refine wk_getR X dX5_advance_202 fo_X5_55 hf (fun v3 hf => ?_)
    refine wk_aload_n X dX5_advance_205 0 rfl ?_
    refine wk_getI X dX5_advance_206 fo_X5_37 hf (fun v4 hf => ?_)
    refine wk_callVi X [.int v4] [] dX5_advance_209 rfl vo_X5_75 rfl (by decide) (Nat.le_of_ble_eq_true rfl) hf (c_X2_at l _ _ _) (fun r5 hf => ?_)
    refine wk_callSi X [.int r5.1] [] dX5_advance_212 rfl vo_X5_233 rfl (by decide) (Nat.le_of_ble_eq_true rfl) hf (c_X5_isLetter l _ _) (fun r6 hf => ?_)
    refine wk_if_eq X 260 dX5_advance_215 (by decide) hf (fun hf => ?_) (fun hf => ?_)
    · exact wq_sub [] rfl (w_X5_advance_260 X _ hf)
    · refine wk_aload_n X dX5_advance_218 0 rfl ?_
      refine wk_dup X dX5_advance_219 rfl ?_
      refine wk_getI X dX5_advance_220 fo_X5_37 hf (fun v7 hf => ?_)
      refine wk_iconst X dX5_advance_223 ic_1 ?_
      refine wk_iadd X dX5_advance_224 ?_
      refine wk_putI X dX5_advance_225 fo_X5_37 hf (fun h8 hf => ?_)
      refine wk_goto X 190 dX5_advance_228 (by decide) ?_
      exact wq_sub [0] rfl (hk190 _ _ hf)
def l_X5_advance_190 (x0 : Nat) (h : hp_H) : Option (hp_H) := lp (fun k (s : Nat × hp_H) => f_X5_advance_190  (fun a0 a1 => k (a0, a1)) s.1 s.2) 100000 (x0, h)
theorem wl_X5_advance_190 (X : wx G p s m args meth c cX5_advance 2 RX5 none) (x0 : Nat) (h : hp_H) (hf : l_X5_advance_190 x0 h = some o) : wq p l e (mt_R (5) 0 0) s m args below meth c (MQ below (mt_Q G none o) args s 0 0 (hp_A G)) G 2 0 0 190 [(0, .ref x0)] [] h :=
  lp_ind (P := fun (s_ : Nat × hp_H) => wq p l e (mt_R (5) 0 0) s m args below meth c (MQ below (mt_Q G none o) args s 0 0 (hp_A G)) G 2 0 0 190 [(0, .ref s_.1)] [] s_.2) (fun k s hk hf => w_X5_advance_190 X  (fun a0 a1 => k (a0, a1)) (fun a0 a1 hf => hk (a0, a1) hf) s.1 s.2 hf) 100000 (x0, h) hf
def f_X5_advance_105 (k105 : Nat → hp_H → Option (hp_H)) (x0 : Nat) (h : hp_H) : Option (hp_H) := (rd_I h x0 5 6).bind fun v1 => (rd_I h x0 5 5).bind fun v2 => if v2 ≤ v1 then (f_X5_advance_260 h) else ((rd_R h x0 5 4).bind fun v3 => (rd_I h x0 5 6).bind fun v4 => (f_X2_at v3 v4 h).bind fun r5 => (f_X5_isDigit r5.1 r5.2).bind fun r6 => if r6.1 = 0 then (f_X5_advance_260 r6.2) else ((rd_I r6.2 x0 5 9).bind fun v7 => (rd_R r6.2 x0 5 4).bind fun v8 => (rd_I r6.2 x0 5 6).bind fun v9 => (f_X2_at v8 v9 r6.2).bind fun r10 => (wr_I r10.2 x0 5 9 (hp_min (((10 * v7) + r10.1) - 48) 10000)).bind fun h11 => (rd_I h11 x0 5 6).bind fun v12 => (wr_I h11 x0 5 6 (v12 + 1)).bind fun h13 => k105 x0 h13))
set_option maxRecDepth 20000 in
theorem w_X5_advance_105 (X : wx G p s m args meth c cX5_advance 2 RX5 none) (k105 : Nat → hp_H → Option (hp_H)) (hk105 : ∀ (x0 : Nat) (h : hp_H), k105 x0 h = some o → wq p l e (mt_R (5) 0 0) s m args below meth c (MQ below (mt_Q G none o) args s 0 0 (hp_A G)) G 2 0 0 105 [(0, .ref x0)] [] h) (x0 : Nat) (h : hp_H) (hf : f_X5_advance_105 k105 x0 h = some o) : wq p l e (mt_R (5) 0 0) s m args below meth c (MQ below (mt_Q G none o) args s 0 0 (hp_A G)) G 2 0 0 105 [(0, .ref x0)] [] h := by
  unfold f_X5_advance_105 at hf
  refine wk_aload_n X dX5_advance_105 0 rfl ?_
  refine wk_getI X dX5_advance_106 fo_X5_37 hf (fun v1 hf => ?_)
  refine wk_aload_n X dX5_advance_109 0 rfl ?_
  refine wk_getI X dX5_advance_110 fo_X5_34 hf (fun v2 hf => ?_)
  refine wk_icmp_ge X 260 dX5_advance_113 (by decide) hf (fun hf => ?_) (fun hf => ?_)
  · exact wq_sub [] rfl (w_X5_advance_260 X _ hf)
  · refine wk_aload_n X dX5_advance_116 0 rfl ?_
    refine wk_getR X dX5_advance_117 fo_X5_55 hf (fun v3 hf => ?_)
    refine wk_aload_n X dX5_advance_120 0 rfl ?_
    refine wk_getI X dX5_advance_121 fo_X5_37 hf (fun v4 hf => ?_)
    refine wk_callVi X [.int v4] [] dX5_advance_124 rfl vo_X5_75 rfl (by decide) (Nat.le_of_ble_eq_true rfl) hf (c_X2_at l _ _ _) (fun r5 hf => ?_)
    refine wk_callSi X [.int r5.1] [] dX5_advance_127 rfl vo_X5_225 rfl (by decide) (Nat.le_of_ble_eq_true rfl) hf (c_X5_isDigit l _ _) (fun r6 hf => ?_)
    refine wk_if_eq X 260 dX5_advance_130 (by decide) hf (fun hf => ?_) (fun hf => ?_)
    · exact wq_sub [] rfl (w_X5_advance_260 X _ hf)
    · refine wk_aload_n X dX5_advance_133 0 rfl ?_
      refine wk_bipush X dX5_advance_134 ib_10 ?_
      refine wk_aload_n X dX5_advance_136 0 rfl ?_
      refine wk_getI X dX5_advance_137 fo_X5_46 hf (fun v7 hf => ?_)
      refine wk_imul X dX5_advance_140 ?_
      refine wk_aload_n X dX5_advance_141 0 rfl ?_
      refine wk_getR X dX5_advance_142 fo_X5_55 hf (fun v8 hf => ?_)
      refine wk_aload_n X dX5_advance_145 0 rfl ?_
      refine wk_getI X dX5_advance_146 fo_X5_37 hf (fun v9 hf => ?_)
      refine wk_callVi X [.int v9] [.int (10 * v7), .ref x0] dX5_advance_149 rfl vo_X5_75 rfl (by decide) (Nat.le_of_ble_eq_true rfl) hf (c_X2_at l _ _ _) (fun r10 hf => ?_)
      refine wk_iadd X dX5_advance_152 ?_
      refine wk_bipush X dX5_advance_153 ib_48 ?_
      refine wk_isub X dX5_advance_155 ?_
      refine wk_sipush X dX5_advance_156 is_10000 ?_
      refine wk_min X dX5_advance_159 ml_X5_228 (by decide) (Nat.le_of_ble_eq_true rfl) ?_
      refine wk_putI X dX5_advance_162 fo_X5_46 hf (fun h11 hf => ?_)
      refine wk_aload_n X dX5_advance_165 0 rfl ?_
      refine wk_dup X dX5_advance_166 rfl ?_
      refine wk_getI X dX5_advance_167 fo_X5_37 hf (fun v12 hf => ?_)
      refine wk_iconst X dX5_advance_170 ic_1 ?_
      refine wk_iadd X dX5_advance_171 ?_
      refine wk_putI X dX5_advance_172 fo_X5_37 hf (fun h13 hf => ?_)
      refine wk_goto X 105 dX5_advance_175 (by decide) ?_
      exact wq_sub [0] rfl (hk105 _ _ hf)
def l_X5_advance_105 (x0 : Nat) (h : hp_H) : Option (hp_H) := lp (fun k (s : Nat × hp_H) => f_X5_advance_105  (fun a0 a1 => k (a0, a1)) s.1 s.2) 100000 (x0, h)
theorem wl_X5_advance_105 (X : wx G p s m args meth c cX5_advance 2 RX5 none) (x0 : Nat) (h : hp_H) (hf : l_X5_advance_105 x0 h = some o) : wq p l e (mt_R (5) 0 0) s m args below meth c (MQ below (mt_Q G none o) args s 0 0 (hp_A G)) G 2 0 0 105 [(0, .ref x0)] [] h :=
  lp_ind (P := fun (s_ : Nat × hp_H) => wq p l e (mt_R (5) 0 0) s m args below meth c (MQ below (mt_Q G none o) args s 0 0 (hp_A G)) G 2 0 0 105 [(0, .ref s_.1)] [] s_.2) (fun k s hk hf => w_X5_advance_105 X  (fun a0 a1 => k (a0, a1)) (fun a0 a1 hf => hk (a0, a1) hf) s.1 s.2 hf) 100000 (x0, h) hf
def f_X5_advance_49 (x0 : Nat) (h : hp_H) : Option (hp_H) := (rd_I h x0 5 6).bind fun v1 => (wr_I h x0 5 8 v1).bind fun h2 => (wr_I h2 x0 5 9 0).bind fun h3 => (rd_R h3 x0 5 4).bind fun v4 => (rd_I h3 x0 5 6).bind fun v5 => (f_X2_at v4 v5 h3).bind fun r6 => (rd_I r6.2 x0 5 6).bind fun v7 => (rd_I r6.2 x0 5 5).bind fun v8 => if v7 < v8 then ((f_X5_isDigit r6.1 r6.2).bind fun r9 => if r9.1 = 0 then ((f_X5_isLetter r6.1 r9.2).bind fun r10 => if r10.1 = 0 then ((f_J0_indexOf_0f7a4 1 (hp_i2c r6.1) r10.2).bind fun r11 => if r11.1 < 0 then (f_X5_advance_247 x0 x0 4 r11.2) else (f_X5_advance_247 x0 x0 3 r11.2)) else ((wr_I r10.2 x0 5 7 2).bind fun h12 => l_X5_advance_190 x0 h12)) else ((wr_I r9.2 x0 5 7 1).bind fun h13 => l_X5_advance_105 x0 h13)) else ((wr_I r6.2 x0 5 7 0).bind fun h14 => f_X5_advance_260 h14)
set_option maxRecDepth 20000 in
theorem w_X5_advance_49 (X : wx G p s m args meth c cX5_advance 2 RX5 none) (x0 : Nat) (h : hp_H) (hf : f_X5_advance_49 x0 h = some o) : wq p l e (mt_R (5) 0 0) s m args below meth c (MQ below (mt_Q G none o) args s 0 0 (hp_A G)) G 2 0 0 49 [(0, .ref x0)] [] h := by
  unfold f_X5_advance_49 at hf
  refine wk_aload_n X dX5_advance_49 0 rfl ?_
  refine wk_aload_n X dX5_advance_50 0 rfl ?_
  refine wk_getI X dX5_advance_51 fo_X5_37 hf (fun v1 hf => ?_)
  refine wk_putI X dX5_advance_54 fo_X5_43 hf (fun h2 hf => ?_)
  refine wk_aload_n X dX5_advance_57 0 rfl ?_
  refine wk_iconst X dX5_advance_58 ic_0 ?_
  refine wk_putI X dX5_advance_59 fo_X5_46 hf (fun h3 hf => ?_)
  refine wk_aload_n X dX5_advance_62 0 rfl ?_
  refine wk_getR X dX5_advance_63 fo_X5_55 hf (fun v4 hf => ?_)
  refine wk_aload_n X dX5_advance_66 0 rfl ?_
  refine wk_getI X dX5_advance_67 fo_X5_37 hf (fun v5 hf => ?_)
  refine wk_callVi X [.int v5] [] dX5_advance_70 rfl vo_X5_75 rfl (by decide) (Nat.le_of_ble_eq_true rfl) hf (c_X2_at l _ _ _) (fun r6 hf => ?_)
  refine wk_istore_n (lv' := [(1, .int r6.1), (0, .ref x0)]) X dX5_advance_73 (by decide) rfl ?_
  refine wk_aload_n X dX5_advance_74 1 rfl ?_
  refine wk_getI X dX5_advance_75 fo_X5_37 hf (fun v7 hf => ?_)
  refine wk_aload_n X dX5_advance_78 1 rfl ?_
  refine wk_getI X dX5_advance_79 fo_X5_34 hf (fun v8 hf => ?_)
  refine wk_icmp_lt X 93 dX5_advance_82 (by decide) hf (fun hf => ?_) (fun hf => ?_)
  · refine wk_iload_n X dX5_advance_93 0 rfl ?_
    refine wk_callSi X [.int r6.1] [] dX5_advance_94 rfl vo_X5_225 rfl (by decide) (Nat.le_of_ble_eq_true rfl) hf (c_X5_isDigit l _ _) (fun r9 hf => ?_)
    refine wk_if_eq X 178 dX5_advance_97 (by decide) hf (fun hf => ?_) (fun hf => ?_)
    · refine wk_iload_n X dX5_advance_178 0 rfl ?_
      refine wk_callSi X [.int r6.1] [] dX5_advance_179 rfl vo_X5_233 rfl (by decide) (Nat.le_of_ble_eq_true rfl) hf (c_X5_isLetter l _ _) (fun r10 hf => ?_)
      refine wk_if_eq X 231 dX5_advance_182 (by decide) hf (fun hf => ?_) (fun hf => ?_)
      · refine wk_aload_n X dX5_advance_231 1 rfl ?_
        refine wk_ldcS X 1 (by decide) rfl dX5_advance_232 ?_
        refine wk_iload_n X dX5_advance_234 0 rfl ?_
        refine wk_i2c X dX5_advance_235 ?_
        refine wk_callTi X [.int (hp_i2c r6.1)] [.ref x0] dX5_advance_236 rfl vo_X5_238 rfl (by decide) (Nat.le_of_ble_eq_true rfl) hf (c_J0_indexOf_0f7a4 l _ _ _) (fun r11 hf => ?_)
        refine wk_if_lt X 246 dX5_advance_239 (by decide) hf (fun hf => ?_) (fun hf => ?_)
        · refine wk_iconst X dX5_advance_246 ic_4 ?_
          exact wq_sub [1] rfl (w_X5_advance_247 X _ _ _ _ hf)
        · refine wk_iconst X dX5_advance_242 ic_3 ?_
          refine wk_goto X 247 dX5_advance_243 (by decide) ?_
          exact wq_sub [1] rfl (w_X5_advance_247 X _ _ _ _ hf)
      · refine wk_aload_n X dX5_advance_185 1 rfl ?_
        refine wk_iconst X dX5_advance_186 ic_2 ?_
        refine wk_putI X dX5_advance_187 fo_X5_40 hf (fun h12 hf => ?_)
        exact wq_sub [1] rfl (wl_X5_advance_190 X _ _ hf)
    · refine wk_aload_n X dX5_advance_100 1 rfl ?_
      refine wk_iconst X dX5_advance_101 ic_1 ?_
      refine wk_putI X dX5_advance_102 fo_X5_40 hf (fun h13 hf => ?_)
      exact wq_sub [1] rfl (wl_X5_advance_105 X _ _ hf)
  · refine wk_aload_n X dX5_advance_85 1 rfl ?_
    refine wk_iconst X dX5_advance_86 ic_0 ?_
    refine wk_putI X dX5_advance_87 fo_X5_40 hf (fun h14 hf => ?_)
    refine wk_goto X 260 dX5_advance_90 (by decide) ?_
    exact wq_sub [] rfl (w_X5_advance_260 X _ hf)
def f_X5_advance_8 (k8 : Nat → hp_H → Option (hp_H)) (x0 : Nat) (h : hp_H) : Option (hp_H) := (rd_I h x0 5 6).bind fun v1 => (rd_I h x0 5 5).bind fun v2 => if v2 ≤ v1 then (f_X5_advance_49 x0 h) else ((rd_R h x0 5 4).bind fun v3 => (rd_I h x0 5 6).bind fun v4 => (f_X2_at v3 v4 h).bind fun r5 => (f_X5_isBlank r5.1 r5.2).bind fun r6 => if r6.1 = 0 then (f_X5_advance_49 x0 r6.2) else ((rd_I r6.2 x0 5 6).bind fun v7 => (wr_I r6.2 x0 5 6 (v7 + 1)).bind fun h8 => k8 x0 h8))
set_option maxRecDepth 20000 in
theorem w_X5_advance_8 (X : wx G p s m args meth c cX5_advance 2 RX5 none) (k8 : Nat → hp_H → Option (hp_H)) (hk8 : ∀ (x0 : Nat) (h : hp_H), k8 x0 h = some o → wq p l e (mt_R (5) 0 0) s m args below meth c (MQ below (mt_Q G none o) args s 0 0 (hp_A G)) G 2 0 0 8 [(0, .ref x0)] [] h) (x0 : Nat) (h : hp_H) (hf : f_X5_advance_8 k8 x0 h = some o) : wq p l e (mt_R (5) 0 0) s m args below meth c (MQ below (mt_Q G none o) args s 0 0 (hp_A G)) G 2 0 0 8 [(0, .ref x0)] [] h := by
  unfold f_X5_advance_8 at hf
  refine wk_aload_n X dX5_advance_8 0 rfl ?_
  refine wk_getI X dX5_advance_9 fo_X5_37 hf (fun v1 hf => ?_)
  refine wk_aload_n X dX5_advance_12 0 rfl ?_
  refine wk_getI X dX5_advance_13 fo_X5_34 hf (fun v2 hf => ?_)
  refine wk_icmp_ge X 49 dX5_advance_16 (by decide) hf (fun hf => ?_) (fun hf => ?_)
  · exact wq_sub [0] rfl (w_X5_advance_49 X _ _ hf)
  · refine wk_aload_n X dX5_advance_19 0 rfl ?_
    refine wk_getR X dX5_advance_20 fo_X5_55 hf (fun v3 hf => ?_)
    refine wk_aload_n X dX5_advance_23 0 rfl ?_
    refine wk_getI X dX5_advance_24 fo_X5_37 hf (fun v4 hf => ?_)
    refine wk_callVi X [.int v4] [] dX5_advance_27 rfl vo_X5_75 rfl (by decide) (Nat.le_of_ble_eq_true rfl) hf (c_X2_at l _ _ _) (fun r5 hf => ?_)
    refine wk_callSi X [.int r5.1] [] dX5_advance_30 rfl vo_X5_222 rfl (by decide) (Nat.le_of_ble_eq_true rfl) hf (c_X5_isBlank l _ _) (fun r6 hf => ?_)
    refine wk_if_eq X 49 dX5_advance_33 (by decide) hf (fun hf => ?_) (fun hf => ?_)
    · exact wq_sub [0] rfl (w_X5_advance_49 X _ _ hf)
    · refine wk_aload_n X dX5_advance_36 0 rfl ?_
      refine wk_dup X dX5_advance_37 rfl ?_
      refine wk_getI X dX5_advance_38 fo_X5_37 hf (fun v7 hf => ?_)
      refine wk_iconst X dX5_advance_41 ic_1 ?_
      refine wk_iadd X dX5_advance_42 ?_
      refine wk_putI X dX5_advance_43 fo_X5_37 hf (fun h8 hf => ?_)
      refine wk_goto X 8 dX5_advance_46 (by decide) ?_
      exact wq_sub [0] rfl (hk8 _ _ hf)
def l_X5_advance_8 (x0 : Nat) (h : hp_H) : Option (hp_H) := lp (fun k (s : Nat × hp_H) => f_X5_advance_8  (fun a0 a1 => k (a0, a1)) s.1 s.2) 100000 (x0, h)
theorem wl_X5_advance_8 (X : wx G p s m args meth c cX5_advance 2 RX5 none) (x0 : Nat) (h : hp_H) (hf : l_X5_advance_8 x0 h = some o) : wq p l e (mt_R (5) 0 0) s m args below meth c (MQ below (mt_Q G none o) args s 0 0 (hp_A G)) G 2 0 0 8 [(0, .ref x0)] [] h :=
  lp_ind (P := fun (s_ : Nat × hp_H) => wq p l e (mt_R (5) 0 0) s m args below meth c (MQ below (mt_Q G none o) args s 0 0 (hp_A G)) G 2 0 0 8 [(0, .ref s_.1)] [] s_.2) (fun k s hk hf => w_X5_advance_8 X  (fun a0 a1 => k (a0, a1)) (fun a0 a1 hf => hk (a0, a1) hf) s.1 s.2 hf) 100000 (x0, h) hf
end Sf_X5_advance
def f_X5_advance (x0 : Nat) (h : hp_H) : Option (hp_H) := gd h x0 5 ((rd_I h x0 5 2).bind fun v1 => if v1 = 0 then (l_X5_advance_8 x0 h) else (some h))
set_option maxRecDepth 20000 in
theorem c_X5_advance (l : Launch) (x0 : Nat) (h : hp_H) (r : hp_H) (hf : f_X5_advance x0 h = some r) : cv l (5) yX5_advance cX5_advance 2 none 5 x0 [] h none r := by
  unfold f_X5_advance at hf
  refine cv_of (lv := [(0, .ref x0)]) hf (by decide +kernel) (Nat.le_of_ble_eq_true rfl) rfl (fun hf p e s m args below meth c G X => ?_)
  refine wk_aload_n X dX5_advance_0 0 rfl ?_
  refine wk_getI X dX5_advance_1 fo_X5_27 hf (fun v1 hf => ?_)
  refine wk_if_eq X 8 dX5_advance_4 (by decide) hf (fun hf => ?_) (fun hf => ?_)
  · exact wq_sub [0] rfl (wl_X5_advance_8 X _ _ hf)
  · exact wk_return X dX5_advance_7 hf
section Sf_X5_fail
variable {p : Program} {l : Launch} {e : Env} {s : State} {m : MethodId} {args : Array Value} {below : List Frame} {meth : Method} {c : Code} {G : hp_G} {o : hp_H}
def f_X5_fail_20  (h : hp_H) : Option (hp_H) := some h
set_option maxRecDepth 20000 in
theorem w_X5_fail_20 (X : wx G p s m args meth c cX5_fail 2 RX5 none)  (h : hp_H) (hf : f_X5_fail_20 h = some o) : wq p l e (mt_R (1) 0 0) s m args below meth c (MQ below (mt_Q G none o) args s 0 0 (hp_A G)) G 2 0 0 20 [] [] h := by
  unfold f_X5_fail_20 at hf
  exact wk_return X dX5_fail_20 hf
end Sf_X5_fail
def f_X5_fail (x0 : Nat) (x1 : Int32) (h : hp_H) : Option (hp_H) := gd h x0 5 ((rd_I h x0 5 2).bind fun v1 => if v1 = 0 then ((wr_I h x0 5 2 x1).bind fun h2 => (rd_I h2 x0 5 8).bind fun v3 => (wr_I h2 x0 5 3 v3).bind fun h4 => f_X5_fail_20 h4) else (f_X5_fail_20 h))
set_option maxRecDepth 20000 in
theorem c_X5_fail (l : Launch) (x0 : Nat) (x1 : Int32) (h : hp_H) (r : hp_H) (hf : f_X5_fail x0 x1 h = some r) : cv l (1) yX5_fail cX5_fail 2 none 5 x0 [.int x1] h none r := by
  unfold f_X5_fail at hf
  refine cv_of (lv := [(0, .ref x0), (1, .int x1)]) hf (by decide +kernel) (Nat.le_of_ble_eq_true rfl) rfl (fun hf p e s m args below meth c G X => ?_)
  refine wk_aload_n X dX5_fail_0 0 rfl ?_
  refine wk_getI X dX5_fail_1 fo_X5_27 hf (fun v1 hf => ?_)
  refine wk_if_ne X 20 dX5_fail_4 (by decide) hf (fun hf => ?_) (fun hf => ?_)
  · exact wq_sub [] rfl (w_X5_fail_20 X _ hf)
  · refine wk_aload_n X dX5_fail_7 0 rfl ?_
    refine wk_iload_n X dX5_fail_8 1 rfl ?_
    refine wk_putI X dX5_fail_9 fo_X5_27 hf (fun h2 hf => ?_)
    refine wk_aload_n X dX5_fail_12 0 rfl ?_
    refine wk_aload_n X dX5_fail_13 0 rfl ?_
    refine wk_getI X dX5_fail_14 fo_X5_43 hf (fun v3 hf => ?_)
    refine wk_putI X dX5_fail_17 fo_X5_31 hf (fun h4 hf => ?_)
    exact wq_sub [] rfl (w_X5_fail_20 X _ hf)
section Sf_X5_peek
variable {p : Program} {l : Launch} {e : Env} {s : State} {m : MethodId} {args : Array Value} {below : List Frame} {meth : Method} {c : Code} {G : hp_G} {o : Int32 × hp_H}
def f_X5_peek_44 (x0 : Nat) (h : hp_H) : Option (Int32 × hp_H) := (f_X5_fail x0 2 h).bind fun r1 => some (0, r1)
set_option maxRecDepth 20000 in
theorem w_X5_peek_44 (X : wx G p s m args meth c cX5_peek 3 RX5 (some .int)) (x0 : Nat) (h : hp_H) (hf : f_X5_peek_44 x0 h = some o) : wq p l e (mt_R (2) 0 0) s m args below meth c (MQ below (mt_Q G (some (.int o.1)) o.2) args s 0 0 (hp_A G)) G 3 0 0 44 [(0, .ref x0)] [] h := by
  unfold f_X5_peek_44 at hf
  refine wk_aload_n X dX5_peek_44 0 rfl ?_
  refine wk_iconst X dX5_peek_45 ic_2 ?_
  refine wk_callVv X [.int 2] [] dX5_peek_46 rfl vo_X5_129 rfl (by decide) (Nat.le_of_ble_eq_true rfl) hf (c_X5_fail l _ _ _) (fun r1 hf => ?_)
  refine wk_iconst X dX5_peek_49 ic_0 ?_
  exact wk_ireturn X dX5_peek_50 hf
end Sf_X5_peek
def f_X5_peek (x0 : Nat) (x1 : Int32) (x2 : Int32) (h : hp_H) : Option (Int32 × hp_H) := gd h x0 5 ((rd_I h x0 5 7).bind fun v1 => if v1 = 1 then ((rd_I h x0 5 6).bind fun v2 => (rd_I h x0 5 8).bind fun v3 => if 4 < (v2 - v3) then (f_X5_peek_44 x0 h) else ((rd_I h x0 5 9).bind fun v4 => if v4 < x1 then (f_X5_peek_44 x0 h) else ((rd_I h x0 5 9).bind fun v5 => if v5 ≤ x2 then ((rd_I h x0 5 9).bind fun v6 => some (v6, h)) else (f_X5_peek_44 x0 h)))) else ((f_X5_fail x0 1 h).bind fun r7 => some (0, r7)))
set_option maxRecDepth 20000 in
theorem c_X5_peek (l : Launch) (x0 : Nat) (x1 : Int32) (x2 : Int32) (h : hp_H) (r : Int32 × hp_H) (hf : f_X5_peek x0 x1 x2 h = some r) : cv l (2) yX5_peek cX5_peek 3 (some .int) 5 x0 [.int x1, .int x2] h (some (.int r.1)) r.2 := by
  unfold f_X5_peek at hf
  refine cv_of (lv := [(0, .ref x0), (1, .int x1), (2, .int x2)]) hf (by decide +kernel) (Nat.le_of_ble_eq_true rfl) rfl (fun hf p e s m args below meth c G X => ?_)
  refine wk_aload_n X dX5_peek_0 0 rfl ?_
  refine wk_getI X dX5_peek_1 fo_X5_40 hf (fun v1 hf => ?_)
  refine wk_iconst X dX5_peek_4 ic_1 ?_
  refine wk_icmp_eq X 15 dX5_peek_5 (by decide) hf (fun hf => ?_) (fun hf => ?_)
  · refine wk_aload_n X dX5_peek_15 0 rfl ?_
    refine wk_getI X dX5_peek_16 fo_X5_37 hf (fun v2 hf => ?_)
    refine wk_aload_n X dX5_peek_19 0 rfl ?_
    refine wk_getI X dX5_peek_20 fo_X5_43 hf (fun v3 hf => ?_)
    refine wk_isub X dX5_peek_23 ?_
    refine wk_iconst X dX5_peek_24 ic_4 ?_
    refine wk_icmp_gt X 44 dX5_peek_25 (by decide) hf (fun hf => ?_) (fun hf => ?_)
    · exact wq_sub [0] rfl (w_X5_peek_44 X _ _ hf)
    · refine wk_aload_n X dX5_peek_28 0 rfl ?_
      refine wk_getI X dX5_peek_29 fo_X5_46 hf (fun v4 hf => ?_)
      refine wk_iload_n X dX5_peek_32 1 rfl ?_
      refine wk_icmp_lt X 44 dX5_peek_33 (by decide) hf (fun hf => ?_) (fun hf => ?_)
      · exact wq_sub [0] rfl (w_X5_peek_44 X _ _ hf)
      · refine wk_aload_n X dX5_peek_36 0 rfl ?_
        refine wk_getI X dX5_peek_37 fo_X5_46 hf (fun v5 hf => ?_)
        refine wk_iload_n X dX5_peek_40 2 rfl ?_
        refine wk_icmp_le X 51 dX5_peek_41 (by decide) hf (fun hf => ?_) (fun hf => ?_)
        · refine wk_aload_n X dX5_peek_51 0 rfl ?_
          refine wk_getI X dX5_peek_52 fo_X5_46 hf (fun v6 hf => ?_)
          exact wk_ireturn X dX5_peek_55 hf
        · exact wq_sub [0] rfl (w_X5_peek_44 X _ _ hf)
  · refine wk_aload_n X dX5_peek_8 0 rfl ?_
    refine wk_iconst X dX5_peek_9 ic_1 ?_
    refine wk_callVv X [.int 1] [] dX5_peek_10 rfl vo_X5_129 rfl (by decide) (Nat.le_of_ble_eq_true rfl) hf (c_X5_fail l _ _ _) (fun r7 hf => ?_)
    refine wk_iconst X dX5_peek_13 ic_0 ?_
    exact wk_ireturn X dX5_peek_14 hf
section Sf_X5_take
variable {p : Program} {l : Launch} {e : Env} {s : State} {m : MethodId} {args : Array Value} {below : List Frame} {meth : Method} {c : Code} {G : hp_G} {o : Int32 × hp_H}
end Sf_X5_take
def f_X5_take (x0 : Nat) (x1 : Int32) (x2 : Int32) (h : hp_H) : Option (Int32 × hp_H) := gd h x0 5 ((f_X5_peek x0 x1 x2 h).bind fun r1 => (f_X5_advance x0 r1.2).bind fun r2 => some (r1.1, r2))
set_option maxRecDepth 20000 in
theorem c_X5_take (l : Launch) (x0 : Nat) (x1 : Int32) (x2 : Int32) (h : hp_H) (r : Int32 × hp_H) (hf : f_X5_take x0 x1 x2 h = some r) : cv l (6) yX5_take cX5_take 4 (some .int) 5 x0 [.int x1, .int x2] h (some (.int r.1)) r.2 := by
  unfold f_X5_take at hf
  refine cv_of (lv := [(0, .ref x0), (1, .int x1), (2, .int x2)]) hf (by decide +kernel) (Nat.le_of_ble_eq_true rfl) rfl (fun hf p e s m args below meth c G X => ?_)
  refine wk_aload_n X dX5_take_0 0 rfl ?_
  refine wk_iload_n X dX5_take_1 1 rfl ?_
  refine wk_iload_n X dX5_take_2 2 rfl ?_
  refine wk_callVi X [.int x1, .int x2] [] dX5_take_3 rfl vo_X5_150 rfl (by decide) (Nat.le_of_ble_eq_true rfl) hf (c_X5_peek l _ _ _ _) (fun r1 hf => ?_)
  refine wk_istore_n (lv' := [(3, .int r1.1), (0, .ref x0), (1, .int x1), (2, .int x2)]) X dX5_take_6 (by decide) rfl ?_
  refine wk_aload_n X dX5_take_7 1 rfl ?_
  refine wk_callVv X [] [] dX5_take_8 rfl vo_X5_63 rfl (by decide) (Nat.le_of_ble_eq_true rfl) hf (c_X5_advance l _ _) (fun r2 hf => ?_)
  refine wk_iload_n X dX5_take_11 0 rfl ?_
  exact wk_ireturn X dX5_take_12 hf
section Sf_X5_readMan
variable {p : Program} {l : Launch} {e : Env} {s : State} {m : MethodId} {args : Array Value} {below : List Frame} {meth : Method} {c : Code} {G : hp_G} {o : hp_H}
end Sf_X5_readMan
def f_X5_readMan (x0 : Nat) (h : hp_H) : Option (hp_H) := gd h x0 5 ((rd_R h x0 5 0).bind fun v1 => (rd_I h v1 1 1).bind fun v2 => if v2 < 8 then ((f_X5_advance x0 h).bind fun r3 => (rd_R r3 x0 5 1).bind fun v4 => (rd_R r3 v4 3 2).bind fun v5 => (rd_R r3 x0 5 0).bind fun v6 => (rd_I r3 v6 1 1).bind fun v7 => (f_X5_take x0 0 4095 r3).bind fun r8 => (f_X2_set v5 v7 r8.1 r8.2).bind fun r9 => (rd_R r9 x0 5 1).bind fun v10 => (rd_R r9 v10 3 3).bind fun v11 => (rd_R r9 x0 5 0).bind fun v12 => (rd_I r9 v12 1 1).bind fun v13 => (f_X5_take x0 1 9 r9).bind fun r14 => (f_X2_set v11 v13 r14.1 r14.2).bind fun r15 => (rd_R r15 x0 5 0).bind fun v16 => (rd_I r15 v16 1 1).bind fun v17 => (wr_I r15 v16 1 1 (v17 + 1)).bind fun h18 => some h18) else ((f_X5_fail x0 2 h).bind fun r19 => some r19))
set_option maxRecDepth 20000 in
theorem c_X5_readMan (l : Launch) (x0 : Nat) (h : hp_H) (r : hp_H) (hf : f_X5_readMan x0 h = some r) : cv l (7) yX5_readMan cX5_readMan 1 none 5 x0 [] h none r := by
  unfold f_X5_readMan at hf
  refine cv_of (lv := [(0, .ref x0)]) hf (by decide +kernel) (Nat.le_of_ble_eq_true rfl) rfl (fun hf p e s m args below meth c G X => ?_)
  refine wk_aload_n X dX5_readMan_0 0 rfl ?_
  refine wk_getR X dX5_readMan_1 fo_X5_12 hf (fun v1 hf => ?_)
  refine wk_getI X dX5_readMan_4 fo_X5_69 hf (fun v2 hf => ?_)
  refine wk_bipush X dX5_readMan_7 ib_8 ?_
  refine wk_icmp_lt X 18 dX5_readMan_9 (by decide) hf (fun hf => ?_) (fun hf => ?_)
  · refine wk_aload_n X dX5_readMan_18 0 rfl ?_
    refine wk_callVv X [] [] dX5_readMan_19 rfl vo_X5_63 rfl (by decide) (Nat.le_of_ble_eq_true rfl) hf (c_X5_advance l _ _) (fun r3 hf => ?_)
    refine wk_aload_n X dX5_readMan_22 0 rfl ?_
    refine wk_getR X dX5_readMan_23 fo_X5_23 hf (fun v4 hf => ?_)
    refine wk_getR X dX5_readMan_26 fo_X5_72 hf (fun v5 hf => ?_)
    refine wk_aload_n X dX5_readMan_29 0 rfl ?_
    refine wk_getR X dX5_readMan_30 fo_X5_12 hf (fun v6 hf => ?_)
    refine wk_getI X dX5_readMan_33 fo_X5_69 hf (fun v7 hf => ?_)
    refine wk_aload_n X dX5_readMan_36 0 rfl ?_
    refine wk_iconst X dX5_readMan_37 ic_0 ?_
    refine wk_sipush X dX5_readMan_38 is_4095 ?_
    refine wk_callVi X [.int 0, .int 4095] [.int v7, .ref v5] dX5_readMan_41 rfl vo_X5_109 rfl (by decide) (Nat.le_of_ble_eq_true rfl) hf (c_X5_take l _ _ _ _) (fun r8 hf => ?_)
    refine wk_callVv X [.int v7, .int r8.1] [] dX5_readMan_44 rfl vo_X5_85 rfl (by decide) (Nat.le_of_ble_eq_true rfl) hf (c_X2_set l _ _ _ _) (fun r9 hf => ?_)
    refine wk_aload_n X dX5_readMan_47 0 rfl ?_
    refine wk_getR X dX5_readMan_48 fo_X5_23 hf (fun v10 hf => ?_)
    refine wk_getR X dX5_readMan_51 fo_X5_135 hf (fun v11 hf => ?_)
    refine wk_aload_n X dX5_readMan_54 0 rfl ?_
    refine wk_getR X dX5_readMan_55 fo_X5_12 hf (fun v12 hf => ?_)
    refine wk_getI X dX5_readMan_58 fo_X5_69 hf (fun v13 hf => ?_)
    refine wk_aload_n X dX5_readMan_61 0 rfl ?_
    refine wk_iconst X dX5_readMan_62 ic_1 ?_
    refine wk_bipush X dX5_readMan_63 ib_9 ?_
    refine wk_callVi X [.int 1, .int 9] [.int v13, .ref v11] dX5_readMan_65 rfl vo_X5_109 rfl (by decide) (Nat.le_of_ble_eq_true rfl) hf (c_X5_take l _ _ _ _) (fun r14 hf => ?_)
    refine wk_callVv X [.int v13, .int r14.1] [] dX5_readMan_68 rfl vo_X5_85 rfl (by decide) (Nat.le_of_ble_eq_true rfl) hf (c_X2_set l _ _ _ _) (fun r15 hf => ?_)
    refine wk_aload_n X dX5_readMan_71 0 rfl ?_
    refine wk_getR X dX5_readMan_72 fo_X5_12 hf (fun v16 hf => ?_)
    refine wk_dup X dX5_readMan_75 rfl ?_
    refine wk_getI X dX5_readMan_76 fo_X5_69 hf (fun v17 hf => ?_)
    refine wk_iconst X dX5_readMan_79 ic_1 ?_
    refine wk_iadd X dX5_readMan_80 ?_
    refine wk_putI X dX5_readMan_81 fo_X5_69 hf (fun h18 hf => ?_)
    exact wk_return X dX5_readMan_84 hf
  · refine wk_aload_n X dX5_readMan_12 0 rfl ?_
    refine wk_iconst X dX5_readMan_13 ic_2 ?_
    refine wk_callVv X [.int 2] [] dX5_readMan_14 rfl vo_X5_129 rfl (by decide) (Nat.le_of_ble_eq_true rfl) hf (c_X5_fail l _ _ _) (fun r19 hf => ?_)
    exact wk_return X dX5_readMan_17 hf
section Sf_X5_isNumberNext
variable {p : Program} {l : Launch} {e : Env} {s : State} {m : MethodId} {args : Array Value} {below : List Frame} {meth : Method} {c : Code} {G : hp_G} {o : Int32 × hp_H}
def f_X5_isNumberNext_24 (t0 : Int32) (h : hp_H) : Option (Int32 × hp_H) := if t0 = 0 ∨ t0 = 1 then some (t0, h) else none
set_option maxRecDepth 20000 in
theorem w_X5_isNumberNext_24 (X : wx G p s m args meth c cX5_isNumberNext 2 RX5 (some .boolean)) (t0 : Int32) (h : hp_H) (hf : f_X5_isNumberNext_24 t0 h = some o) : wq p l e (mt_R (1) 0 0) s m args below meth c (MQ below (mt_Q G (some (.int o.1)) o.2) args s 0 0 (hp_A G)) G 2 0 0 24 [] [.int t0] h := by
  unfold f_X5_isNumberNext_24 at hf
  exact wk_zreturn X dX5_isNumberNext_24 hf
def f_X5_isNumberNext_23  (h : hp_H) : Option (Int32 × hp_H) := f_X5_isNumberNext_24 0 h
set_option maxRecDepth 20000 in
theorem w_X5_isNumberNext_23 (X : wx G p s m args meth c cX5_isNumberNext 2 RX5 (some .boolean))  (h : hp_H) (hf : f_X5_isNumberNext_23 h = some o) : wq p l e (mt_R (1) 0 0) s m args below meth c (MQ below (mt_Q G (some (.int o.1)) o.2) args s 0 0 (hp_A G)) G 2 0 0 23 [] [] h := by
  unfold f_X5_isNumberNext_23 at hf
  refine wk_iconst X dX5_isNumberNext_23 ic_0 ?_
  exact wq_sub [] rfl (w_X5_isNumberNext_24 X _ _ hf)
def f_X5_isNumberNext_19  (h : hp_H) : Option (Int32 × hp_H) := f_X5_isNumberNext_24 1 h
set_option maxRecDepth 20000 in
theorem w_X5_isNumberNext_19 (X : wx G p s m args meth c cX5_isNumberNext 2 RX5 (some .boolean))  (h : hp_H) (hf : f_X5_isNumberNext_19 h = some o) : wq p l e (mt_R (1) 0 0) s m args below meth c (MQ below (mt_Q G (some (.int o.1)) o.2) args s 0 0 (hp_A G)) G 2 0 0 19 [] [] h := by
  unfold f_X5_isNumberNext_19 at hf
  refine wk_iconst X dX5_isNumberNext_19 ic_1 ?_
  refine wk_goto X 24 dX5_isNumberNext_20 (by decide) ?_
  exact wq_sub [] rfl (w_X5_isNumberNext_24 X _ _ hf)
end Sf_X5_isNumberNext
def f_X5_isNumberNext (x0 : Nat) (x1 : Int32) (h : hp_H) : Option (Int32 × hp_H) := gd h x0 5 ((rd_I h x0 5 2).bind fun v1 => if v1 = 0 then (if x1 = 0 then (f_X5_isNumberNext_19 h) else ((rd_I h x0 5 7).bind fun v2 => if v2 = 1 then (f_X5_isNumberNext_19 h) else (f_X5_isNumberNext_23 h))) else (f_X5_isNumberNext_23 h))
set_option maxRecDepth 20000 in
theorem c_X5_isNumberNext (l : Launch) (x0 : Nat) (x1 : Int32) (h : hp_H) (r : Int32 × hp_H) (hf : f_X5_isNumberNext x0 x1 h = some r) : cv l (1) yX5_isNumberNext cX5_isNumberNext 2 (some .boolean) 5 x0 [.int x1] h (some (.int r.1)) r.2 := by
  unfold f_X5_isNumberNext at hf
  refine cv_of (lv := [(0, .ref x0), (1, .int x1)]) hf (by decide +kernel) (Nat.le_of_ble_eq_true rfl) rfl (fun hf p e s m args below meth c G X => ?_)
  refine wk_aload_n X dX5_isNumberNext_0 0 rfl ?_
  refine wk_getI X dX5_isNumberNext_1 fo_X5_27 hf (fun v1 hf => ?_)
  refine wk_if_ne X 23 dX5_isNumberNext_4 (by decide) hf (fun hf => ?_) (fun hf => ?_)
  · exact wq_sub [] rfl (w_X5_isNumberNext_23 X _ hf)
  · refine wk_iload_n X dX5_isNumberNext_7 1 rfl ?_
    refine wk_if_eq X 19 dX5_isNumberNext_8 (by decide) hf (fun hf => ?_) (fun hf => ?_)
    · exact wq_sub [] rfl (w_X5_isNumberNext_19 X _ hf)
    · refine wk_aload_n X dX5_isNumberNext_11 0 rfl ?_
      refine wk_getI X dX5_isNumberNext_12 fo_X5_40 hf (fun v2 hf => ?_)
      refine wk_iconst X dX5_isNumberNext_15 ic_1 ?_
      refine wk_icmp_ne X 23 dX5_isNumberNext_16 (by decide) hf (fun hf => ?_) (fun hf => ?_)
      · exact wq_sub [] rfl (w_X5_isNumberNext_23 X _ hf)
      · exact wq_sub [] rfl (w_X5_isNumberNext_19 X _ hf)
section Sf_X5_takeMan
variable {p : Program} {l : Launch} {e : Env} {s : State} {m : MethodId} {args : Array Value} {below : List Frame} {meth : Method} {c : Code} {G : hp_G} {o : Int32 × hp_H}
def f_X5_takeMan_54 (x0 : Nat) (x2 : Int32) (h : hp_H) : Option (Int32 × hp_H) := (rd_I h x0 5 2).bind fun v1 => if v1 = 0 then ((rd_I h x0 5 11).bind fun v2 => (wr_I h x0 5 11 (v2 ||| (1 <<< (x2 &&& 31)))).bind fun h3 => (f_X5_advance x0 h3).bind fun r4 => some (1 <<< (x2 &&& 31), r4)) else (some (0, h))
set_option maxRecDepth 20000 in
theorem w_X5_takeMan_54 (X : wx G p s m args meth c cX5_takeMan 3 RX5 (some .int)) (x0 : Nat) (x2 : Int32) (h : hp_H) (hf : f_X5_takeMan_54 x0 x2 h = some o) : wq p l e (mt_R (6) 0 0) s m args below meth c (MQ below (mt_Q G (some (.int o.1)) o.2) args s 0 0 (hp_A G)) G 3 0 0 54 [(0, .ref x0), (2, .int x2)] [] h := by
  unfold f_X5_takeMan_54 at hf
  refine wk_aload_n X dX5_takeMan_54 0 rfl ?_
  refine wk_getI X dX5_takeMan_55 fo_X5_27 hf (fun v1 hf => ?_)
  refine wk_if_eq X 63 dX5_takeMan_58 (by decide) hf (fun hf => ?_) (fun hf => ?_)
  · refine wk_aload_n X dX5_takeMan_63 0 rfl ?_
    refine wk_dup X dX5_takeMan_64 rfl ?_
    refine wk_getI X dX5_takeMan_65 fo_X5_52 hf (fun v2 hf => ?_)
    refine wk_iconst X dX5_takeMan_68 ic_1 ?_
    refine wk_iload_n X dX5_takeMan_69 1 rfl ?_
    refine wk_ishl X dX5_takeMan_70 ?_
    refine wk_ior X dX5_takeMan_71 ?_
    refine wk_putI X dX5_takeMan_72 fo_X5_52 hf (fun h3 hf => ?_)
    refine wk_aload_n X dX5_takeMan_75 0 rfl ?_
    refine wk_callVv X [] [] dX5_takeMan_76 rfl vo_X5_63 rfl (by decide) (Nat.le_of_ble_eq_true rfl) hf (c_X5_advance l _ _) (fun r4 hf => ?_)
    refine wk_iconst X dX5_takeMan_79 ic_1 ?_
    refine wk_iload_n X dX5_takeMan_80 1 rfl ?_
    refine wk_ishl X dX5_takeMan_81 ?_
    exact wk_ireturn X dX5_takeMan_82 hf
  · refine wk_iconst X dX5_takeMan_61 ic_0 ?_
    exact wk_ireturn X dX5_takeMan_62 hf
def f_X5_takeMan_10 (x0 : Nat) (h : hp_H) : Option (Int32 × hp_H) := (f_X5_peek x0 0 9999 h).bind fun r1 => (rd_R r1.2 x0 5 0).bind fun v2 => (rd_I r1.2 v2 1 1).bind fun v3 => if r1.1 < v3 then ((rd_I r1.2 x0 5 11).bind fun v4 => (f_X10_holds v4 r1.1 r1.2).bind fun r5 => if r5.1 = 0 then (f_X5_takeMan_54 x0 r1.1 r5.2) else ((f_X5_fail x0 4 r5.2).bind fun r6 => f_X5_takeMan_54 x0 r1.1 r6)) else ((f_X5_fail x0 3 r1.2).bind fun r7 => f_X5_takeMan_54 x0 r1.1 r7)
set_option maxRecDepth 20000 in
theorem w_X5_takeMan_10 (X : wx G p s m args meth c cX5_takeMan 3 RX5 (some .int)) (x0 : Nat) (h : hp_H) (hf : f_X5_takeMan_10 x0 h = some o) : wq p l e (mt_R (6) 0 0) s m args below meth c (MQ below (mt_Q G (some (.int o.1)) o.2) args s 0 0 (hp_A G)) G 3 0 0 10 [(0, .ref x0)] [] h := by
  unfold f_X5_takeMan_10 at hf
  refine wk_aload_n X dX5_takeMan_10 0 rfl ?_
  refine wk_iconst X dX5_takeMan_11 ic_0 ?_
  refine wk_sipush X dX5_takeMan_12 is_9999 ?_
  refine wk_callVi X [.int 0, .int 9999] [] dX5_takeMan_15 rfl vo_X5_150 rfl (by decide) (Nat.le_of_ble_eq_true rfl) hf (c_X5_peek l _ _ _ _) (fun r1 hf => ?_)
  refine wk_istore_n (lv' := [(2, .int r1.1), (0, .ref x0)]) X dX5_takeMan_18 (by decide) rfl ?_
  refine wk_iload_n X dX5_takeMan_19 0 rfl ?_
  refine wk_aload_n X dX5_takeMan_20 1 rfl ?_
  refine wk_getR X dX5_takeMan_21 fo_X5_12 hf (fun v2 hf => ?_)
  refine wk_getI X dX5_takeMan_24 fo_X5_69 hf (fun v3 hf => ?_)
  refine wk_icmp_lt X 38 dX5_takeMan_27 (by decide) hf (fun hf => ?_) (fun hf => ?_)
  · refine wk_aload_n X dX5_takeMan_38 1 rfl ?_
    refine wk_getI X dX5_takeMan_39 fo_X5_52 hf (fun v4 hf => ?_)
    refine wk_iload_n X dX5_takeMan_42 0 rfl ?_
    refine wk_callSNi X [.int v4, .int r1.1] [] dX5_takeMan_43 rfl vo_X5_153 rfl (by decide) (Nat.le_of_ble_eq_true rfl) hf (c_X10_holds l _ _ _) (fun r5 hf => ?_)
    refine wk_if_eq X 54 dX5_takeMan_46 (by decide) hf (fun hf => ?_) (fun hf => ?_)
    · exact wq_sub [1, 0] rfl (w_X5_takeMan_54 X _ _ _ hf)
    · refine wk_aload_n X dX5_takeMan_49 1 rfl ?_
      refine wk_iconst X dX5_takeMan_50 ic_4 ?_
      refine wk_callVv X [.int 4] [] dX5_takeMan_51 rfl vo_X5_129 rfl (by decide) (Nat.le_of_ble_eq_true rfl) hf (c_X5_fail l _ _ _) (fun r6 hf => ?_)
      exact wq_sub [1, 0] rfl (w_X5_takeMan_54 X _ _ _ hf)
  · refine wk_aload_n X dX5_takeMan_30 1 rfl ?_
    refine wk_iconst X dX5_takeMan_31 ic_3 ?_
    refine wk_callVv X [.int 3] [] dX5_takeMan_32 rfl vo_X5_129 rfl (by decide) (Nat.le_of_ble_eq_true rfl) hf (c_X5_fail l _ _ _) (fun r7 hf => ?_)
    refine wk_goto X 54 dX5_takeMan_35 (by decide) ?_
    exact wq_sub [1, 0] rfl (w_X5_takeMan_54 X _ _ _ hf)
end Sf_X5_takeMan
def f_X5_takeMan (x0 : Nat) (x1 : Int32) (h : hp_H) : Option (Int32 × hp_H) := gd h x0 5 (if x1 < 4 then (f_X5_takeMan_10 x0 h) else ((f_X5_fail x0 2 h).bind fun r1 => f_X5_takeMan_10 x0 r1))
set_option maxRecDepth 20000 in
theorem c_X5_takeMan (l : Launch) (x0 : Nat) (x1 : Int32) (h : hp_H) (r : Int32 × hp_H) (hf : f_X5_takeMan x0 x1 h = some r) : cv l (6) yX5_takeMan cX5_takeMan 3 (some .int) 5 x0 [.int x1] h (some (.int r.1)) r.2 := by
  unfold f_X5_takeMan at hf
  refine cv_of (lv := [(0, .ref x0), (1, .int x1)]) hf (by decide +kernel) (Nat.le_of_ble_eq_true rfl) rfl (fun hf p e s m args below meth c G X => ?_)
  refine wk_iload_n X dX5_takeMan_0 1 rfl ?_
  refine wk_iconst X dX5_takeMan_1 ic_4 ?_
  refine wk_icmp_lt X 10 dX5_takeMan_2 (by decide) hf (fun hf => ?_) (fun hf => ?_)
  · exact wq_sub [0] rfl (w_X5_takeMan_10 X _ _ hf)
  · refine wk_aload_n X dX5_takeMan_5 0 rfl ?_
    refine wk_iconst X dX5_takeMan_6 ic_2 ?_
    refine wk_callVv X [.int 2] [] dX5_takeMan_7 rfl vo_X5_129 rfl (by decide) (Nat.le_of_ble_eq_true rfl) hf (c_X5_fail l _ _ _) (fun r1 hf => ?_)
    exact wq_sub [0] rfl (w_X5_takeMan_10 X _ _ hf)
section Sf_X5_readRow
variable {p : Program} {l : Launch} {e : Env} {s : State} {m : MethodId} {args : Array Value} {below : List Frame} {meth : Method} {c : Code} {G : hp_G} {o : hp_H}
def f_X5_readRow_53 (x0 : Nat) (x1 : Int32) (h : hp_H) : Option (hp_H) := (rd_R h x0 5 1).bind fun v1 => (rd_R h v1 3 5).bind fun v2 => (rd_R h x0 5 0).bind fun v3 => (rd_I h v3 1 2).bind fun v4 => (f_X2_set v2 v4 x1 h).bind fun r5 => (rd_R r5 x0 5 0).bind fun v6 => (rd_I r5 v6 1 2).bind fun v7 => (wr_I r5 v6 1 2 (v7 + 1)).bind fun h8 => some h8
set_option maxRecDepth 20000 in
theorem w_X5_readRow_53 (X : wx G p s m args meth c cX5_readRow 3 RX5 none) (x0 : Nat) (x1 : Int32) (h : hp_H) (hf : f_X5_readRow_53 x0 x1 h = some o) : wq p l e (mt_R (7) 0 0) s m args below meth c (MQ below (mt_Q G none o) args s 0 0 (hp_A G)) G 3 0 0 53 [(0, .ref x0), (1, .int x1)] [] h := by
  unfold f_X5_readRow_53 at hf
  refine wk_aload_n X dX5_readRow_53 0 rfl ?_
  refine wk_getR X dX5_readRow_54 fo_X5_23 hf (fun v1 hf => ?_)
  refine wk_getR X dX5_readRow_57 fo_X5_148 hf (fun v2 hf => ?_)
  refine wk_aload_n X dX5_readRow_60 0 rfl ?_
  refine wk_getR X dX5_readRow_61 fo_X5_12 hf (fun v3 hf => ?_)
  refine wk_getI X dX5_readRow_64 fo_X5_138 hf (fun v4 hf => ?_)
  refine wk_iload_n X dX5_readRow_67 1 rfl ?_
  refine wk_callVv X [.int v4, .int x1] [] dX5_readRow_68 rfl vo_X5_85 rfl (by decide) (Nat.le_of_ble_eq_true rfl) hf (c_X2_set l _ _ _ _) (fun r5 hf => ?_)
  refine wk_aload_n X dX5_readRow_71 0 rfl ?_
  refine wk_getR X dX5_readRow_72 fo_X5_12 hf (fun v6 hf => ?_)
  refine wk_dup X dX5_readRow_75 rfl ?_
  refine wk_getI X dX5_readRow_76 fo_X5_138 hf (fun v7 hf => ?_)
  refine wk_iconst X dX5_readRow_79 ic_1 ?_
  refine wk_iadd X dX5_readRow_80 ?_
  refine wk_putI X dX5_readRow_81 fo_X5_138 hf (fun h8 hf => ?_)
  exact wk_return X dX5_readRow_84 hf
def f_X5_readRow_26 (k26 : Nat → Int32 → Int32 → hp_H → Option (hp_H)) (x0 : Nat) (x1 : Int32) (x2 : Int32) (h : hp_H) : Option (hp_H) := if 4 < x2 then (f_X5_readRow_53 x0 x1 h) else ((f_X5_isNumberNext x0 x2 h).bind fun r1 => if r1.1 = 0 then (f_X5_readRow_53 x0 x1 r1.2) else ((f_X5_takeMan x0 x2 r1.2).bind fun r2 => k26 x0 (x1 ||| r2.1) (x2 + 1) r2.2))
set_option maxRecDepth 20000 in
theorem w_X5_readRow_26 (X : wx G p s m args meth c cX5_readRow 3 RX5 none) (k26 : Nat → Int32 → Int32 → hp_H → Option (hp_H)) (hk26 : ∀ (x0 : Nat) (x1 : Int32) (x2 : Int32) (h : hp_H), k26 x0 x1 x2 h = some o → wq p l e (mt_R (7) 0 0) s m args below meth c (MQ below (mt_Q G none o) args s 0 0 (hp_A G)) G 3 0 0 26 [(0, .ref x0), (1, .int x1), (2, .int x2)] [] h) (x0 : Nat) (x1 : Int32) (x2 : Int32) (h : hp_H) (hf : f_X5_readRow_26 k26 x0 x1 x2 h = some o) : wq p l e (mt_R (7) 0 0) s m args below meth c (MQ below (mt_Q G none o) args s 0 0 (hp_A G)) G 3 0 0 26 [(0, .ref x0), (1, .int x1), (2, .int x2)] [] h := by
  unfold f_X5_readRow_26 at hf
  refine wk_iload_n X dX5_readRow_26 2 rfl ?_
  refine wk_iconst X dX5_readRow_27 ic_4 ?_
  refine wk_icmp_gt X 53 dX5_readRow_28 (by decide) hf (fun hf => ?_) (fun hf => ?_)
  · exact wq_sub [0, 1] rfl (w_X5_readRow_53 X _ _ _ hf)
  · refine wk_aload_n X dX5_readRow_31 0 rfl ?_
    refine wk_iload_n X dX5_readRow_32 2 rfl ?_
    refine wk_callVi X [.int x2] [] dX5_readRow_33 rfl vo_X5_141 rfl (by decide) (Nat.le_of_ble_eq_true rfl) hf (c_X5_isNumberNext l _ _ _) (fun r1 hf => ?_)
    refine wk_if_eq X 53 dX5_readRow_36 (by decide) hf (fun hf => ?_) (fun hf => ?_)
    · exact wq_sub [0, 1] rfl (w_X5_readRow_53 X _ _ _ hf)
    · refine wk_iload_n X dX5_readRow_39 1 rfl ?_
      refine wk_aload_n X dX5_readRow_40 0 rfl ?_
      refine wk_iload_n X dX5_readRow_41 2 rfl ?_
      refine wk_callVi X [.int x2] [.int x1] dX5_readRow_42 rfl vo_X5_145 rfl (by decide) (Nat.le_of_ble_eq_true rfl) hf (c_X5_takeMan l _ _ _) (fun r2 hf => ?_)
      refine wk_ior X dX5_readRow_45 ?_
      refine wk_istore_n (lv' := [(1, .int (x1 ||| r2.1)), (0, .ref x0), (2, .int x2)]) X dX5_readRow_46 (by decide) rfl ?_
      refine wk_iinc (lv' := [(2, .int (x2 + 1)), (1, .int (x1 ||| r2.1)), (0, .ref x0)]) X dX5_readRow_47 2 rfl ic_1 (by decide) rfl ?_
      refine wk_goto X 26 dX5_readRow_50 (by decide) ?_
      exact wq_sub [2, 1, 0] rfl (hk26 _ _ _ _ hf)
def l_X5_readRow_26 (x0 : Nat) (x1 : Int32) (x2 : Int32) (h : hp_H) : Option (hp_H) := lp (fun k (s : Nat × Int32 × Int32 × hp_H) => f_X5_readRow_26  (fun a0 a1 a2 a3 => k (a0, a1, a2, a3)) s.1 s.2.1 s.2.2.1 s.2.2.2) 100000 (x0, x1, x2, h)
theorem wl_X5_readRow_26 (X : wx G p s m args meth c cX5_readRow 3 RX5 none) (x0 : Nat) (x1 : Int32) (x2 : Int32) (h : hp_H) (hf : l_X5_readRow_26 x0 x1 x2 h = some o) : wq p l e (mt_R (7) 0 0) s m args below meth c (MQ below (mt_Q G none o) args s 0 0 (hp_A G)) G 3 0 0 26 [(0, .ref x0), (1, .int x1), (2, .int x2)] [] h :=
  lp_ind (P := fun (s_ : Nat × Int32 × Int32 × hp_H) => wq p l e (mt_R (7) 0 0) s m args below meth c (MQ below (mt_Q G none o) args s 0 0 (hp_A G)) G 3 0 0 26 [(0, .ref s_.1), (1, .int s_.2.1), (2, .int s_.2.2.1)] [] s_.2.2.2) (fun k s hk hf => w_X5_readRow_26 X  (fun a0 a1 a2 a3 => k (a0, a1, a2, a3)) (fun a0 a1 a2 a3 hf => hk (a0, a1, a2, a3) hf) s.1 s.2.1 s.2.2.1 s.2.2.2 hf) 100000 (x0, x1, x2, h) hf
end Sf_X5_readRow
def f_X5_readRow (x0 : Nat) (h : hp_H) : Option (hp_H) := gd h x0 5 ((rd_R h x0 5 0).bind fun v1 => (rd_I h v1 1 2).bind fun v2 => if v2 < 8 then ((f_X5_advance x0 h).bind fun r3 => l_X5_readRow_26 x0 0 0 r3) else ((f_X5_fail x0 2 h).bind fun r4 => some r4))
set_option maxRecDepth 20000 in
theorem c_X5_readRow (l : Launch) (x0 : Nat) (h : hp_H) (r : hp_H) (hf : f_X5_readRow x0 h = some r) : cv l (7) yX5_readRow cX5_readRow 3 none 5 x0 [] h none r := by
  unfold f_X5_readRow at hf
  refine cv_of (lv := [(0, .ref x0)]) hf (by decide +kernel) (Nat.le_of_ble_eq_true rfl) rfl (fun hf p e s m args below meth c G X => ?_)
  refine wk_aload_n X dX5_readRow_0 0 rfl ?_
  refine wk_getR X dX5_readRow_1 fo_X5_12 hf (fun v1 hf => ?_)
  refine wk_getI X dX5_readRow_4 fo_X5_138 hf (fun v2 hf => ?_)
  refine wk_bipush X dX5_readRow_7 ib_8 ?_
  refine wk_icmp_lt X 18 dX5_readRow_9 (by decide) hf (fun hf => ?_) (fun hf => ?_)
  · refine wk_aload_n X dX5_readRow_18 0 rfl ?_
    refine wk_callVv X [] [] dX5_readRow_19 rfl vo_X5_63 rfl (by decide) (Nat.le_of_ble_eq_true rfl) hf (c_X5_advance l _ _) (fun r3 hf => ?_)
    refine wk_iconst X dX5_readRow_22 ic_0 ?_
    refine wk_istore_n (lv' := [(1, .int 0), (0, .ref x0)]) X dX5_readRow_23 (by decide) rfl ?_
    refine wk_iconst X dX5_readRow_24 ic_0 ?_
    refine wk_istore_n (lv' := [(2, .int 0), (1, .int 0), (0, .ref x0)]) X dX5_readRow_25 (by decide) rfl ?_
    exact wq_sub [2, 1, 0] rfl (wl_X5_readRow_26 X _ _ _ _ hf)
  · refine wk_aload_n X dX5_readRow_12 0 rfl ?_
    refine wk_iconst X dX5_readRow_13 ic_2 ?_
    refine wk_callVv X [.int 2] [] dX5_readRow_14 rfl vo_X5_129 rfl (by decide) (Nat.le_of_ble_eq_true rfl) hf (c_X5_fail l _ _ _) (fun r4 hf => ?_)
    exact wk_return X dX5_readRow_17 hf
section Sf_X5_readMuds
variable {p : Program} {l : Launch} {e : Env} {s : State} {m : MethodId} {args : Array Value} {below : List Frame} {meth : Method} {c : Code} {G : hp_G} {o : hp_H}
def f_X5_readMuds_61  (h : hp_H) : Option (hp_H) := some h
set_option maxRecDepth 20000 in
theorem w_X5_readMuds_61 (X : wx G p s m args meth c cX5_readMuds 2 RX5 none)  (h : hp_H) (hf : f_X5_readMuds_61 h = some o) : wq p l e (mt_R (7) 0 0) s m args below meth c (MQ below (mt_Q G none o) args s 0 0 (hp_A G)) G 2 0 0 61 [] [] h := by
  unfold f_X5_readMuds_61 at hf
  exact wk_return X dX5_readMuds_61 hf
def f_X5_readMuds_27 (k2 : Nat → Int32 → hp_H → Option (hp_H)) (x0 : Nat) (x1 : Int32) (h : hp_H) : Option (hp_H) := (rd_R h x0 5 0).bind fun v1 => (rd_R h v1 1 5).bind fun v2 => (f_X5_take x0 0 9 h).bind fun r3 => (f_X2_set v2 x1 r3.1 r3.2).bind fun r4 => (rd_R r4 x0 5 0).bind fun v5 => (wr_I r4 v5 1 4 (x1 + 1)).bind fun h6 => k2 x0 (x1 + 1) h6
set_option maxRecDepth 20000 in
theorem w_X5_readMuds_27 (X : wx G p s m args meth c cX5_readMuds 2 RX5 none) (k2 : Nat → Int32 → hp_H → Option (hp_H)) (hk2 : ∀ (x0 : Nat) (x1 : Int32) (h : hp_H), k2 x0 x1 h = some o → wq p l e (mt_R (7) 0 0) s m args below meth c (MQ below (mt_Q G none o) args s 0 0 (hp_A G)) G 2 0 0 2 [(0, .ref x0), (1, .int x1)] [] h) (x0 : Nat) (x1 : Int32) (h : hp_H) (hf : f_X5_readMuds_27 k2 x0 x1 h = some o) : wq p l e (mt_R (7) 0 0) s m args below meth c (MQ below (mt_Q G none o) args s 0 0 (hp_A G)) G 2 0 0 27 [(0, .ref x0), (1, .int x1)] [] h := by
  unfold f_X5_readMuds_27 at hf
  refine wk_aload_n X dX5_readMuds_27 0 rfl ?_
  refine wk_getR X dX5_readMuds_28 fo_X5_12 hf (fun v1 hf => ?_)
  refine wk_getR X dX5_readMuds_31 fo_X5_157 hf (fun v2 hf => ?_)
  refine wk_iload_n X dX5_readMuds_34 1 rfl ?_
  refine wk_aload_n X dX5_readMuds_35 0 rfl ?_
  refine wk_iconst X dX5_readMuds_36 ic_0 ?_
  refine wk_bipush X dX5_readMuds_37 ib_9 ?_
  refine wk_callVi X [.int 0, .int 9] [.int x1, .ref v2] dX5_readMuds_39 rfl vo_X5_109 rfl (by decide) (Nat.le_of_ble_eq_true rfl) hf (c_X5_take l _ _ _ _) (fun r3 hf => ?_)
  refine wk_callVv X [.int x1, .int r3.1] [] dX5_readMuds_42 rfl vo_X5_85 rfl (by decide) (Nat.le_of_ble_eq_true rfl) hf (c_X2_set l _ _ _ _) (fun r4 hf => ?_)
  refine wk_aload_n X dX5_readMuds_45 0 rfl ?_
  refine wk_getR X dX5_readMuds_46 fo_X5_12 hf (fun v5 hf => ?_)
  refine wk_iload_n X dX5_readMuds_49 1 rfl ?_
  refine wk_iconst X dX5_readMuds_50 ic_1 ?_
  refine wk_iadd X dX5_readMuds_51 ?_
  refine wk_putI X dX5_readMuds_52 fo_X5_159 hf (fun h6 hf => ?_)
  refine wk_iinc (lv' := [(1, .int (x1 + 1)), (0, .ref x0)]) X dX5_readMuds_55 1 rfl ic_1 (by decide) rfl ?_
  refine wk_goto X 2 dX5_readMuds_58 (by decide) ?_
  exact wq_sub [1, 0] rfl (hk2 _ _ _ hf)
def f_X5_readMuds_2 (k2 : Nat → Int32 → hp_H → Option (hp_H)) (x0 : Nat) (x1 : Int32) (h : hp_H) : Option (hp_H) := if 8 < x1 then (f_X5_readMuds_61 h) else ((f_X5_isNumberNext x0 x1 h).bind fun r1 => if r1.1 = 0 then (f_X5_readMuds_61 r1.2) else (if x1 < 8 then (f_X5_readMuds_27 k2 x0 x1 r1.2) else ((f_X5_fail x0 2 r1.2).bind fun r2 => f_X5_readMuds_27 k2 x0 x1 r2)))
set_option maxRecDepth 20000 in
theorem w_X5_readMuds_2 (X : wx G p s m args meth c cX5_readMuds 2 RX5 none) (k2 : Nat → Int32 → hp_H → Option (hp_H)) (hk2 : ∀ (x0 : Nat) (x1 : Int32) (h : hp_H), k2 x0 x1 h = some o → wq p l e (mt_R (7) 0 0) s m args below meth c (MQ below (mt_Q G none o) args s 0 0 (hp_A G)) G 2 0 0 2 [(0, .ref x0), (1, .int x1)] [] h) (x0 : Nat) (x1 : Int32) (h : hp_H) (hf : f_X5_readMuds_2 k2 x0 x1 h = some o) : wq p l e (mt_R (7) 0 0) s m args below meth c (MQ below (mt_Q G none o) args s 0 0 (hp_A G)) G 2 0 0 2 [(0, .ref x0), (1, .int x1)] [] h := by
  unfold f_X5_readMuds_2 at hf
  refine wk_iload_n X dX5_readMuds_2 1 rfl ?_
  refine wk_bipush X dX5_readMuds_3 ib_8 ?_
  refine wk_icmp_gt X 61 dX5_readMuds_5 (by decide) hf (fun hf => ?_) (fun hf => ?_)
  · exact wq_sub [] rfl (w_X5_readMuds_61 X _ hf)
  · refine wk_aload_n X dX5_readMuds_8 0 rfl ?_
    refine wk_iload_n X dX5_readMuds_9 1 rfl ?_
    refine wk_callVi X [.int x1] [] dX5_readMuds_10 rfl vo_X5_141 rfl (by decide) (Nat.le_of_ble_eq_true rfl) hf (c_X5_isNumberNext l _ _ _) (fun r1 hf => ?_)
    refine wk_if_eq X 61 dX5_readMuds_13 (by decide) hf (fun hf => ?_) (fun hf => ?_)
    · exact wq_sub [] rfl (w_X5_readMuds_61 X _ hf)
    · refine wk_iload_n X dX5_readMuds_16 1 rfl ?_
      refine wk_bipush X dX5_readMuds_17 ib_8 ?_
      refine wk_icmp_lt X 27 dX5_readMuds_19 (by decide) hf (fun hf => ?_) (fun hf => ?_)
      · exact wq_sub [0, 1] rfl (w_X5_readMuds_27 X k2 hk2 _ _ _ hf)
      · refine wk_aload_n X dX5_readMuds_22 0 rfl ?_
        refine wk_iconst X dX5_readMuds_23 ic_2 ?_
        refine wk_callVv X [.int 2] [] dX5_readMuds_24 rfl vo_X5_129 rfl (by decide) (Nat.le_of_ble_eq_true rfl) hf (c_X5_fail l _ _ _) (fun r2 hf => ?_)
        exact wq_sub [0, 1] rfl (w_X5_readMuds_27 X k2 hk2 _ _ _ hf)
def l_X5_readMuds_2 (x0 : Nat) (x1 : Int32) (h : hp_H) : Option (hp_H) := lp (fun k (s : Nat × Int32 × hp_H) => f_X5_readMuds_2  (fun a0 a1 a2 => k (a0, a1, a2)) s.1 s.2.1 s.2.2) 100000 (x0, x1, h)
theorem wl_X5_readMuds_2 (X : wx G p s m args meth c cX5_readMuds 2 RX5 none) (x0 : Nat) (x1 : Int32) (h : hp_H) (hf : l_X5_readMuds_2 x0 x1 h = some o) : wq p l e (mt_R (7) 0 0) s m args below meth c (MQ below (mt_Q G none o) args s 0 0 (hp_A G)) G 2 0 0 2 [(0, .ref x0), (1, .int x1)] [] h :=
  lp_ind (P := fun (s_ : Nat × Int32 × hp_H) => wq p l e (mt_R (7) 0 0) s m args below meth c (MQ below (mt_Q G none o) args s 0 0 (hp_A G)) G 2 0 0 2 [(0, .ref s_.1), (1, .int s_.2.1)] [] s_.2.2) (fun k s hk hf => w_X5_readMuds_2 X  (fun a0 a1 a2 => k (a0, a1, a2)) (fun a0 a1 a2 hf => hk (a0, a1, a2) hf) s.1 s.2.1 s.2.2 hf) 100000 (x0, x1, h) hf
end Sf_X5_readMuds
def f_X5_readMuds (x0 : Nat) (h : hp_H) : Option (hp_H) := gd h x0 5 (l_X5_readMuds_2 x0 0 h)
set_option maxRecDepth 20000 in
theorem c_X5_readMuds (l : Launch) (x0 : Nat) (h : hp_H) (r : hp_H) (hf : f_X5_readMuds x0 h = some r) : cv l (7) yX5_readMuds cX5_readMuds 2 none 5 x0 [] h none r := by
  unfold f_X5_readMuds at hf
  refine cv_of (lv := [(0, .ref x0)]) hf (by decide +kernel) (Nat.le_of_ble_eq_true rfl) rfl (fun hf p e s m args below meth c G X => ?_)
  refine wk_iconst X dX5_readMuds_0 ic_0 ?_
  refine wk_istore_n (lv' := [(1, .int 0), (0, .ref x0)]) X dX5_readMuds_1 (by decide) rfl ?_
  exact wq_sub [1, 0] rfl (wl_X5_readMuds_2 X _ _ _ hf)
section Sf_X5_passOnce
variable {p : Program} {l : Launch} {e : Env} {s : State} {m : MethodId} {args : Array Value} {below : List Frame} {meth : Method} {c : Code} {G : hp_G} {o : hp_H}
def f_X5_passOnce_14 (x0 : Nat) (x1 : Int32) (h : hp_H) : Option (hp_H) := (rd_I h x0 5 10).bind fun v1 => (wr_I h x0 5 10 (v1 ||| x1)).bind fun h2 => (f_X5_advance x0 h2).bind fun r3 => some r3
set_option maxRecDepth 20000 in
theorem w_X5_passOnce_14 (X : wx G p s m args meth c cX5_passOnce 2 RX5 none) (x0 : Nat) (x1 : Int32) (h : hp_H) (hf : f_X5_passOnce_14 x0 x1 h = some o) : wq p l e (mt_R (6) 0 0) s m args below meth c (MQ below (mt_Q G none o) args s 0 0 (hp_A G)) G 2 0 0 14 [(0, .ref x0), (1, .int x1)] [] h := by
  unfold f_X5_passOnce_14 at hf
  refine wk_aload_n X dX5_passOnce_14 0 rfl ?_
  refine wk_dup X dX5_passOnce_15 rfl ?_
  refine wk_getI X dX5_passOnce_16 fo_X5_49 hf (fun v1 hf => ?_)
  refine wk_iload_n X dX5_passOnce_19 1 rfl ?_
  refine wk_ior X dX5_passOnce_20 ?_
  refine wk_putI X dX5_passOnce_21 fo_X5_49 hf (fun h2 hf => ?_)
  refine wk_aload_n X dX5_passOnce_24 0 rfl ?_
  refine wk_callVv X [] [] dX5_passOnce_25 rfl vo_X5_63 rfl (by decide) (Nat.le_of_ble_eq_true rfl) hf (c_X5_advance l _ _) (fun r3 hf => ?_)
  exact wk_return X dX5_passOnce_28 hf
end Sf_X5_passOnce
def f_X5_passOnce (x0 : Nat) (x1 : Int32) (h : hp_H) : Option (hp_H) := gd h x0 5 ((rd_I h x0 5 10).bind fun v1 => if (v1 &&& x1) = 0 then (f_X5_passOnce_14 x0 x1 h) else ((f_X5_fail x0 5 h).bind fun r2 => f_X5_passOnce_14 x0 x1 r2))
set_option maxRecDepth 20000 in
theorem c_X5_passOnce (l : Launch) (x0 : Nat) (x1 : Int32) (h : hp_H) (r : hp_H) (hf : f_X5_passOnce x0 x1 h = some r) : cv l (6) yX5_passOnce cX5_passOnce 2 none 5 x0 [.int x1] h none r := by
  unfold f_X5_passOnce at hf
  refine cv_of (lv := [(0, .ref x0), (1, .int x1)]) hf (by decide +kernel) (Nat.le_of_ble_eq_true rfl) rfl (fun hf p e s m args below meth c G X => ?_)
  refine wk_aload_n X dX5_passOnce_0 0 rfl ?_
  refine wk_getI X dX5_passOnce_1 fo_X5_49 hf (fun v1 hf => ?_)
  refine wk_iload_n X dX5_passOnce_4 1 rfl ?_
  refine wk_iand X dX5_passOnce_5 ?_
  refine wk_if_eq X 14 dX5_passOnce_6 (by decide) hf (fun hf => ?_) (fun hf => ?_)
  · exact wq_sub [0, 1] rfl (w_X5_passOnce_14 X _ _ _ hf)
  · refine wk_aload_n X dX5_passOnce_9 0 rfl ?_
    refine wk_iconst X dX5_passOnce_10 ic_5 ?_
    refine wk_callVv X [.int 5] [] dX5_passOnce_11 rfl vo_X5_129 rfl (by decide) (Nat.le_of_ble_eq_true rfl) hf (c_X5_fail l _ _ _) (fun r2 hf => ?_)
    exact wq_sub [0, 1] rfl (w_X5_passOnce_14 X _ _ _ hf)
section Sf_X5_isWord
variable {p : Program} {l : Launch} {e : Env} {s : State} {m : MethodId} {args : Array Value} {below : List Frame} {meth : Method} {c : Code} {G : hp_G} {o : Int32 × hp_H}
def f_X5_isWord_31  (h : hp_H) : Option (Int32 × hp_H) := if 0 = 0 ∨ 0 = 1 then some (0, h) else none
set_option maxRecDepth 20000 in
theorem w_X5_isWord_31 (X : wx G p s m args meth c cX5_isWord 3 RX5 (some .boolean))  (h : hp_H) (hf : f_X5_isWord_31 h = some o) : wq p l e (mt_R (5) 0 0) s m args below meth c (MQ below (mt_Q G (some (.int o.1)) o.2) args s 0 0 (hp_A G)) G 3 0 0 31 [] [] h := by
  unfold f_X5_isWord_31 at hf
  refine wk_iconst X dX5_isWord_31 ic_0 ?_
  exact wk_zreturn X dX5_isWord_32 hf
def f_X5_isWord_72  (h : hp_H) : Option (Int32 × hp_H) := if 1 = 0 ∨ 1 = 1 then some (1, h) else none
set_option maxRecDepth 20000 in
theorem w_X5_isWord_72 (X : wx G p s m args meth c cX5_isWord 3 RX5 (some .boolean))  (h : hp_H) (hf : f_X5_isWord_72 h = some o) : wq p l e (mt_R (5) 0 0) s m args below meth c (MQ below (mt_Q G (some (.int o.1)) o.2) args s 0 0 (hp_A G)) G 3 0 0 72 [] [] h := by
  unfold f_X5_isWord_72 at hf
  refine wk_iconst X dX5_isWord_72 ic_1 ?_
  exact wk_zreturn X dX5_isWord_73 hf
def f_X5_isWord_64  (h : hp_H) : Option (Int32 × hp_H) := if 0 = 0 ∨ 0 = 1 then some (0, h) else none
set_option maxRecDepth 20000 in
theorem w_X5_isWord_64 (X : wx G p s m args meth c cX5_isWord 3 RX5 (some .boolean))  (h : hp_H) (hf : f_X5_isWord_64 h = some o) : wq p l e (mt_R (5) 0 0) s m args below meth c (MQ below (mt_Q G (some (.int o.1)) o.2) args s 0 0 (hp_A G)) G 3 0 0 64 [] [] h := by
  unfold f_X5_isWord_64 at hf
  refine wk_iconst X dX5_isWord_64 ic_0 ?_
  exact wk_zreturn X dX5_isWord_65 hf
def f_X5_isWord_35 (k35 : Nat → UInt32 → Int32 → hp_H → Option (Int32 × hp_H)) (x0 : Nat) (x1 : UInt32) (x2 : Int32) (h : hp_H) : Option (Int32 × hp_H) := (f_J0_length_8abf5 x1 h).bind fun r1 => if r1.1 ≤ x2 then (f_X5_isWord_72 r1.2) else ((rd_R r1.2 x0 5 4).bind fun v2 => (rd_I r1.2 x0 5 8).bind fun v3 => (f_X2_at v2 (v3 + x2) r1.2).bind fun r4 => (f_J0_charAt_5068e x1 x2 r4.2).bind fun r5 => if r4.1 = r5.1 then (k35 x0 x1 (x2 + 1) r5.2) else (f_X5_isWord_64 r5.2))
set_option maxRecDepth 20000 in
theorem w_X5_isWord_35 (X : wx G p s m args meth c cX5_isWord 3 RX5 (some .boolean)) (k35 : Nat → UInt32 → Int32 → hp_H → Option (Int32 × hp_H)) (hk35 : ∀ (x0 : Nat) (x1 : UInt32) (x2 : Int32) (h : hp_H), k35 x0 x1 x2 h = some o → wq p l e (mt_R (5) 0 0) s m args below meth c (MQ below (mt_Q G (some (.int o.1)) o.2) args s 0 0 (hp_A G)) G 3 0 0 35 [(0, .ref x0), (1, .float x1), (2, .int x2)] [] h) (x0 : Nat) (x1 : UInt32) (x2 : Int32) (h : hp_H) (hf : f_X5_isWord_35 k35 x0 x1 x2 h = some o) : wq p l e (mt_R (5) 0 0) s m args below meth c (MQ below (mt_Q G (some (.int o.1)) o.2) args s 0 0 (hp_A G)) G 3 0 0 35 [(0, .ref x0), (1, .float x1), (2, .int x2)] [] h := by
  unfold f_X5_isWord_35 at hf
  refine wk_iload_n X dX5_isWord_35 2 rfl ?_
  refine wk_aload_nS X dX5_isWord_36 1 rfl ?_
  refine wk_callTi X [] [.int x2] dX5_isWord_37 rfl vo_X5_214 rfl (by decide) (Nat.le_of_ble_eq_true rfl) hf (c_J0_length_8abf5 l _ _) (fun r1 hf => ?_)
  refine wk_icmp_ge X 72 dX5_isWord_40 (by decide) hf (fun hf => ?_) (fun hf => ?_)
  · exact wq_sub [] rfl (w_X5_isWord_72 X _ hf)
  · refine wk_aload_n X dX5_isWord_43 0 rfl ?_
    refine wk_getR X dX5_isWord_44 fo_X5_55 hf (fun v2 hf => ?_)
    refine wk_aload_n X dX5_isWord_47 0 rfl ?_
    refine wk_getI X dX5_isWord_48 fo_X5_43 hf (fun v3 hf => ?_)
    refine wk_iload_n X dX5_isWord_51 2 rfl ?_
    refine wk_iadd X dX5_isWord_52 ?_
    refine wk_callVi X [.int (v3 + x2)] [] dX5_isWord_53 rfl vo_X5_75 rfl (by decide) (Nat.le_of_ble_eq_true rfl) hf (c_X2_at l _ _ _) (fun r4 hf => ?_)
    refine wk_aload_nS X dX5_isWord_56 1 rfl ?_
    refine wk_iload_n X dX5_isWord_57 2 rfl ?_
    refine wk_callTi X [.int x2] [.int r4.1] dX5_isWord_58 rfl vo_X5_218 rfl (by decide) (Nat.le_of_ble_eq_true rfl) hf (c_J0_charAt_5068e l _ _ _) (fun r5 hf => ?_)
    refine wk_icmp_eq X 66 dX5_isWord_61 (by decide) hf (fun hf => ?_) (fun hf => ?_)
    · refine wk_iinc (lv' := [(2, .int (x2 + 1)), (0, .ref x0), (1, .float x1)]) X dX5_isWord_66 2 rfl ic_1 (by decide) rfl ?_
      refine wk_goto X 35 dX5_isWord_69 (by decide) ?_
      exact wq_sub [1, 2, 0] rfl (hk35 _ _ _ _ hf)
    · exact wq_sub [] rfl (w_X5_isWord_64 X _ hf)
def l_X5_isWord_35 (x0 : Nat) (x1 : UInt32) (x2 : Int32) (h : hp_H) : Option (Int32 × hp_H) := lp (fun k (s : Nat × UInt32 × Int32 × hp_H) => f_X5_isWord_35  (fun a0 a1 a2 a3 => k (a0, a1, a2, a3)) s.1 s.2.1 s.2.2.1 s.2.2.2) 100000 (x0, x1, x2, h)
theorem wl_X5_isWord_35 (X : wx G p s m args meth c cX5_isWord 3 RX5 (some .boolean)) (x0 : Nat) (x1 : UInt32) (x2 : Int32) (h : hp_H) (hf : l_X5_isWord_35 x0 x1 x2 h = some o) : wq p l e (mt_R (5) 0 0) s m args below meth c (MQ below (mt_Q G (some (.int o.1)) o.2) args s 0 0 (hp_A G)) G 3 0 0 35 [(0, .ref x0), (1, .float x1), (2, .int x2)] [] h :=
  lp_ind (P := fun (s_ : Nat × UInt32 × Int32 × hp_H) => wq p l e (mt_R (5) 0 0) s m args below meth c (MQ below (mt_Q G (some (.int o.1)) o.2) args s 0 0 (hp_A G)) G 3 0 0 35 [(0, .ref s_.1), (1, .float s_.2.1), (2, .int s_.2.2.1)] [] s_.2.2.2) (fun k s hk hf => w_X5_isWord_35 X  (fun a0 a1 a2 a3 => k (a0, a1, a2, a3)) (fun a0 a1 a2 a3 hf => hk (a0, a1, a2, a3) hf) s.1 s.2.1 s.2.2.1 s.2.2.2 hf) 100000 (x0, x1, x2, h) hf
end Sf_X5_isWord
def f_X5_isWord (x0 : Nat) (x1 : UInt32) (h : hp_H) : Option (Int32 × hp_H) := gd h x0 5 ((rd_I h x0 5 2).bind fun v1 => if v1 = 0 then ((rd_I h x0 5 7).bind fun v2 => if v2 = 2 then ((rd_I h x0 5 6).bind fun v3 => (rd_I h x0 5 8).bind fun v4 => (f_J0_length_8abf5 x1 h).bind fun r5 => if (v3 - v4) = r5.1 then (l_X5_isWord_35 x0 x1 0 r5.2) else (f_X5_isWord_31 r5.2)) else (f_X5_isWord_31 h)) else (f_X5_isWord_31 h))
set_option maxRecDepth 20000 in
theorem c_X5_isWord (l : Launch) (x0 : Nat) (x1 : UInt32) (h : hp_H) (r : Int32 × hp_H) (hf : f_X5_isWord x0 x1 h = some r) : cv l (5) yX5_isWord cX5_isWord 3 (some .boolean) 5 x0 [.float x1] h (some (.int r.1)) r.2 := by
  unfold f_X5_isWord at hf
  refine cv_of (lv := [(0, .ref x0), (1, .float x1)]) hf (by decide +kernel) (Nat.le_of_ble_eq_true rfl) rfl (fun hf p e s m args below meth c G X => ?_)
  refine wk_aload_n X dX5_isWord_0 0 rfl ?_
  refine wk_getI X dX5_isWord_1 fo_X5_27 hf (fun v1 hf => ?_)
  refine wk_if_ne X 31 dX5_isWord_4 (by decide) hf (fun hf => ?_) (fun hf => ?_)
  · exact wq_sub [] rfl (w_X5_isWord_31 X _ hf)
  · refine wk_aload_n X dX5_isWord_7 0 rfl ?_
    refine wk_getI X dX5_isWord_8 fo_X5_40 hf (fun v2 hf => ?_)
    refine wk_iconst X dX5_isWord_11 ic_2 ?_
    refine wk_icmp_ne X 31 dX5_isWord_12 (by decide) hf (fun hf => ?_) (fun hf => ?_)
    · exact wq_sub [] rfl (w_X5_isWord_31 X _ hf)
    · refine wk_aload_n X dX5_isWord_15 0 rfl ?_
      refine wk_getI X dX5_isWord_16 fo_X5_37 hf (fun v3 hf => ?_)
      refine wk_aload_n X dX5_isWord_19 0 rfl ?_
      refine wk_getI X dX5_isWord_20 fo_X5_43 hf (fun v4 hf => ?_)
      refine wk_isub X dX5_isWord_23 ?_
      refine wk_aload_nS X dX5_isWord_24 1 rfl ?_
      refine wk_callTi X [] [.int (v3 - v4)] dX5_isWord_25 rfl vo_X5_214 rfl (by decide) (Nat.le_of_ble_eq_true rfl) hf (c_J0_length_8abf5 l _ _) (fun r5 hf => ?_)
      refine wk_icmp_eq X 33 dX5_isWord_28 (by decide) hf (fun hf => ?_) (fun hf => ?_)
      · refine wk_iconst X dX5_isWord_33 ic_0 ?_
        refine wk_istore_n (lv' := [(2, .int 0), (0, .ref x0), (1, .float x1)]) X dX5_isWord_34 (by decide) rfl ?_
        exact wq_sub [1, 2, 0] rfl (wl_X5_isWord_35 X _ _ _ _ hf)
      · exact wq_sub [] rfl (w_X5_isWord_31 X _ hf)
section Sf_X5_valueHere
variable {p : Program} {l : Launch} {e : Env} {s : State} {m : MethodId} {args : Array Value} {below : List Frame} {meth : Method} {c : Code} {G : hp_G} {o : Int32 × hp_H}
def f_X5_valueHere_74 (t0 : Int32) (h : hp_H) : Option (Int32 × hp_H) := some (t0, h)
set_option maxRecDepth 20000 in
theorem w_X5_valueHere_74 (X : wx G p s m args meth c cX5_valueHere 1 RX5 (some .int)) (t0 : Int32) (h : hp_H) (hf : f_X5_valueHere_74 t0 h = some o) : wq p l e (mt_R (6) 0 0) s m args below meth c (MQ below (mt_Q G (some (.int o.1)) o.2) args s 0 0 (hp_A G)) G 1 0 0 74 [] [.int t0] h := by
  unfold f_X5_valueHere_74 at hf
  exact wk_ireturn X dX5_valueHere_74 hf
end Sf_X5_valueHere
def f_X5_valueHere (x0 : Nat) (h : hp_H) : Option (Int32 × hp_H) := gd h x0 5 ((f_X5_isWord x0 9 h).bind fun r1 => if r1.1 = 0 then ((f_X5_isWord x0 10 r1.2).bind fun r2 => if r2.1 = 0 then ((f_X5_isWord x0 6 r2.2).bind fun r3 => if r3.1 = 0 then ((f_X5_isWord x0 11 r3.2).bind fun r4 => if r4.1 = 0 then ((f_X5_isWord x0 12 r4.2).bind fun r5 => if r5.1 = 0 then ((f_X5_isWord x0 13 r5.2).bind fun r6 => if r6.1 = 0 then (f_X5_valueHere_74 0 r6.2) else (f_X5_valueHere_74 (-6) r6.2)) else (some ((-5), r5.2))) else (some ((-4), r4.2))) else (some ((-3), r3.2))) else (some ((-2), r2.2))) else (some ((-1), r1.2)))
set_option maxRecDepth 20000 in
theorem c_X5_valueHere (l : Launch) (x0 : Nat) (h : hp_H) (r : Int32 × hp_H) (hf : f_X5_valueHere x0 h = some r) : cv l (6) yX5_valueHere cX5_valueHere 1 (some .int) 5 x0 [] h (some (.int r.1)) r.2 := by
  unfold f_X5_valueHere at hf
  refine cv_of (lv := [(0, .ref x0)]) hf (by decide +kernel) (Nat.le_of_ble_eq_true rfl) rfl (fun hf p e s m args below meth c G X => ?_)
  refine wk_aload_n X dX5_valueHere_0 0 rfl ?_
  refine wk_ldcS X 9 (by decide) rfl dX5_valueHere_1 ?_
  refine wk_callVi X [.float 9] [] dX5_valueHere_3 rfl vo_X5_91 rfl (by decide) (Nat.le_of_ble_eq_true rfl) hf (c_X5_isWord l _ _ _) (fun r1 hf => ?_)
  refine wk_if_eq X 11 dX5_valueHere_6 (by decide) hf (fun hf => ?_) (fun hf => ?_)
  · refine wk_aload_n X dX5_valueHere_11 0 rfl ?_
    refine wk_ldcS X 10 (by decide) rfl dX5_valueHere_12 ?_
    refine wk_callVi X [.float 10] [] dX5_valueHere_14 rfl vo_X5_91 rfl (by decide) (Nat.le_of_ble_eq_true rfl) hf (c_X5_isWord l _ _ _) (fun r2 hf => ?_)
    refine wk_if_eq X 23 dX5_valueHere_17 (by decide) hf (fun hf => ?_) (fun hf => ?_)
    · refine wk_aload_n X dX5_valueHere_23 0 rfl ?_
      refine wk_ldcS X 6 (by decide) rfl dX5_valueHere_24 ?_
      refine wk_callVi X [.float 6] [] dX5_valueHere_26 rfl vo_X5_91 rfl (by decide) (Nat.le_of_ble_eq_true rfl) hf (c_X5_isWord l _ _ _) (fun r3 hf => ?_)
      refine wk_if_eq X 35 dX5_valueHere_29 (by decide) hf (fun hf => ?_) (fun hf => ?_)
      · refine wk_aload_n X dX5_valueHere_35 0 rfl ?_
        refine wk_ldcS X 11 (by decide) rfl dX5_valueHere_36 ?_
        refine wk_callVi X [.float 11] [] dX5_valueHere_38 rfl vo_X5_91 rfl (by decide) (Nat.le_of_ble_eq_true rfl) hf (c_X5_isWord l _ _ _) (fun r4 hf => ?_)
        refine wk_if_eq X 47 dX5_valueHere_41 (by decide) hf (fun hf => ?_) (fun hf => ?_)
        · refine wk_aload_n X dX5_valueHere_47 0 rfl ?_
          refine wk_ldcS X 12 (by decide) rfl dX5_valueHere_48 ?_
          refine wk_callVi X [.float 12] [] dX5_valueHere_50 rfl vo_X5_91 rfl (by decide) (Nat.le_of_ble_eq_true rfl) hf (c_X5_isWord l _ _ _) (fun r5 hf => ?_)
          refine wk_if_eq X 59 dX5_valueHere_53 (by decide) hf (fun hf => ?_) (fun hf => ?_)
          · refine wk_aload_n X dX5_valueHere_59 0 rfl ?_
            refine wk_ldcS X 13 (by decide) rfl dX5_valueHere_60 ?_
            refine wk_callVi X [.float 13] [] dX5_valueHere_62 rfl vo_X5_91 rfl (by decide) (Nat.le_of_ble_eq_true rfl) hf (c_X5_isWord l _ _ _) (fun r6 hf => ?_)
            refine wk_if_eq X 73 dX5_valueHere_65 (by decide) hf (fun hf => ?_) (fun hf => ?_)
            · refine wk_iconst X dX5_valueHere_73 ic_0 ?_
              exact wq_sub [] rfl (w_X5_valueHere_74 X _ _ hf)
            · refine wk_bipush X dX5_valueHere_68 ib_m6 ?_
              refine wk_goto X 74 dX5_valueHere_70 (by decide) ?_
              exact wq_sub [] rfl (w_X5_valueHere_74 X _ _ hf)
          · refine wk_bipush X dX5_valueHere_56 ib_m5 ?_
            exact wk_ireturn X dX5_valueHere_58 hf
        · refine wk_bipush X dX5_valueHere_44 ib_m4 ?_
          exact wk_ireturn X dX5_valueHere_46 hf
      · refine wk_bipush X dX5_valueHere_32 ib_m3 ?_
        exact wk_ireturn X dX5_valueHere_34 hf
    · refine wk_bipush X dX5_valueHere_20 ib_m2 ?_
      exact wk_ireturn X dX5_valueHere_22 hf
  · refine wk_iconst X dX5_valueHere_9 ic_m1 ?_
    exact wk_ireturn X dX5_valueHere_10 hf
section Sf_X5_readValue
variable {p : Program} {l : Launch} {e : Env} {s : State} {m : MethodId} {args : Array Value} {below : List Frame} {meth : Method} {c : Code} {G : hp_G} {o : hp_H}
end Sf_X5_readValue
def f_X5_readValue (x0 : Nat) (h : hp_H) : Option (hp_H) := gd h x0 5 ((f_X5_valueHere x0 h).bind fun r1 => if r1.1 = 0 then ((f_X5_fail x0 3 r1.2).bind fun r6 => some r6) else ((rd_R r1.2 x0 5 0).bind fun v2 => (rd_R r1.2 v2 1 6).bind fun v3 => (f_X6_add v3 r1.1 r1.2).bind fun r4 => (f_X5_advance x0 r4).bind fun r5 => some r5))
set_option maxRecDepth 20000 in
theorem c_X5_readValue (l : Launch) (x0 : Nat) (h : hp_H) (r : hp_H) (hf : f_X5_readValue x0 h = some r) : cv l (7) yX5_readValue cX5_readValue 2 none 5 x0 [] h none r := by
  unfold f_X5_readValue at hf
  refine cv_of (lv := [(0, .ref x0)]) hf (by decide +kernel) (Nat.le_of_ble_eq_true rfl) rfl (fun hf p e s m args below meth c G X => ?_)
  refine wk_aload_n X dX5_readValue_0 0 rfl ?_
  refine wk_callVi X [] [] dX5_readValue_1 rfl vo_X5_201 rfl (by decide) (Nat.le_of_ble_eq_true rfl) hf (c_X5_valueHere l _ _) (fun r1 hf => ?_)
  refine wk_istore_n (lv' := [(1, .int r1.1), (0, .ref x0)]) X dX5_readValue_4 (by decide) rfl ?_
  refine wk_iload_n X dX5_readValue_5 0 rfl ?_
  refine wk_if_ne X 15 dX5_readValue_6 (by decide) hf (fun hf => ?_) (fun hf => ?_)
  · refine wk_aload_n X dX5_readValue_15 1 rfl ?_
    refine wk_getR X dX5_readValue_16 fo_X5_12 hf (fun v2 hf => ?_)
    refine wk_getR X dX5_readValue_19 fo_X5_170 hf (fun v3 hf => ?_)
    refine wk_iload_n X dX5_readValue_22 0 rfl ?_
    refine wk_callVv X [.int r1.1] [] dX5_readValue_23 rfl vo_X5_176 rfl (by decide) (Nat.le_of_ble_eq_true rfl) hf (c_X6_add l _ _ _) (fun r4 hf => ?_)
    refine wk_aload_n X dX5_readValue_26 1 rfl ?_
    refine wk_callVv X [] [] dX5_readValue_27 rfl vo_X5_63 rfl (by decide) (Nat.le_of_ble_eq_true rfl) hf (c_X5_advance l _ _) (fun r5 hf => ?_)
    exact wk_return X dX5_readValue_30 hf
  · refine wk_aload_n X dX5_readValue_9 1 rfl ?_
    refine wk_iconst X dX5_readValue_10 ic_3 ?_
    refine wk_callVv X [.int 3] [] dX5_readValue_11 rfl vo_X5_129 rfl (by decide) (Nat.le_of_ble_eq_true rfl) hf (c_X5_fail l _ _ _) (fun r6 hf => ?_)
    exact wk_return X dX5_readValue_14 hf
section Sf_X5_isSign
variable {p : Program} {l : Launch} {e : Env} {s : State} {m : MethodId} {args : Array Value} {below : List Frame} {meth : Method} {c : Code} {G : hp_G} {o : Int32 × hp_H}
def f_X5_isSign_35 (t0 : Int32) (h : hp_H) : Option (Int32 × hp_H) := if t0 = 0 ∨ t0 = 1 then some (t0, h) else none
set_option maxRecDepth 20000 in
theorem w_X5_isSign_35 (X : wx G p s m args meth c cX5_isSign 2 RX5 (some .boolean)) (t0 : Int32) (h : hp_H) (hf : f_X5_isSign_35 t0 h = some o) : wq p l e (mt_R (2) 0 0) s m args below meth c (MQ below (mt_Q G (some (.int o.1)) o.2) args s 0 0 (hp_A G)) G 2 0 0 35 [] [.int t0] h := by
  unfold f_X5_isSign_35 at hf
  exact wk_zreturn X dX5_isSign_35 hf
def f_X5_isSign_34  (h : hp_H) : Option (Int32 × hp_H) := f_X5_isSign_35 0 h
set_option maxRecDepth 20000 in
theorem w_X5_isSign_34 (X : wx G p s m args meth c cX5_isSign 2 RX5 (some .boolean))  (h : hp_H) (hf : f_X5_isSign_34 h = some o) : wq p l e (mt_R (2) 0 0) s m args below meth c (MQ below (mt_Q G (some (.int o.1)) o.2) args s 0 0 (hp_A G)) G 2 0 0 34 [] [] h := by
  unfold f_X5_isSign_34 at hf
  refine wk_iconst X dX5_isSign_34 ic_0 ?_
  exact wq_sub [] rfl (w_X5_isSign_35 X _ _ hf)
end Sf_X5_isSign
def f_X5_isSign (x0 : Nat) (x1 : Int32) (h : hp_H) : Option (Int32 × hp_H) := gd h x0 5 ((rd_I h x0 5 2).bind fun v1 => if v1 = 0 then ((rd_I h x0 5 7).bind fun v2 => if v2 = 3 then ((rd_R h x0 5 4).bind fun v3 => (rd_I h x0 5 8).bind fun v4 => (f_X2_at v3 v4 h).bind fun r5 => if r5.1 = x1 then (f_X5_isSign_35 1 r5.2) else (f_X5_isSign_34 r5.2)) else (f_X5_isSign_34 h)) else (f_X5_isSign_34 h))
set_option maxRecDepth 20000 in
theorem c_X5_isSign (l : Launch) (x0 : Nat) (x1 : Int32) (h : hp_H) (r : Int32 × hp_H) (hf : f_X5_isSign x0 x1 h = some r) : cv l (2) yX5_isSign cX5_isSign 2 (some .boolean) 5 x0 [.int x1] h (some (.int r.1)) r.2 := by
  unfold f_X5_isSign at hf
  refine cv_of (lv := [(0, .ref x0), (1, .int x1)]) hf (by decide +kernel) (Nat.le_of_ble_eq_true rfl) rfl (fun hf p e s m args below meth c G X => ?_)
  refine wk_aload_n X dX5_isSign_0 0 rfl ?_
  refine wk_getI X dX5_isSign_1 fo_X5_27 hf (fun v1 hf => ?_)
  refine wk_if_ne X 34 dX5_isSign_4 (by decide) hf (fun hf => ?_) (fun hf => ?_)
  · exact wq_sub [] rfl (w_X5_isSign_34 X _ hf)
  · refine wk_aload_n X dX5_isSign_7 0 rfl ?_
    refine wk_getI X dX5_isSign_8 fo_X5_40 hf (fun v2 hf => ?_)
    refine wk_iconst X dX5_isSign_11 ic_3 ?_
    refine wk_icmp_ne X 34 dX5_isSign_12 (by decide) hf (fun hf => ?_) (fun hf => ?_)
    · exact wq_sub [] rfl (w_X5_isSign_34 X _ hf)
    · refine wk_aload_n X dX5_isSign_15 0 rfl ?_
      refine wk_getR X dX5_isSign_16 fo_X5_55 hf (fun v3 hf => ?_)
      refine wk_aload_n X dX5_isSign_19 0 rfl ?_
      refine wk_getI X dX5_isSign_20 fo_X5_43 hf (fun v4 hf => ?_)
      refine wk_callVi X [.int v4] [] dX5_isSign_23 rfl vo_X5_75 rfl (by decide) (Nat.le_of_ble_eq_true rfl) hf (c_X2_at l _ _ _) (fun r5 hf => ?_)
      refine wk_iload_n X dX5_isSign_26 1 rfl ?_
      refine wk_icmp_ne X 34 dX5_isSign_27 (by decide) hf (fun hf => ?_) (fun hf => ?_)
      · exact wq_sub [] rfl (w_X5_isSign_34 X _ hf)
      · refine wk_iconst X dX5_isSign_30 ic_1 ?_
        refine wk_goto X 35 dX5_isSign_31 (by decide) ?_
        exact wq_sub [] rfl (w_X5_isSign_35 X _ _ hf)
section Sf_X5_pass
variable {p : Program} {l : Launch} {e : Env} {s : State} {m : MethodId} {args : Array Value} {below : List Frame} {meth : Method} {c : Code} {G : hp_G} {o : hp_H}
def f_X5_pass_13 (x0 : Nat) (h : hp_H) : Option (hp_H) := (f_X5_advance x0 h).bind fun r1 => some r1
set_option maxRecDepth 20000 in
theorem w_X5_pass_13 (X : wx G p s m args meth c cX5_pass 2 RX5 none) (x0 : Nat) (h : hp_H) (hf : f_X5_pass_13 x0 h = some o) : wq p l e (mt_R (6) 0 0) s m args below meth c (MQ below (mt_Q G none o) args s 0 0 (hp_A G)) G 2 0 0 13 [(0, .ref x0)] [] h := by
  unfold f_X5_pass_13 at hf
  refine wk_aload_n X dX5_pass_13 0 rfl ?_
  refine wk_callVv X [] [] dX5_pass_14 rfl vo_X5_63 rfl (by decide) (Nat.le_of_ble_eq_true rfl) hf (c_X5_advance l _ _) (fun r1 hf => ?_)
  exact wk_return X dX5_pass_17 hf
end Sf_X5_pass
def f_X5_pass (x0 : Nat) (x1 : Int32) (h : hp_H) : Option (hp_H) := gd h x0 5 ((f_X5_isSign x0 x1 h).bind fun r1 => if r1.1 = 0 then ((f_X5_fail x0 1 r1.2).bind fun r2 => f_X5_pass_13 x0 r2) else (f_X5_pass_13 x0 r1.2))
set_option maxRecDepth 20000 in
theorem c_X5_pass (l : Launch) (x0 : Nat) (x1 : Int32) (h : hp_H) (r : hp_H) (hf : f_X5_pass x0 x1 h = some r) : cv l (6) yX5_pass cX5_pass 2 none 5 x0 [.int x1] h none r := by
  unfold f_X5_pass at hf
  refine cv_of (lv := [(0, .ref x0), (1, .int x1)]) hf (by decide +kernel) (Nat.le_of_ble_eq_true rfl) rfl (fun hf p e s m args below meth c G X => ?_)
  refine wk_aload_n X dX5_pass_0 0 rfl ?_
  refine wk_iload_n X dX5_pass_1 1 rfl ?_
  refine wk_callVi X [.int x1] [] dX5_pass_2 rfl vo_X5_162 rfl (by decide) (Nat.le_of_ble_eq_true rfl) hf (c_X5_isSign l _ _ _) (fun r1 hf => ?_)
  refine wk_if_ne X 13 dX5_pass_5 (by decide) hf (fun hf => ?_) (fun hf => ?_)
  · exact wq_sub [0] rfl (w_X5_pass_13 X _ _ hf)
  · refine wk_aload_n X dX5_pass_8 0 rfl ?_
    refine wk_iconst X dX5_pass_9 ic_1 ?_
    refine wk_callVv X [.int 1] [] dX5_pass_10 rfl vo_X5_129 rfl (by decide) (Nat.le_of_ble_eq_true rfl) hf (c_X5_fail l _ _ _) (fun r2 hf => ?_)
    exact wq_sub [0] rfl (w_X5_pass_13 X _ _ hf)
