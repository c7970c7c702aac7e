theorem ib_66 : (Int8.ofInt 66).toInt32 = 66 := by decide
theorem is_320 : (Int16.ofInt 320).toInt32 = 320 := by decide
theorem is_384 : (Int16.ofInt 384).toInt32 = 384 := by decide
theorem is_768 : (Int16.ofInt 768).toInt32 = 768 := by decide
theorem is_950 : (Int16.ofInt 950).toInt32 = 950 := by decide
theorem is_1400 : (Int16.ofInt 1400).toInt32 = 1400 := by decide
theorem nw_X0_9 : nw_ok RX0 9 2 1 [.null] := ⟨RX2, TX2, tyX2, rfl, mf_X2, tyX2_ok, mq_X0_9, mj_X2, mk_X2, by decide +kernel, fun v hv G => by simp only [List.mem_cons, List.not_mem_nil, or_false] at hv; rcases hv with rfl <;> rfl⟩
theorem nw_X1_27 : nw_ok RX1 27 2 1 [.null] := ⟨RX2, TX2, tyX2, rfl, mf_X2, tyX2_ok, mq_X1_27, mj_X2, mk_X2, by decide +kernel, fun v hv G => by simp only [List.mem_cons, List.not_mem_nil, or_false] at hv; rcases hv with rfl <;> rfl⟩
theorem nw_X1_36 : nw_ok RX1 36 6 4 [.null, .null, .null, .int 0] := ⟨RX6, TX6, tyX6, rfl, mf_X6, tyX6_ok, mq_X1_36, mj_X6, mk_X6, by decide +kernel, fun v hv G => by simp only [List.mem_cons, List.not_mem_nil, or_false] at hv; rcases hv with rfl | rfl | rfl | rfl <;> rfl⟩
theorem nw_X10_7 : nw_ok RX10 7 2 1 [.null] := ⟨RX2, TX2, tyX2, rfl, mf_X2, tyX2_ok, mq_X10_7, mj_X2, mk_X2, by decide +kernel, fun v hv G => by simp only [List.mem_cons, List.not_mem_nil, or_false] at hv; rcases hv with rfl <;> rfl⟩
theorem nw_X10_28 : nw_ok RX10 28 1 7 [.int 0, .int 0, .int 0, .int 0, .int 0, .null, .null] := ⟨RX1, TX1, tyX1, rfl, mf_X1, tyX1_ok, mq_X10_28, mj_X1, mk_X1, by decide +kernel, fun v hv G => by simp only [List.mem_cons, List.not_mem_nil, or_false] at hv; rcases hv with rfl | rfl | rfl | rfl | rfl | rfl | rfl <;> rfl⟩
theorem nw_X10_35 : nw_ok RX10 35 8 3 [.null, .null, .null] := ⟨RX8, TX8, tyX8, rfl, mf_X8, tyX8_ok, mq_X10_35, mj_X8, mk_X8, by decide +kernel, fun v hv G => by simp only [List.mem_cons, List.not_mem_nil, or_false] at hv; rcases hv with rfl | rfl | rfl <;> rfl⟩
theorem nw_X10_56 : nw_ok RX10 56 3 6 [.null, .int 0, .null, .null, .null, .null] := ⟨RX3, TX3, tyX3, rfl, mf_X3, tyX3_ok, mq_X10_56, mj_X3, mk_X3, by decide +kernel, fun v hv G => by simp only [List.mem_cons, List.not_mem_nil, or_false] at hv; rcases hv with rfl | rfl | rfl | rfl | rfl | rfl <;> rfl⟩
theorem nw_X10_62 : nw_ok RX10 62 5 12 [.null, .null, .int 0, .int 0, .null, .int 0, .int 0, .int 0, .int 0, .int 0, .int 0, .int 0] := ⟨RX5, TX5, tyX5, rfl, mf_X5, tyX5_ok, mq_X10_62, mj_X5, mk_X5, by decide +kernel, fun v hv G => by simp only [List.mem_cons, List.not_mem_nil, or_false] at hv; rcases hv with rfl | rfl | rfl | rfl | rfl | rfl | rfl | rfl | rfl | rfl | rfl | rfl <;> rfl⟩
theorem nw_X10_71 : nw_ok RX10 71 9 4 [.null, .null, .null, .int 0] := ⟨RX9, TX9, tyX9, rfl, mf_X9, tyX9_ok, mq_X10_71, mj_X9, mk_X9, by decide +kernel, fun v hv G => by simp only [List.mem_cons, List.not_mem_nil, or_false] at hv; rcases hv with rfl | rfl | rfl | rfl <;> rfl⟩
theorem nw_X10_78 : nw_ok RX10 78 4 4 [.null, .null, .null, .int 0] := ⟨RX4, TX4, tyX4, rfl, mf_X4, tyX4_ok, mq_X10_78, mj_X4, mk_X4, by decide +kernel, fun v hv G => by simp only [List.mem_cons, List.not_mem_nil, or_false] at hv; rcases hv with rfl | rfl | rfl | rfl <;> rfl⟩
theorem nw_X3_15 : nw_ok RX3 15 2 1 [.null] := ⟨RX2, TX2, tyX2, rfl, mf_X2, tyX2_ok, mq_X3_15, mj_X2, mk_X2, by decide +kernel, fun v hv G => by simp only [List.mem_cons, List.not_mem_nil, or_false] at hv; rcases hv with rfl <;> rfl⟩
theorem nw_X4_9 : nw_ok RX4 9 2 1 [.null] := ⟨RX2, TX2, tyX2, rfl, mf_X2, tyX2_ok, mq_X4_9, mj_X2, mk_X2, by decide +kernel, fun v hv G => by simp only [List.mem_cons, List.not_mem_nil, or_false] at hv; rcases hv with rfl <;> rfl⟩
theorem nw_X5_9 : nw_ok RX5 9 1 7 [.int 0, .int 0, .int 0, .int 0, .int 0, .null, .null] := ⟨RX1, TX1, tyX1, rfl, mf_X1, tyX1_ok, mq_X5_9, mj_X1, mk_X1, by decide +kernel, fun v hv G => by simp only [List.mem_cons, List.not_mem_nil, or_false] at hv; rcases hv with rfl | rfl | rfl | rfl | rfl | rfl | rfl <;> rfl⟩
theorem nw_X5_18 : nw_ok RX5 18 3 6 [.null, .int 0, .null, .null, .null, .null] := ⟨RX3, TX3, tyX3, rfl, mf_X3, tyX3_ok, mq_X5_18, mj_X3, mk_X3, by decide +kernel, fun v hv G => by simp only [List.mem_cons, List.not_mem_nil, or_false] at hv; rcases hv with rfl | rfl | rfl | rfl | rfl | rfl <;> rfl⟩
theorem nw_X6_9 : nw_ok RX6 9 2 1 [.null] := ⟨RX2, TX2, tyX2, rfl, mf_X2, tyX2_ok, mq_X6_9, mj_X2, mk_X2, by decide +kernel, fun v hv G => by simp only [List.mem_cons, List.not_mem_nil, or_false] at hv; rcases hv with rfl <;> rfl⟩
theorem nw_X7_9 : nw_ok RX7 9 2 1 [.null] := ⟨RX2, TX2, tyX2, rfl, mf_X2, tyX2_ok, mq_X7_9, mj_X2, mk_X2, by decide +kernel, fun v hv G => by simp only [List.mem_cons, List.not_mem_nil, or_false] at hv; rcases hv with rfl <;> rfl⟩
theorem nw_X8_7 : nw_ok RX8 7 0 5 [.null, .null, .null, .null, .int 0] := ⟨RX0, TX0, tyX0, rfl, mf_X0, tyX0_ok, mq_X8_7, mj_X0, mk_X0, by decide +kernel, fun v hv G => by simp only [List.mem_cons, List.not_mem_nil, or_false] at hv; rcases hv with rfl | rfl | rfl | rfl | rfl <;> rfl⟩
theorem nw_X8_16 : nw_ok RX8 16 7 5 [.null, .null, .null, .null, .int 0] := ⟨RX7, TX7, tyX7, rfl, mf_X7, tyX7_ok, mq_X8_16, mj_X7, mk_X7, by decide +kernel, fun v hv G => by simp only [List.mem_cons, List.not_mem_nil, or_false] at hv; rcases hv with rfl | rfl | rfl | rfl | rfl <;> rfl⟩
theorem nw_X8_23 : nw_ok RX8 23 3 6 [.null, .int 0, .null, .null, .null, .null] := ⟨RX3, TX3, tyX3, rfl, mf_X3, tyX3_ok, mq_X8_23, mj_X3, mk_X3, by decide +kernel, fun v hv G => by simp only [List.mem_cons, List.not_mem_nil, or_false] at hv; rcases hv with rfl | rfl | rfl | rfl | rfl | rfl <;> rfl⟩
theorem nw_X9_9 : nw_ok RX9 9 2 1 [.null] := ⟨RX2, TX2, tyX2, rfl, mf_X2, tyX2_ok, mq_X9_9, mj_X2, mk_X2, by decide +kernel, fun v hv G => by simp only [List.mem_cons, List.not_mem_nil, or_false] at hv; rcases hv with rfl <;> rfl⟩
theorem io_X10_11 : ic_ok RX10 11 yX2_init cX2_init 2 1 := ⟨⟨Or.inl ml_X10_11, mi_X2_init, mk_X2, mc_X2_init⟩, by decide, rfl, by decide +kernel, by decide +kernel, by decide +kernel⟩
theorem io_X10_30 : ic_ok RX10 30 yX1_init cX1_init 1 0 := ⟨⟨Or.inr ⟨"NightMarch", by decide +kernel⟩, mi_X1_init, mk_X1, mc_X1_init⟩, by decide, rfl, by decide +kernel, by decide +kernel, by decide +kernel⟩
theorem io_X10_37 : ic_ok RX10 37 yX8_init cX8_init 2 1 := ⟨⟨Or.inl ml_X10_37, mi_X8_init, mk_X8, mc_X8_init⟩, by decide, rfl, by decide +kernel, by decide +kernel, by decide +kernel⟩
theorem io_X10_58 : ic_ok RX10 58 yX3_init cX3_init 2 1 := ⟨⟨Or.inl ml_X10_58, mi_X3_init, mk_X3, mc_X3_init⟩, by decide, rfl, by decide +kernel, by decide +kernel, by decide +kernel⟩
theorem io_X10_64 : ic_ok RX10 64 yX5_init cX5_init 2 1 := ⟨⟨Or.inl ml_X10_64, mi_X5_init, mk_X5, mc_X5_init⟩, by decide, rfl, by decide +kernel, by decide +kernel, by decide +kernel⟩
theorem io_X10_73 : ic_ok RX10 73 yX9_init cX9_init 1 0 := ⟨⟨Or.inr ⟨"NightMarch", by decide +kernel⟩, mi_X9_init, mk_X9, mc_X9_init⟩, by decide, rfl, by decide +kernel, by decide +kernel, by decide +kernel⟩
theorem io_X10_80 : ic_ok RX10 80 yX4_init cX4_init 1 0 := ⟨⟨Or.inr ⟨"NightMarch", by decide +kernel⟩, mi_X4_init, mk_X4, mc_X4_init⟩, by decide, rfl, by decide +kernel, by decide +kernel, by decide +kernel⟩
theorem io_X0_11 : ic_ok RX0 11 yX2_init cX2_init 2 1 := ⟨⟨Or.inl ml_X0_11, mi_X2_init, mk_X2, mc_X2_init⟩, by decide, rfl, by decide +kernel, by decide +kernel, by decide +kernel⟩
theorem io_X1_29 : ic_ok RX1 29 yX2_init cX2_init 2 1 := ⟨⟨Or.inl ml_X1_29, mi_X2_init, mk_X2, mc_X2_init⟩, by decide, rfl, by decide +kernel, by decide +kernel, by decide +kernel⟩
theorem io_X1_38 : ic_ok RX1 38 yX6_init cX6_init 1 0 := ⟨⟨Or.inr ⟨"NightMarch", by decide +kernel⟩, mi_X6_init, mk_X6, mc_X6_init⟩, by decide, rfl, by decide +kernel, by decide +kernel, by decide +kernel⟩
theorem io_X3_17 : ic_ok RX3 17 yX2_init cX2_init 2 1 := ⟨⟨Or.inl ml_X3_17, mi_X2_init, mk_X2, mc_X2_init⟩, by decide, rfl, by decide +kernel, by decide +kernel, by decide +kernel⟩
theorem io_X4_13 : ic_ok RX4 13 yX2_init cX2_init 2 1 := ⟨⟨Or.inl ml_X4_13, mi_X2_init, mk_X2, mc_X2_init⟩, by decide, rfl, by decide +kernel, by decide +kernel, by decide +kernel⟩
theorem io_X5_11 : ic_ok RX5 11 yX1_init cX1_init 1 0 := ⟨⟨Or.inr ⟨"NightMarch", by decide +kernel⟩, mi_X1_init, mk_X1, mc_X1_init⟩, by decide, rfl, by decide +kernel, by decide +kernel, by decide +kernel⟩
theorem io_X5_20 : ic_ok RX5 20 yX3_init cX3_init 2 1 := ⟨⟨Or.inl ml_X5_20, mi_X3_init, mk_X3, mc_X3_init⟩, by decide, rfl, by decide +kernel, by decide +kernel, by decide +kernel⟩
theorem io_X6_11 : ic_ok RX6 11 yX2_init cX2_init 2 1 := ⟨⟨Or.inl ml_X6_11, mi_X2_init, mk_X2, mc_X2_init⟩, by decide, rfl, by decide +kernel, by decide +kernel, by decide +kernel⟩
theorem io_X7_11 : ic_ok RX7 11 yX2_init cX2_init 2 1 := ⟨⟨Or.inl ml_X7_11, mi_X2_init, mk_X2, mc_X2_init⟩, by decide, rfl, by decide +kernel, by decide +kernel, by decide +kernel⟩
theorem io_X8_9 : ic_ok RX8 9 yX0_init cX0_init 1 0 := ⟨⟨Or.inr ⟨"NightMarch", by decide +kernel⟩, mi_X0_init, mk_X0, mc_X0_init⟩, by decide, rfl, by decide +kernel, by decide +kernel, by decide +kernel⟩
theorem io_X8_18 : ic_ok RX8 18 yX7_init cX7_init 1 0 := ⟨⟨Or.inr ⟨"NightMarch", by decide +kernel⟩, mi_X7_init, mk_X7, mc_X7_init⟩, by decide, rfl, by decide +kernel, by decide +kernel, by decide +kernel⟩
theorem io_X8_25 : ic_ok RX8 25 yX3_init cX3_init 2 1 := ⟨⟨Or.inl ml_X8_25, mi_X3_init, mk_X3, mc_X3_init⟩, by decide, rfl, by decide +kernel, by decide +kernel, by decide +kernel⟩
theorem io_X9_11 : ic_ok RX9 11 yX2_init cX2_init 2 1 := ⟨⟨Or.inl ml_X9_11, mi_X2_init, mk_X2, mc_X2_init⟩, by decide, rfl, by decide +kernel, by decide +kernel, by decide +kernel⟩
/-- Cells(int): an array of so many ints, none below 0 -/
def f_X2_init (x0 N : Nat) (h : hp_H) : Option hp_H := (nw_A h 0 N).bind fun r1 => (wr_R r1.2 x0 2 0 r1.1).bind fun h2 => some h2
set_option maxRecDepth 20000 in
theorem c_X2_init (l : Launch) (x0 : Nat) (x1 : Int32) (N : Nat) (hN : (hp_max x1 0).toNatClampNeg = N) (hn : ¬ hp_max x1 0 < 0) (hb : N ≤ 1000000) (h r : hp_H) (hf : f_X2_init x0 N h = some r) : mi l 2 1 N yX2_init cX2_init 2 [.ref x0, .int x1] h r := by
  unfold f_X2_init at hf
  refine mi_of (lv := [(0, .ref x0), (1, .int x1)]) (by decide +kernel) rfl (Nat.le_of_ble_eq_true rfl) rfl (fun p e s m args below meth c G hin X => ?_)
  refine wt_aload_n X dX2_init_0 0 rfl ?_
  refine wt_objInit X dX2_init_1 ml_X2_1 (by decide) (Nat.le_of_ble_eq_true rfl) ?_
  refine wt_aload_n X dX2_init_4 0 rfl ?_
  refine wt_iload_n X dX2_init_5 1 rfl ?_
  refine wt_iconst X dX2_init_6 ic_0 ?_
  refine wt_max X dX2_init_7 ml_X2_7 (by decide) (Nat.le_of_ble_eq_true rfl) ⟨Nat.zero_le _, Nat.zero_le _⟩ ?_
  refine wt_newaIB X dX2_init_10 hN hn hb ⟨Nat.le_refl _, by omega⟩ hf (fun r1 hf => ?_)
  refine wt_putR X hin dX2_init_12 fo_X2_13 (fun C T N e => by cases e; rfl) (fun _ => ⟨rfl, rfl⟩) hf (fun h2 hf => ?_)
  refine wt_eq (by omega) (by omega) (wt_return X dX2_init_15 hf)
def f_X6_init (x0 : Nat) (h : hp_H) : Option hp_H := (nw_O h 2 [.null]).bind fun r4 => (f_X2_init r4.1 64 r4.2).bind fun r7 => (wr_R r7 x0 6 0 r4.1).bind fun h8 => (nw_O h8 2 [.null]).bind fun r10 => (f_X2_init r10.1 700 r10.2).bind fun r13 => (wr_R r13 x0 6 1 r10.1).bind fun h14 => (nw_O h14 2 [.null]).bind fun r16 => (f_X2_init r16.1 6 r16.2).bind fun r19 => (wr_R r19 x0 6 2 r16.1).bind fun h20 => (wr_I h20 x0 6 3 0).bind fun h23 => some h23
set_option maxRecDepth 20000 in
theorem c_X6_init (l : Launch) (x0 : Nat) (h r : hp_H) (hf : f_X6_init x0 h = some r) : mi l 3 6 773 yX6_init cX6_init 1 [.ref x0] h r := by
  unfold f_X6_init at hf
  refine mi_of (lv := [(0, .ref x0)]) (by decide +kernel) rfl (Nat.le_of_ble_eq_true rfl) rfl (fun p e s m args below meth c G hin X => ?_)
  refine wt_aload_n X dX6_init_0 0 rfl ?_
  refine wt_objInit X dX6_init_1 ml_X6_3 (by decide) (Nat.le_of_ble_eq_true rfl) ?_
  refine wt_aload_n X dX6_init_4 0 rfl ?_
  refine wt_newB X dX6_init_5 nw_X6_9 (by decide) hf (fun r4 hf => ?_)
  refine wt_dup X dX6_init_8 rfl ?_
  refine wt_bipush X dX6_init_9 ib_64 ?_
  refine wt_callIv (mc := 1) (ms := 64) X [.int 64] [.ref r4.1, .ref x0] dX6_init_11 rfl io_X6_11 rfl (by decide) (Nat.le_of_ble_eq_true rfl) (by decide) hf (fun r hr => c_X2_init l _ 64 64 (by decide) (by decide) (by decide) _ r hr) (fun r7 hf => ?_)
  refine wt_putR X hin dX6_init_14 fo_X6_14 (fun C T N e => by cases e; rfl) (fun _ => ⟨rfl, rfl⟩) hf (fun h8 hf => ?_)
  refine wt_aload_n X dX6_init_17 0 rfl ?_
  refine wt_newB X dX6_init_18 nw_X6_9 (by decide) hf (fun r10 hf => ?_)
  refine wt_dup X dX6_init_21 rfl ?_
  refine wt_sipush X dX6_init_22 is_700 ?_
  refine wt_callIv (mc := 1) (ms := 700) X [.int 700] [.ref r10.1, .ref x0] dX6_init_25 rfl io_X6_11 rfl (by decide) (Nat.le_of_ble_eq_true rfl) (by decide) hf (fun r hr => c_X2_init l _ 700 700 (by decide) (by decide) (by decide) _ r hr) (fun r13 hf => ?_)
  refine wt_putR X hin dX6_init_28 fo_X6_20 (fun C T N e => by cases e; rfl) (fun _ => ⟨rfl, rfl⟩) hf (fun h14 hf => ?_)
  refine wt_aload_n X dX6_init_31 0 rfl ?_
  refine wt_newB X dX6_init_32 nw_X6_9 (by decide) hf (fun r16 hf => ?_)
  refine wt_dup X dX6_init_35 rfl ?_
  refine wt_bipush X dX6_init_36 ib_6 ?_
  refine wt_callIv (mc := 1) (ms := 6) X [.int 6] [.ref r16.1, .ref x0] dX6_init_38 rfl io_X6_11 rfl (by decide) (Nat.le_of_ble_eq_true rfl) (by decide) hf (fun r hr => c_X2_init l _ 6 6 (by decide) (by decide) (by decide) _ r hr) (fun r19 hf => ?_)
  refine wt_putR X hin dX6_init_41 fo_X6_23 (fun C T N e => by cases e; rfl) (fun _ => ⟨rfl, rfl⟩) hf (fun h20 hf => ?_)
  refine wt_aload_n X dX6_init_44 0 rfl ?_
  refine wt_iconst X dX6_init_45 ic_0 ?_
  refine wt_putI X dX6_init_46 fo_X6_26 hf (fun h23 hf => ?_)
  exact wt_return X dX6_init_49 hf
def f_X1_init (x0 : Nat) (h : hp_H) : Option hp_H := (wr_I h x0 1 0 8).bind fun h5 => (wr_I h5 x0 1 1 0).bind fun h8 => (wr_I h8 x0 1 2 0).bind fun h11 => (wr_I h11 x0 1 3 2).bind fun h14 => (wr_I h14 x0 1 4 0).bind fun h17 => (nw_O h17 2 [.null]).bind fun r19 => (f_X2_init r19.1 8 r19.2).bind fun r22 => (wr_R r22 x0 1 5 r19.1).bind fun h23 => (nw_O h23 6 [.null, .null, .null, .int 0]).bind fun r25 => (f_X6_init r25.1 r25.2).bind fun r27 => (wr_R r27 x0 1 6 r25.1).bind fun h28 => some h28
set_option maxRecDepth 20000 in
theorem c_X1_init (l : Launch) (x0 : Nat) (h r : hp_H) (hf : f_X1_init x0 h = some r) : mi l 4 9 786 yX1_init cX1_init 1 [.ref x0] h r := by
  unfold f_X1_init at hf
  refine mi_of (lv := [(0, .ref x0)]) (by decide +kernel) rfl (Nat.le_of_ble_eq_true rfl) rfl (fun p e s m args below meth c G hin X => ?_)
  refine wt_aload_n X dX1_init_0 0 rfl ?_
  refine wt_objInit X dX1_init_1 ml_X1_3 (by decide) (Nat.le_of_ble_eq_true rfl) ?_
  refine wt_aload_n X dX1_init_4 0 rfl ?_
  refine wt_bipush X dX1_init_5 ib_8 ?_
  refine wt_putI X dX1_init_7 fo_X1_9 hf (fun h5 hf => ?_)
  refine wt_aload_n X dX1_init_10 0 rfl ?_
  refine wt_iconst X dX1_init_11 ic_0 ?_
  refine wt_putI X dX1_init_12 fo_X1_15 hf (fun h8 hf => ?_)
  refine wt_aload_n X dX1_init_15 0 rfl ?_
  refine wt_iconst X dX1_init_16 ic_0 ?_
  refine wt_putI X dX1_init_17 fo_X1_18 hf (fun h11 hf => ?_)
  refine wt_aload_n X dX1_init_20 0 rfl ?_
  refine wt_iconst X dX1_init_21 ic_2 ?_
  refine wt_putI X dX1_init_22 fo_X1_21 hf (fun h14 hf => ?_)
  refine wt_aload_n X dX1_init_25 0 rfl ?_
  refine wt_iconst X dX1_init_26 ic_0 ?_
  refine wt_putI X dX1_init_27 fo_X1_24 hf (fun h17 hf => ?_)
  refine wt_aload_n X dX1_init_30 0 rfl ?_
  refine wt_newB X dX1_init_31 nw_X1_27 (by decide) hf (fun r19 hf => ?_)
  refine wt_dup X dX1_init_34 rfl ?_
  refine wt_bipush X dX1_init_35 ib_8 ?_
  refine wt_callIv (mc := 1) (ms := 8) X [.int 8] [.ref r19.1, .ref x0] dX1_init_37 rfl io_X1_29 rfl (by decide) (Nat.le_of_ble_eq_true rfl) (by decide) hf (fun r hr => c_X2_init l _ 8 8 (by decide) (by decide) (by decide) _ r hr) (fun r22 hf => ?_)
  refine wt_putR X hin dX1_init_40 fo_X1_32 (fun C T N e => by cases e; rfl) (fun _ => ⟨rfl, rfl⟩) hf (fun h23 hf => ?_)
  refine wt_aload_n X dX1_init_43 0 rfl ?_
  refine wt_newB X dX1_init_44 nw_X1_36 (by decide) hf (fun r25 hf => ?_)
  refine wt_dup X dX1_init_47 rfl ?_
  refine wt_callIv (mc := 6) (ms := 773) X [] [.ref r25.1, .ref x0] dX1_init_48 rfl io_X1_38 rfl (by decide) (Nat.le_of_ble_eq_true rfl) (by decide) hf (c_X6_init l _ _) (fun r27 hf => ?_)
  refine wt_putR X hin dX1_init_51 fo_X1_39 (fun C T N e => by cases e; rfl) (fun _ => ⟨rfl, rfl⟩) hf (fun h28 hf => ?_)
  exact wt_return X dX1_init_54 hf
def f_X0_init (x0 : Nat) (h : hp_H) : Option hp_H := (nw_O h 2 [.null]).bind fun r4 => (f_X2_init r4.1 40 r4.2).bind fun r7 => (wr_R r7 x0 0 0 r4.1).bind fun h8 => (nw_O h8 2 [.null]).bind fun r10 => (f_X2_init r10.1 40 r10.2).bind fun r13 => (wr_R r13 x0 0 1 r10.1).bind fun h14 => (nw_O h14 2 [.null]).bind fun r16 => (f_X2_init r16.1 40 r16.2).bind fun r19 => (wr_R r19 x0 0 2 r16.1).bind fun h20 => (nw_O h20 2 [.null]).bind fun r22 => (f_X2_init r22.1 320 r22.2).bind fun r25 => (wr_R r25 x0 0 3 r22.1).bind fun h26 => (wr_I h26 x0 0 4 0).bind fun h29 => some h29
set_option maxRecDepth 20000 in
theorem c_X0_init (l : Launch) (x0 : Nat) (h r : hp_H) (hf : f_X0_init x0 h = some r) : mi l 3 8 444 yX0_init cX0_init 1 [.ref x0] h r := by
  unfold f_X0_init at hf
  refine mi_of (lv := [(0, .ref x0)]) (by decide +kernel) rfl (Nat.le_of_ble_eq_true rfl) rfl (fun p e s m args below meth c G hin X => ?_)
  refine wt_aload_n X dX0_init_0 0 rfl ?_
  refine wt_objInit X dX0_init_1 ml_X0_3 (by decide) (Nat.le_of_ble_eq_true rfl) ?_
  refine wt_aload_n X dX0_init_4 0 rfl ?_
  refine wt_newB X dX0_init_5 nw_X0_9 (by decide) hf (fun r4 hf => ?_)
  refine wt_dup X dX0_init_8 rfl ?_
  refine wt_bipush X dX0_init_9 ib_40 ?_
  refine wt_callIv (mc := 1) (ms := 40) X [.int 40] [.ref r4.1, .ref x0] dX0_init_11 rfl io_X0_11 rfl (by decide) (Nat.le_of_ble_eq_true rfl) (by decide) hf (fun r hr => c_X2_init l _ 40 40 (by decide) (by decide) (by decide) _ r hr) (fun r7 hf => ?_)
  refine wt_putR X hin dX0_init_14 fo_X0_14 (fun C T N e => by cases e; rfl) (fun _ => ⟨rfl, rfl⟩) hf (fun h8 hf => ?_)
  refine wt_aload_n X dX0_init_17 0 rfl ?_
  refine wt_newB X dX0_init_18 nw_X0_9 (by decide) hf (fun r10 hf => ?_)
  refine wt_dup X dX0_init_21 rfl ?_
  refine wt_bipush X dX0_init_22 ib_40 ?_
  refine wt_callIv (mc := 1) (ms := 40) X [.int 40] [.ref r10.1, .ref x0] dX0_init_24 rfl io_X0_11 rfl (by decide) (Nat.le_of_ble_eq_true rfl) (by decide) hf (fun r hr => c_X2_init l _ 40 40 (by decide) (by decide) (by decide) _ r hr) (fun r13 hf => ?_)
  refine wt_putR X hin dX0_init_27 fo_X0_20 (fun C T N e => by cases e; rfl) (fun _ => ⟨rfl, rfl⟩) hf (fun h14 hf => ?_)
  refine wt_aload_n X dX0_init_30 0 rfl ?_
  refine wt_newB X dX0_init_31 nw_X0_9 (by decide) hf (fun r16 hf => ?_)
  refine wt_dup X dX0_init_34 rfl ?_
  refine wt_bipush X dX0_init_35 ib_40 ?_
  refine wt_callIv (mc := 1) (ms := 40) X [.int 40] [.ref r16.1, .ref x0] dX0_init_37 rfl io_X0_11 rfl (by decide) (Nat.le_of_ble_eq_true rfl) (by decide) hf (fun r hr => c_X2_init l _ 40 40 (by decide) (by decide) (by decide) _ r hr) (fun r19 hf => ?_)
  refine wt_putR X hin dX0_init_40 fo_X0_23 (fun C T N e => by cases e; rfl) (fun _ => ⟨rfl, rfl⟩) hf (fun h20 hf => ?_)
  refine wt_aload_n X dX0_init_43 0 rfl ?_
  refine wt_newB X dX0_init_44 nw_X0_9 (by decide) hf (fun r22 hf => ?_)
  refine wt_dup X dX0_init_47 rfl ?_
  refine wt_sipush X dX0_init_48 is_320 ?_
  refine wt_callIv (mc := 1) (ms := 320) X [.int 320] [.ref r22.1, .ref x0] dX0_init_51 rfl io_X0_11 rfl (by decide) (Nat.le_of_ble_eq_true rfl) (by decide) hf (fun r hr => c_X2_init l _ 320 320 (by decide) (by decide) (by decide) _ r hr) (fun r25 hf => ?_)
  refine wt_putR X hin dX0_init_54 fo_X0_26 (fun C T N e => by cases e; rfl) (fun _ => ⟨rfl, rfl⟩) hf (fun h26 hf => ?_)
  refine wt_aload_n X dX0_init_57 0 rfl ?_
  refine wt_iconst X dX0_init_58 ic_0 ?_
  refine wt_putI X dX0_init_59 fo_X0_29 hf (fun h29 hf => ?_)
  exact wt_return X dX0_init_62 hf
def f_X7_init (x0 : Nat) (h : hp_H) : Option hp_H := (nw_O h 2 [.null]).bind fun r4 => (f_X2_init r4.1 8 r4.2).bind fun r7 => (wr_R r7 x0 7 0 r4.1).bind fun h8 => (nw_O h8 2 [.null]).bind fun r10 => (f_X2_init r10.1 8 r10.2).bind fun r13 => (wr_R r13 x0 7 1 r10.1).bind fun h14 => (nw_O h14 2 [.null]).bind fun r16 => (f_X2_init r16.1 8 r16.2).bind fun r19 => (wr_R r19 x0 7 2 r16.1).bind fun h20 => (nw_O h20 2 [.null]).bind fun r22 => (f_X2_init r22.1 8 r22.2).bind fun r25 => (wr_R r25 x0 7 3 r22.1).bind fun h26 => (wr_I h26 x0 7 4 0).bind fun h29 => some h29
set_option maxRecDepth 20000 in
theorem c_X7_init (l : Launch) (x0 : Nat) (h r : hp_H) (hf : f_X7_init x0 h = some r) : mi l 3 8 36 yX7_init cX7_init 1 [.ref x0] h r := by
  unfold f_X7_init at hf
  refine mi_of (lv := [(0, .ref x0)]) (by decide +kernel) rfl (Nat.le_of_ble_eq_true rfl) rfl (fun p e s m args below meth c G hin X => ?_)
  refine wt_aload_n X dX7_init_0 0 rfl ?_
  refine wt_objInit X dX7_init_1 ml_X7_3 (by decide) (Nat.le_of_ble_eq_true rfl) ?_
  refine wt_aload_n X dX7_init_4 0 rfl ?_
  refine wt_newB X dX7_init_5 nw_X7_9 (by decide) hf (fun r4 hf => ?_)
  refine wt_dup X dX7_init_8 rfl ?_
  refine wt_bipush X dX7_init_9 ib_8 ?_
  refine wt_callIv (mc := 1) (ms := 8) X [.int 8] [.ref r4.1, .ref x0] dX7_init_11 rfl io_X7_11 rfl (by decide) (Nat.le_of_ble_eq_true rfl) (by decide) hf (fun r hr => c_X2_init l _ 8 8 (by decide) (by decide) (by decide) _ r hr) (fun r7 hf => ?_)
  refine wt_putR X hin dX7_init_14 fo_X7_14 (fun C T N e => by cases e; rfl) (fun _ => ⟨rfl, rfl⟩) hf (fun h8 hf => ?_)
  refine wt_aload_n X dX7_init_17 0 rfl ?_
  refine wt_newB X dX7_init_18 nw_X7_9 (by decide) hf (fun r10 hf => ?_)
  refine wt_dup X dX7_init_21 rfl ?_
  refine wt_bipush X dX7_init_22 ib_8 ?_
  refine wt_callIv (mc := 1) (ms := 8) X [.int 8] [.ref r10.1, .ref x0] dX7_init_24 rfl io_X7_11 rfl (by decide) (Nat.le_of_ble_eq_true rfl) (by decide) hf (fun r hr => c_X2_init l _ 8 8 (by decide) (by decide) (by decide) _ r hr) (fun r13 hf => ?_)
  refine wt_putR X hin dX7_init_27 fo_X7_20 (fun C T N e => by cases e; rfl) (fun _ => ⟨rfl, rfl⟩) hf (fun h14 hf => ?_)
  refine wt_aload_n X dX7_init_30 0 rfl ?_
  refine wt_newB X dX7_init_31 nw_X7_9 (by decide) hf (fun r16 hf => ?_)
  refine wt_dup X dX7_init_34 rfl ?_
  refine wt_bipush X dX7_init_35 ib_8 ?_
  refine wt_callIv (mc := 1) (ms := 8) X [.int 8] [.ref r16.1, .ref x0] dX7_init_37 rfl io_X7_11 rfl (by decide) (Nat.le_of_ble_eq_true rfl) (by decide) hf (fun r hr => c_X2_init l _ 8 8 (by decide) (by decide) (by decide) _ r hr) (fun r19 hf => ?_)
  refine wt_putR X hin dX7_init_40 fo_X7_23 (fun C T N e => by cases e; rfl) (fun _ => ⟨rfl, rfl⟩) hf (fun h20 hf => ?_)
  refine wt_aload_n X dX7_init_43 0 rfl ?_
  refine wt_newB X dX7_init_44 nw_X7_9 (by decide) hf (fun r22 hf => ?_)
  refine wt_dup X dX7_init_47 rfl ?_
  refine wt_bipush X dX7_init_48 ib_8 ?_
  refine wt_callIv (mc := 1) (ms := 8) X [.int 8] [.ref r22.1, .ref x0] dX7_init_50 rfl io_X7_11 rfl (by decide) (Nat.le_of_ble_eq_true rfl) (by decide) hf (fun r hr => c_X2_init l _ 8 8 (by decide) (by decide) (by decide) _ r hr) (fun r25 hf => ?_)
  refine wt_putR X hin dX7_init_53 fo_X7_26 (fun C T N e => by cases e; rfl) (fun _ => ⟨rfl, rfl⟩) hf (fun h26 hf => ?_)
  refine wt_aload_n X dX7_init_56 0 rfl ?_
  refine wt_iconst X dX7_init_57 ic_0 ?_
  refine wt_putI X dX7_init_58 fo_X7_29 hf (fun h29 hf => ?_)
  exact wt_return X dX7_init_61 hf
def f_X3_init (x0 : Nat) (x1 : Nat) (h : hp_H) : Option hp_H := (wr_I h x0 3 1 0).bind fun h5 => (nw_O h5 2 [.null]).bind fun r7 => (f_X2_init r7.1 8 r7.2).bind fun r10 => (wr_R r10 x0 3 2 r7.1).bind fun h11 => (nw_O h11 2 [.null]).bind fun r13 => (f_X2_init r13.1 8 r13.2).bind fun r16 => (wr_R r16 x0 3 3 r13.1).bind fun h17 => (nw_O h17 2 [.null]).bind fun r19 => (f_X2_init r19.1 8 r19.2).bind fun r22 => (wr_R r22 x0 3 4 r19.1).bind fun h23 => (nw_O h23 2 [.null]).bind fun r25 => (f_X2_init r25.1 8 r25.2).bind fun r28 => (wr_R r28 x0 3 5 r25.1).bind fun h29 => (wr_R h29 x0 3 0 x1).bind fun h32 => some h32
set_option maxRecDepth 20000 in
theorem c_X3_init (l : Launch) (x0 : Nat) (x1 : Nat) (h r : hp_H) (hf : f_X3_init x0 x1 h = some r) : mi l 3 8 36 yX3_init cX3_init 2 [.ref x0, .ref x1] h r := by
  unfold f_X3_init at hf
  refine mi_of (lv := [(0, .ref x0), (1, .ref x1)]) (by decide +kernel) rfl (Nat.le_of_ble_eq_true rfl) rfl (fun p e s m args below meth c G hin X => ?_)
  refine wt_aload_n X dX3_init_0 0 rfl ?_
  refine wt_objInit X dX3_init_1 ml_X3_3 (by decide) (Nat.le_of_ble_eq_true rfl) ?_
  refine wt_aload_n X dX3_init_4 0 rfl ?_
  refine wt_iconst X dX3_init_5 ic_0 ?_
  refine wt_putI X dX3_init_6 fo_X3_9 hf (fun h5 hf => ?_)
  refine wt_aload_n X dX3_init_9 0 rfl ?_
  refine wt_newB X dX3_init_10 nw_X3_15 (by decide) hf (fun r7 hf => ?_)
  refine wt_dup X dX3_init_13 rfl ?_
  refine wt_bipush X dX3_init_14 ib_8 ?_
  refine wt_callIv (mc := 1) (ms := 8) X [.int 8] [.ref r7.1, .ref x0] dX3_init_16 rfl io_X3_17 rfl (by decide) (Nat.le_of_ble_eq_true rfl) (by decide) hf (fun r hr => c_X2_init l _ 8 8 (by decide) (by decide) (by decide) _ r hr) (fun r10 hf => ?_)
  refine wt_putR X hin dX3_init_19 fo_X3_20 (fun C T N e => by cases e; rfl) (fun _ => ⟨rfl, rfl⟩) hf (fun h11 hf => ?_)
  refine wt_aload_n X dX3_init_22 0 rfl ?_
  refine wt_newB X dX3_init_23 nw_X3_15 (by decide) hf (fun r13 hf => ?_)
  refine wt_dup X dX3_init_26 rfl ?_
  refine wt_bipush X dX3_init_27 ib_8 ?_
  refine wt_callIv (mc := 1) (ms := 8) X [.int 8] [.ref r13.1, .ref x0] dX3_init_29 rfl io_X3_17 rfl (by decide) (Nat.le_of_ble_eq_true rfl) (by decide) hf (fun r hr => c_X2_init l _ 8 8 (by decide) (by decide) (by decide) _ r hr) (fun r16 hf => ?_)
  refine wt_putR X hin dX3_init_32 fo_X3_24 (fun C T N e => by cases e; rfl) (fun _ => ⟨rfl, rfl⟩) hf (fun h17 hf => ?_)
  refine wt_aload_n X dX3_init_35 0 rfl ?_
  refine wt_newB X dX3_init_36 nw_X3_15 (by decide) hf (fun r19 hf => ?_)
  refine wt_dup X dX3_init_39 rfl ?_
  refine wt_bipush X dX3_init_40 ib_8 ?_
  refine wt_callIv (mc := 1) (ms := 8) X [.int 8] [.ref r19.1, .ref x0] dX3_init_42 rfl io_X3_17 rfl (by decide) (Nat.le_of_ble_eq_true rfl) (by decide) hf (fun r hr => c_X2_init l _ 8 8 (by decide) (by decide) (by decide) _ r hr) (fun r22 hf => ?_)
  refine wt_putR X hin dX3_init_45 fo_X3_27 (fun C T N e => by cases e; rfl) (fun _ => ⟨rfl, rfl⟩) hf (fun h23 hf => ?_)
  refine wt_aload_n X dX3_init_48 0 rfl ?_
  refine wt_newB X dX3_init_49 nw_X3_15 (by decide) hf (fun r25 hf => ?_)
  refine wt_dup X dX3_init_52 rfl ?_
  refine wt_bipush X dX3_init_53 ib_8 ?_
  refine wt_callIv (mc := 1) (ms := 8) X [.int 8] [.ref r25.1, .ref x0] dX3_init_55 rfl io_X3_17 rfl (by decide) (Nat.le_of_ble_eq_true rfl) (by decide) hf (fun r hr => c_X2_init l _ 8 8 (by decide) (by decide) (by decide) _ r hr) (fun r28 hf => ?_)
  refine wt_putR X hin dX3_init_58 fo_X3_30 (fun C T N e => by cases e; rfl) (fun _ => ⟨rfl, rfl⟩) hf (fun h29 hf => ?_)
  refine wt_aload_n X dX3_init_61 0 rfl ?_
  refine wt_aload_n X dX3_init_62 1 rfl ?_
  refine wt_putR X hin dX3_init_63 fo_X3_33 (fun C T N e => by cases e; rfl) (fun _ => ⟨rfl, rfl⟩) hf (fun h32 hf => ?_)
  exact wt_return X dX3_init_66 hf
def f_X8_init (x0 : Nat) (x1 : Nat) (h : hp_H) : Option hp_H := (nw_O h 0 [.null, .null, .null, .null, .int 0]).bind fun r4 => (f_X0_init r4.1 r4.2).bind fun r6 => (wr_R r6 x0 8 1 r4.1).bind fun h7 => (nw_O h7 7 [.null, .null, .null, .null, .int 0]).bind fun r9 => (f_X7_init r9.1 r9.2).bind fun r11 => (wr_R r11 x0 8 2 r9.1).bind fun h12 => (nw_O h12 3 [.null, .int 0, .null, .null, .null, .null]).bind fun r14 => (f_X3_init r14.1 x1 r14.2).bind fun r17 => (wr_R r17 x0 8 0 r14.1).bind fun h18 => some h18
set_option maxRecDepth 20000 in
theorem c_X8_init (l : Launch) (x0 : Nat) (x1 : Nat) (h r : hp_H) (hf : f_X8_init x0 x1 h = some r) : mi l 4 27 532 yX8_init cX8_init 2 [.ref x0, .ref x1] h r := by
  unfold f_X8_init at hf
  refine mi_of (lv := [(0, .ref x0), (1, .ref x1)]) (by decide +kernel) rfl (Nat.le_of_ble_eq_true rfl) rfl (fun p e s m args below meth c G hin X => ?_)
  refine wt_aload_n X dX8_init_0 0 rfl ?_
  refine wt_objInit X dX8_init_1 ml_X8_1 (by decide) (Nat.le_of_ble_eq_true rfl) ?_
  refine wt_aload_n X dX8_init_4 0 rfl ?_
  refine wt_newB X dX8_init_5 nw_X8_7 (by decide) hf (fun r4 hf => ?_)
  refine wt_dup X dX8_init_8 rfl ?_
  refine wt_callIv (mc := 8) (ms := 444) X [] [.ref r4.1, .ref x0] dX8_init_9 rfl io_X8_9 rfl (by decide) (Nat.le_of_ble_eq_true rfl) (by decide) hf (c_X0_init l _ _) (fun r6 hf => ?_)
  refine wt_putR X hin dX8_init_12 fo_X8_10 (fun C T N e => by cases e; rfl) (fun _ => ⟨rfl, rfl⟩) hf (fun h7 hf => ?_)
  refine wt_aload_n X dX8_init_15 0 rfl ?_
  refine wt_newB X dX8_init_16 nw_X8_16 (by decide) hf (fun r9 hf => ?_)
  refine wt_dup X dX8_init_19 rfl ?_
  refine wt_callIv (mc := 8) (ms := 36) X [] [.ref r9.1, .ref x0] dX8_init_20 rfl io_X8_18 rfl (by decide) (Nat.le_of_ble_eq_true rfl) (by decide) hf (c_X7_init l _ _) (fun r11 hf => ?_)
  refine wt_putR X hin dX8_init_23 fo_X8_19 (fun C T N e => by cases e; rfl) (fun _ => ⟨rfl, rfl⟩) hf (fun h12 hf => ?_)
  refine wt_aload_n X dX8_init_26 0 rfl ?_
  refine wt_newB X dX8_init_27 nw_X8_23 (by decide) hf (fun r14 hf => ?_)
  refine wt_dup X dX8_init_30 rfl ?_
  refine wt_aload_n X dX8_init_31 1 rfl ?_
  refine wt_callIv (mc := 8) (ms := 36) X [.ref x1] [.ref r14.1, .ref x0] dX8_init_32 rfl io_X8_25 rfl (by decide) (Nat.le_of_ble_eq_true rfl) (by decide) hf (c_X3_init l _ _ _) (fun r17 hf => ?_)
  refine wt_putR X hin dX8_init_35 fo_X8_28 (fun C T N e => by cases e; rfl) (fun _ => ⟨rfl, rfl⟩) hf (fun h18 hf => ?_)
  exact wt_return X dX8_init_38 hf
def f_X5_init (x0 : Nat) (x1 : Nat) (h : hp_H) : Option hp_H := (nw_O h 1 [.int 0, .int 0, .int 0, .int 0, .int 0, .null, .null]).bind fun r4 => (f_X1_init r4.1 r4.2).bind fun r6 => (wr_R r6 x0 5 0 r4.1).bind fun h7 => (nw_O h7 3 [.null, .int 0, .null, .null, .null, .null]).bind fun r9 => (rd_R r9.2 x0 5 0).bind fun v12 => (f_X3_init r9.1 v12 r9.2).bind fun r13 => (wr_R r13 x0 5 1 r9.1).bind fun h14 => (wr_I h14 x0 5 2 0).bind fun h17 => (wr_I h17 x0 5 3 (-1)).bind fun h20 => (wr_I h20 x0 5 5 0).bind fun h23 => (wr_I h23 x0 5 6 0).bind fun h26 => (wr_I h26 x0 5 7 0).bind fun h29 => (wr_I h29 x0 5 8 0).bind fun h32 => (wr_I h32 x0 5 9 0).bind fun h35 => (wr_I h35 x0 5 10 0).bind fun h38 => (wr_I h38 x0 5 11 0).bind fun h41 => (wr_R h41 x0 5 4 x1).bind fun h44 => some h44
set_option maxRecDepth 20000 in
theorem c_X5_init (l : Launch) (x0 : Nat) (x1 : Nat) (h r : hp_H) (hf : f_X5_init x0 x1 h = some r) : mi l 5 19 835 yX5_init cX5_init 2 [.ref x0, .ref x1] h r := by
  unfold f_X5_init at hf
  refine mi_of (lv := [(0, .ref x0), (1, .ref x1)]) (by decide +kernel) rfl (Nat.le_of_ble_eq_true rfl) rfl (fun p e s m args below meth c G hin X => ?_)
  refine wt_aload_n X dX5_init_0 0 rfl ?_
  refine wt_objInit X dX5_init_1 ml_X5_3 (by decide) (Nat.le_of_ble_eq_true rfl) ?_
  refine wt_aload_n X dX5_init_4 0 rfl ?_
  refine wt_newB X dX5_init_5 nw_X5_9 (by decide) hf (fun r4 hf => ?_)
  refine wt_dup X dX5_init_8 rfl ?_
  refine wt_callIv (mc := 9) (ms := 786) X [] [.ref r4.1, .ref x0] dX5_init_9 rfl io_X5_11 rfl (by decide) (Nat.le_of_ble_eq_true rfl) (by decide) hf (c_X1_init l _ _) (fun r6 hf => ?_)
  refine wt_putR X hin dX5_init_12 fo_X5_12 (fun C T N e => by cases e; rfl) (fun _ => ⟨rfl, rfl⟩) hf (fun h7 hf => ?_)
  refine wt_aload_n X dX5_init_15 0 rfl ?_
  refine wt_newB X dX5_init_16 nw_X5_18 (by decide) hf (fun r9 hf => ?_)
  refine wt_dup X dX5_init_19 rfl ?_
  refine wt_aload_n X dX5_init_20 0 rfl ?_
  refine wt_getR X dX5_init_21 fo_X5_12 hf (fun v12 hf => ?_)
  refine wt_callIv (mc := 8) (ms := 36) X [.ref v12] [.ref r9.1, .ref x0] dX5_init_24 rfl io_X5_20 rfl (by decide) (Nat.le_of_ble_eq_true rfl) (by decide) hf (c_X3_init l _ _ _) (fun r13 hf => ?_)
  refine wt_putR X hin dX5_init_27 fo_X5_23 (fun C T N e => by cases e; rfl) (fun _ => ⟨rfl, rfl⟩) hf (fun h14 hf => ?_)
  refine wt_aload_n X dX5_init_30 0 rfl ?_
  refine wt_iconst X dX5_init_31 ic_0 ?_
  refine wt_putI X dX5_init_32 fo_X5_27 hf (fun h17 hf => ?_)
  refine wt_aload_n X dX5_init_35 0 rfl ?_
  refine wt_iconst X dX5_init_36 ic_m1 ?_
  refine wt_putI X dX5_init_37 fo_X5_31 hf (fun h20 hf => ?_)
  refine wt_aload_n X dX5_init_40 0 rfl ?_
  refine wt_iconst X dX5_init_41 ic_0 ?_
  refine wt_putI X dX5_init_42 fo_X5_34 hf (fun h23 hf => ?_)
  refine wt_aload_n X dX5_init_45 0 rfl ?_
  refine wt_iconst X dX5_init_46 ic_0 ?_
  refine wt_putI X dX5_init_47 fo_X5_37 hf (fun h26 hf => ?_)
  refine wt_aload_n X dX5_init_50 0 rfl ?_
  refine wt_iconst X dX5_init_51 ic_0 ?_
  refine wt_putI X dX5_init_52 fo_X5_40 hf (fun h29 hf => ?_)
  refine wt_aload_n X dX5_init_55 0 rfl ?_
  refine wt_iconst X dX5_init_56 ic_0 ?_
  refine wt_putI X dX5_init_57 fo_X5_43 hf (fun h32 hf => ?_)
  refine wt_aload_n X dX5_init_60 0 rfl ?_
  refine wt_iconst X dX5_init_61 ic_0 ?_
  refine wt_putI X dX5_init_62 fo_X5_46 hf (fun h35 hf => ?_)
  refine wt_aload_n X dX5_init_65 0 rfl ?_
  refine wt_iconst X dX5_init_66 ic_0 ?_
  refine wt_putI X dX5_init_67 fo_X5_49 hf (fun h38 hf => ?_)
  refine wt_aload_n X dX5_init_70 0 rfl ?_
  refine wt_iconst X dX5_init_71 ic_0 ?_
  refine wt_putI X dX5_init_72 fo_X5_52 hf (fun h41 hf => ?_)
  refine wt_aload_n X dX5_init_75 0 rfl ?_
  refine wt_aload_n X dX5_init_76 1 rfl ?_
  refine wt_putR X hin dX5_init_77 fo_X5_55 (fun C T N e => by cases e; rfl) (fun _ => ⟨rfl, rfl⟩) hf (fun h44 hf => ?_)
  exact wt_return X dX5_init_80 hf
def f_X9_init (x0 : Nat) (h : hp_H) : Option hp_H := (nw_O h 2 [.null]).bind fun r4 => (f_X2_init r4.1 96 r4.2).bind fun r7 => (wr_R r7 x0 9 0 r4.1).bind fun h8 => (nw_O h8 2 [.null]).bind fun r10 => (f_X2_init r10.1 96 r10.2).bind fun r13 => (wr_R r13 x0 9 1 r10.1).bind fun h14 => (nw_O h14 2 [.null]).bind fun r16 => (f_X2_init r16.1 96 r16.2).bind fun r19 => (wr_R r19 x0 9 2 r16.1).bind fun h20 => (wr_I h20 x0 9 3 0).bind fun h23 => some h23
set_option maxRecDepth 20000 in
theorem c_X9_init (l : Launch) (x0 : Nat) (h r : hp_H) (hf : f_X9_init x0 h = some r) : mi l 3 6 291 yX9_init cX9_init 1 [.ref x0] h r := by
  unfold f_X9_init at hf
  refine mi_of (lv := [(0, .ref x0)]) (by decide +kernel) rfl (Nat.le_of_ble_eq_true rfl) rfl (fun p e s m args below meth c G hin X => ?_)
  refine wt_aload_n X dX9_init_0 0 rfl ?_
  refine wt_objInit X dX9_init_1 ml_X9_3 (by decide) (Nat.le_of_ble_eq_true rfl) ?_
  refine wt_aload_n X dX9_init_4 0 rfl ?_
  refine wt_newB X dX9_init_5 nw_X9_9 (by decide) hf (fun r4 hf => ?_)
  refine wt_dup X dX9_init_8 rfl ?_
  refine wt_bipush X dX9_init_9 ib_96 ?_
  refine wt_callIv (mc := 1) (ms := 96) X [.int 96] [.ref r4.1, .ref x0] dX9_init_11 rfl io_X9_11 rfl (by decide) (Nat.le_of_ble_eq_true rfl) (by decide) hf (fun r hr => c_X2_init l _ 96 96 (by decide) (by decide) (by decide) _ r hr) (fun r7 hf => ?_)
  refine wt_putR X hin dX9_init_14 fo_X9_14 (fun C T N e => by cases e; rfl) (fun _ => ⟨rfl, rfl⟩) hf (fun h8 hf => ?_)
  refine wt_aload_n X dX9_init_17 0 rfl ?_
  refine wt_newB X dX9_init_18 nw_X9_9 (by decide) hf (fun r10 hf => ?_)
  refine wt_dup X dX9_init_21 rfl ?_
  refine wt_bipush X dX9_init_22 ib_96 ?_
  refine wt_callIv (mc := 1) (ms := 96) X [.int 96] [.ref r10.1, .ref x0] dX9_init_24 rfl io_X9_11 rfl (by decide) (Nat.le_of_ble_eq_true rfl) (by decide) hf (fun r hr => c_X2_init l _ 96 96 (by decide) (by decide) (by decide) _ r hr) (fun r13 hf => ?_)
  refine wt_putR X hin dX9_init_27 fo_X9_20 (fun C T N e => by cases e; rfl) (fun _ => ⟨rfl, rfl⟩) hf (fun h14 hf => ?_)
  refine wt_aload_n X dX9_init_30 0 rfl ?_
  refine wt_newB X dX9_init_31 nw_X9_9 (by decide) hf (fun r16 hf => ?_)
  refine wt_dup X dX9_init_34 rfl ?_
  refine wt_bipush X dX9_init_35 ib_96 ?_
  refine wt_callIv (mc := 1) (ms := 96) X [.int 96] [.ref r16.1, .ref x0] dX9_init_37 rfl io_X9_11 rfl (by decide) (Nat.le_of_ble_eq_true rfl) (by decide) hf (fun r hr => c_X2_init l _ 96 96 (by decide) (by decide) (by decide) _ r hr) (fun r19 hf => ?_)
  refine wt_putR X hin dX9_init_40 fo_X9_23 (fun C T N e => by cases e; rfl) (fun _ => ⟨rfl, rfl⟩) hf (fun h20 hf => ?_)
  refine wt_aload_n X dX9_init_43 0 rfl ?_
  refine wt_iconst X dX9_init_44 ic_0 ?_
  refine wt_putI X dX9_init_45 fo_X9_26 hf (fun h23 hf => ?_)
  exact wt_return X dX9_init_48 hf
def f_X4_init (x0 : Nat) (h : hp_H) : Option hp_H := (nw_O h 2 [.null]).bind fun r4 => (f_X2_init r4.1 384 r4.2).bind fun r7 => (wr_R r7 x0 4 0 r4.1).bind fun h8 => (nw_O h8 2 [.null]).bind fun r10 => (f_X2_init r10.1 6 r10.2).bind fun r13 => (wr_R r13 x0 4 1 r10.1).bind fun h14 => (nw_O h14 2 [.null]).bind fun r16 => (f_X2_init r16.1 6 r16.2).bind fun r19 => (wr_R r19 x0 4 2 r16.1).bind fun h20 => (wr_I h20 x0 4 3 (-1)).bind fun h23 => some h23
set_option maxRecDepth 20000 in
theorem c_X4_init (l : Launch) (x0 : Nat) (h r : hp_H) (hf : f_X4_init x0 h = some r) : mi l 3 6 399 yX4_init cX4_init 1 [.ref x0] h r := by
  unfold f_X4_init at hf
  refine mi_of (lv := [(0, .ref x0)]) (by decide +kernel) rfl (Nat.le_of_ble_eq_true rfl) rfl (fun p e s m args below meth c G hin X => ?_)
  refine wt_aload_n X dX4_init_0 0 rfl ?_
  refine wt_objInit X dX4_init_1 ml_X4_3 (by decide) (Nat.le_of_ble_eq_true rfl) ?_
  refine wt_aload_n X dX4_init_4 0 rfl ?_
  refine wt_newB X dX4_init_5 nw_X4_9 (by decide) hf (fun r4 hf => ?_)
  refine wt_dup X dX4_init_8 rfl ?_
  refine wt_sipush X dX4_init_9 is_384 ?_
  refine wt_callIv (mc := 1) (ms := 384) X [.int 384] [.ref r4.1, .ref x0] dX4_init_12 rfl io_X4_13 rfl (by decide) (Nat.le_of_ble_eq_true rfl) (by decide) hf (fun r hr => c_X2_init l _ 384 384 (by decide) (by decide) (by decide) _ r hr) (fun r7 hf => ?_)
  refine wt_putR X hin dX4_init_15 fo_X4_16 (fun C T N e => by cases e; rfl) (fun _ => ⟨rfl, rfl⟩) hf (fun h8 hf => ?_)
  refine wt_aload_n X dX4_init_18 0 rfl ?_
  refine wt_newB X dX4_init_19 nw_X4_9 (by decide) hf (fun r10 hf => ?_)
  refine wt_dup X dX4_init_22 rfl ?_
  refine wt_bipush X dX4_init_23 ib_6 ?_
  refine wt_callIv (mc := 1) (ms := 6) X [.int 6] [.ref r10.1, .ref x0] dX4_init_25 rfl io_X4_13 rfl (by decide) (Nat.le_of_ble_eq_true rfl) (by decide) hf (fun r hr => c_X2_init l _ 6 6 (by decide) (by decide) (by decide) _ r hr) (fun r13 hf => ?_)
  refine wt_putR X hin dX4_init_28 fo_X4_20 (fun C T N e => by cases e; rfl) (fun _ => ⟨rfl, rfl⟩) hf (fun h14 hf => ?_)
  refine wt_aload_n X dX4_init_31 0 rfl ?_
  refine wt_newB X dX4_init_32 nw_X4_9 (by decide) hf (fun r16 hf => ?_)
  refine wt_dup X dX4_init_35 rfl ?_
  refine wt_bipush X dX4_init_36 ib_6 ?_
  refine wt_callIv (mc := 1) (ms := 6) X [.int 6] [.ref r16.1, .ref x0] dX4_init_38 rfl io_X4_13 rfl (by decide) (Nat.le_of_ble_eq_true rfl) (by decide) hf (fun r hr => c_X2_init l _ 6 6 (by decide) (by decide) (by decide) _ r hr) (fun r19 hf => ?_)
  refine wt_putR X hin dX4_init_41 fo_X4_23 (fun C T N e => by cases e; rfl) (fun _ => ⟨rfl, rfl⟩) hf (fun h20 hf => ?_)
  refine wt_aload_n X dX4_init_44 0 rfl ?_
  refine wt_iconst X dX4_init_45 ic_m1 ?_
  refine wt_putI X dX4_init_46 fo_X4_26 hf (fun h23 hf => ?_)
  exact wt_return X dX4_init_49 hf
def f_X10_init (x0 : Nat) (h : hp_H) : Option hp_H := (nw_O h 2 [.null]).bind fun r4 => (f_X2_init r4.1 700 r4.2).bind fun r7 => (wr_R r7 x0 10 0 r4.1).bind fun h8 => (wr_I h8 x0 10 1 0).bind fun h11 => (wr_I h11 x0 10 2 (-1)).bind fun h14 => (nw_O h14 2 [.null]).bind fun r16 => (f_X2_init r16.1 3 r16.2).bind fun r19 => (wr_R r19 x0 10 3 r16.1).bind fun h20 => (nw_O h20 1 [.int 0, .int 0, .int 0, .int 0, .int 0, .null, .null]).bind fun r22 => (f_X1_init r22.1 r22.2).bind fun r24 => (wr_R r24 x0 10 4 r22.1).bind fun h25 => (nw_O h25 8 [.null, .null, .null]).bind fun r27 => (rd_R r27.2 x0 10 4).bind fun v30 => (f_X8_init r27.1 v30 r27.2).bind fun r31 => (wr_R r31 x0 10 5 r27.1).bind fun h32 => (nw_O h32 8 [.null, .null, .null]).bind fun r34 => (rd_R r34.2 x0 10 4).bind fun v37 => (f_X8_init r34.1 v37 r34.2).bind fun r38 => (wr_R r38 x0 10 6 r34.1).bind fun h39 => (wr_Z h39 x0 10 7 0).bind fun h42 => (rd_R h42 x0 10 5).bind fun v45 => (rd_R h42 v45 8 0).bind fun v46 => (wr_R h42 x0 10 8 v46).bind fun h47 => (nw_O h47 3 [.null, .int 0, .null, .null, .null, .null]).bind fun r49 => (rd_R r49.2 x0 10 4).bind fun v52 => (f_X3_init r49.1 v52 r49.2).bind fun r53 => (wr_R r53 x0 10 9 r49.1).bind fun h54 => (nw_O h54 5 [.null, .null, .int 0, .int 0, .null, .int 0, .int 0, .int 0, .int 0, .int 0, .int 0, .int 0]).bind fun r56 => (rd_R r56.2 x0 10 0).bind fun v59 => (f_X5_init r56.1 v59 r56.2).bind fun r60 => (wr_R r60 x0 10 10 r56.1).bind fun h61 => (nw_O h61 9 [.null, .null, .null, .int 0]).bind fun r63 => (f_X9_init r63.1 r63.2).bind fun r65 => (wr_R r65 x0 10 11 r63.1).bind fun h66 => (nw_O h66 4 [.null, .null, .null, .int 0]).bind fun r68 => (f_X4_init r68.1 r68.2).bind fun r70 => (wr_R r70 x0 10 12 r68.1).bind fun h71 => (nw_O h71 2 [.null]).bind fun r73 => (f_X2_init r73.1 8 r73.2).bind fun r76 => (wr_R r76 x0 10 13 r73.1).bind fun h77 => (nw_O h77 2 [.null]).bind fun r79 => (f_X2_init r79.1 48 r79.2).bind fun r82 => (wr_R r82 x0 10 14 r79.1).bind fun h83 => some h83
set_option maxRecDepth 20000 in
theorem c_X10_init (l : Launch) (x0 : Nat) (h r : hp_H) (hf : f_X10_init x0 h = some r) : mi l 6 117 4213 yX10_init cX10_init 1 [.ref x0] h r := by
  unfold f_X10_init at hf
  refine mi_of (lv := [(0, .ref x0)]) (by decide +kernel) rfl (Nat.le_of_ble_eq_true rfl) rfl (fun p e s m args below meth c G hin X => ?_)
  refine wt_aload_n X dX10_init_0 0 rfl ?_
  refine wt_objInit X dX10_init_1 ml_X10_1 (by decide) (Nat.le_of_ble_eq_true rfl) ?_
  refine wt_aload_n X dX10_init_4 0 rfl ?_
  refine wt_newB X dX10_init_5 nw_X10_7 (by decide) hf (fun r4 hf => ?_)
  refine wt_dup X dX10_init_8 rfl ?_
  refine wt_sipush X dX10_init_9 is_700 ?_
  refine wt_callIv (mc := 1) (ms := 700) X [.int 700] [.ref r4.1, .ref x0] dX10_init_12 rfl io_X10_11 rfl (by decide) (Nat.le_of_ble_eq_true rfl) (by decide) hf (fun r hr => c_X2_init l _ 700 700 (by decide) (by decide) (by decide) _ r hr) (fun r7 hf => ?_)
  refine wt_putR X hin dX10_init_15 fo_X10_14 (fun C T N e => by cases e; rfl) (fun _ => ⟨rfl, rfl⟩) hf (fun h8 hf => ?_)
  refine wt_aload_n X dX10_init_18 0 rfl ?_
  refine wt_iconst X dX10_init_19 ic_0 ?_
  refine wt_putI X dX10_init_20 fo_X10_18 hf (fun h11 hf => ?_)
  refine wt_aload_n X dX10_init_23 0 rfl ?_
  refine wt_iconst X dX10_init_24 ic_m1 ?_
  refine wt_putI X dX10_init_25 fo_X10_22 hf (fun h14 hf => ?_)
  refine wt_aload_n X dX10_init_28 0 rfl ?_
  refine wt_newB X dX10_init_29 nw_X10_7 (by decide) hf (fun r16 hf => ?_)
  refine wt_dup X dX10_init_32 rfl ?_
  refine wt_iconst X dX10_init_33 ic_3 ?_
  refine wt_callIv (mc := 1) (ms := 3) X [.int 3] [.ref r16.1, .ref x0] dX10_init_34 rfl io_X10_11 rfl (by decide) (Nat.le_of_ble_eq_true rfl) (by decide) hf (fun r hr => c_X2_init l _ 3 3 (by decide) (by decide) (by decide) _ r hr) (fun r19 hf => ?_)
  refine wt_putR X hin dX10_init_37 fo_X10_25 (fun C T N e => by cases e; rfl) (fun _ => ⟨rfl, rfl⟩) hf (fun h20 hf => ?_)
  refine wt_aload_n X dX10_init_40 0 rfl ?_
  refine wt_newB X dX10_init_41 nw_X10_28 (by decide) hf (fun r22 hf => ?_)
  refine wt_dup X dX10_init_44 rfl ?_
  refine wt_callIv (mc := 9) (ms := 786) X [] [.ref r22.1, .ref x0] dX10_init_45 rfl io_X10_30 rfl (by decide) (Nat.le_of_ble_eq_true rfl) (by decide) hf (c_X1_init l _ _) (fun r24 hf => ?_)
  refine wt_putR X hin dX10_init_48 fo_X10_31 (fun C T N e => by cases e; rfl) (fun _ => ⟨rfl, rfl⟩) hf (fun h25 hf => ?_)
  refine wt_aload_n X dX10_init_51 0 rfl ?_
  refine wt_newB X dX10_init_52 nw_X10_35 (by decide) hf (fun r27 hf => ?_)
  refine wt_dup X dX10_init_55 rfl ?_
  refine wt_aload_n X dX10_init_56 0 rfl ?_
  refine wt_getR X dX10_init_57 fo_X10_31 hf (fun v30 hf => ?_)
  refine wt_callIv (mc := 27) (ms := 532) X [.ref v30] [.ref r27.1, .ref x0] dX10_init_60 rfl io_X10_37 rfl (by decide) (Nat.le_of_ble_eq_true rfl) (by decide) hf (c_X8_init l _ _ _) (fun r31 hf => ?_)
  refine wt_putR X hin dX10_init_63 fo_X10_40 (fun C T N e => by cases e; rfl) (fun _ => ⟨rfl, rfl⟩) hf (fun h32 hf => ?_)
  refine wt_aload_n X dX10_init_66 0 rfl ?_
  refine wt_newB X dX10_init_67 nw_X10_35 (by decide) hf (fun r34 hf => ?_)
  refine wt_dup X dX10_init_70 rfl ?_
  refine wt_aload_n X dX10_init_71 0 rfl ?_
  refine wt_getR X dX10_init_72 fo_X10_31 hf (fun v37 hf => ?_)
  refine wt_callIv (mc := 27) (ms := 532) X [.ref v37] [.ref r34.1, .ref x0] dX10_init_75 rfl io_X10_37 rfl (by decide) (Nat.le_of_ble_eq_true rfl) (by decide) hf (c_X8_init l _ _ _) (fun r38 hf => ?_)
  refine wt_putR X hin dX10_init_78 fo_X10_44 (fun C T N e => by cases e; rfl) (fun _ => ⟨rfl, rfl⟩) hf (fun h39 hf => ?_)
  refine wt_aload_n X dX10_init_81 0 rfl ?_
  refine wt_iconst X dX10_init_82 ic_0 ?_
  refine wt_putZ X dX10_init_83 fo_X10_47 hf (fun h42 hf => ?_)
  refine wt_aload_n X dX10_init_86 0 rfl ?_
  refine wt_aload_n X dX10_init_87 0 rfl ?_
  refine wt_getR X dX10_init_88 fo_X10_40 hf (fun v45 hf => ?_)
  refine wt_getR X dX10_init_91 fo_X10_51 hf (fun v46 hf => ?_)
  refine wt_putR X hin dX10_init_94 fo_X10_55 (fun C T N e => by cases e; rfl) (fun _ => ⟨rfl, rfl⟩) hf (fun h47 hf => ?_)
  refine wt_aload_n X dX10_init_97 0 rfl ?_
  refine wt_newB X dX10_init_98 nw_X10_56 (by decide) hf (fun r49 hf => ?_)
  refine wt_dup X dX10_init_101 rfl ?_
  refine wt_aload_n X dX10_init_102 0 rfl ?_
  refine wt_getR X dX10_init_103 fo_X10_31 hf (fun v52 hf => ?_)
  refine wt_callIv (mc := 8) (ms := 36) X [.ref v52] [.ref r49.1, .ref x0] dX10_init_106 rfl io_X10_58 rfl (by decide) (Nat.le_of_ble_eq_true rfl) (by decide) hf (c_X3_init l _ _ _) (fun r53 hf => ?_)
  refine wt_putR X hin dX10_init_109 fo_X10_59 (fun C T N e => by cases e; rfl) (fun _ => ⟨rfl, rfl⟩) hf (fun h54 hf => ?_)
  refine wt_aload_n X dX10_init_112 0 rfl ?_
  refine wt_newB X dX10_init_113 nw_X10_62 (by decide) hf (fun r56 hf => ?_)
  refine wt_dup X dX10_init_116 rfl ?_
  refine wt_aload_n X dX10_init_117 0 rfl ?_
  refine wt_getR X dX10_init_118 fo_X10_14 hf (fun v59 hf => ?_)
  refine wt_callIv (mc := 19) (ms := 835) X [.ref v59] [.ref r56.1, .ref x0] dX10_init_121 rfl io_X10_64 rfl (by decide) (Nat.le_of_ble_eq_true rfl) (by decide) hf (c_X5_init l _ _ _) (fun r60 hf => ?_)
  refine wt_putR X hin dX10_init_124 fo_X10_67 (fun C T N e => by cases e; rfl) (fun _ => ⟨rfl, rfl⟩) hf (fun h61 hf => ?_)
  refine wt_aload_n X dX10_init_127 0 rfl ?_
  refine wt_newB X dX10_init_128 nw_X10_71 (by decide) hf (fun r63 hf => ?_)
  refine wt_dup X dX10_init_131 rfl ?_
  refine wt_callIv (mc := 6) (ms := 291) X [] [.ref r63.1, .ref x0] dX10_init_132 rfl io_X10_73 rfl (by decide) (Nat.le_of_ble_eq_true rfl) (by decide) hf (c_X9_init l _ _) (fun r65 hf => ?_)
  refine wt_putR X hin dX10_init_135 fo_X10_74 (fun C T N e => by cases e; rfl) (fun _ => ⟨rfl, rfl⟩) hf (fun h66 hf => ?_)
  refine wt_aload_n X dX10_init_138 0 rfl ?_
  refine wt_newB X dX10_init_139 nw_X10_78 (by decide) hf (fun r68 hf => ?_)
  refine wt_dup X dX10_init_142 rfl ?_
  refine wt_callIv (mc := 6) (ms := 399) X [] [.ref r68.1, .ref x0] dX10_init_143 rfl io_X10_80 rfl (by decide) (Nat.le_of_ble_eq_true rfl) (by decide) hf (c_X4_init l _ _) (fun r70 hf => ?_)
  refine wt_putR X hin dX10_init_146 fo_X10_81 (fun C T N e => by cases e; rfl) (fun _ => ⟨rfl, rfl⟩) hf (fun h71 hf => ?_)
  refine wt_aload_n X dX10_init_149 0 rfl ?_
  refine wt_newB X dX10_init_150 nw_X10_7 (by decide) hf (fun r73 hf => ?_)
  refine wt_dup X dX10_init_153 rfl ?_
  refine wt_bipush X dX10_init_154 ib_8 ?_
  refine wt_callIv (mc := 1) (ms := 8) X [.int 8] [.ref r73.1, .ref x0] dX10_init_156 rfl io_X10_11 rfl (by decide) (Nat.le_of_ble_eq_true rfl) (by decide) hf (fun r hr => c_X2_init l _ 8 8 (by decide) (by decide) (by decide) _ r hr) (fun r76 hf => ?_)
  refine wt_putR X hin dX10_init_159 fo_X10_85 (fun C T N e => by cases e; rfl) (fun _ => ⟨rfl, rfl⟩) hf (fun h77 hf => ?_)
  refine wt_aload_n X dX10_init_162 0 rfl ?_
  refine wt_newB X dX10_init_163 nw_X10_7 (by decide) hf (fun r79 hf => ?_)
  refine wt_dup X dX10_init_166 rfl ?_
  refine wt_bipush X dX10_init_167 ib_48 ?_
  refine wt_callIv (mc := 1) (ms := 48) X [.int 48] [.ref r79.1, .ref x0] dX10_init_169 rfl io_X10_11 rfl (by decide) (Nat.le_of_ble_eq_true rfl) (by decide) hf (fun r hr => c_X2_init l _ 48 48 (by decide) (by decide) (by decide) _ r hr) (fun r82 hf => ?_)
  refine wt_putR X hin dX10_init_172 fo_X10_88 (fun C T N e => by cases e; rfl) (fun _ => ⟨rfl, rfl⟩) hf (fun h83 hf => ?_)
  exact wt_return X dX10_init_175 hf
def f_X11_init (x0 : Nat) (h : hp_H) : Option hp_H := (wr_I h x0 11 1 8).bind fun h5 => (wr_I h5 x0 11 5 2).bind fun h8 => (wr_I h8 x0 11 6 (-1)).bind fun h11 => (nw_A h11 0 8).bind fun r14 => (wr_R r14.2 x0 11 7 r14.1).bind fun h15 => (nw_A h15 0 1400).bind fun r18 => (wr_R r18.2 x0 11 8 r18.1).bind fun h19 => (nw_A h19 0 700).bind fun r22 => (wr_R r22.2 x0 11 9 r22.1).bind fun h23 => (wr_I h23 x0 11 12 (-1)).bind fun h26 => (nw_A h26 0 3).bind fun r29 => (wr_R r29.2 x0 11 13 r29.1).bind fun h30 => (nw_A h30 0 8).bind fun r33 => (wr_R r33.2 x0 11 31 r33.1).bind fun h34 => (nw_A h34 0 33).bind fun r37 => (wr_R r37.2 x0 11 32 r37.1).bind fun h38 => (nw_A h38 0 1400).bind fun r41 => (wr_R r41.2 x0 11 33 r41.1).bind fun h42 => (nw_A h42 0 950).bind fun r45 => (wr_R r45.2 x0 11 34 r45.1).bind fun h46 => (nw_A h46 1 9).bind fun r49 => (wr_R r49.2 x0 11 35 r49.1).bind fun h50 => (nw_A h50 0 66).bind fun r53 => (wr_R r53.2 x0 11 36 r53.1).bind fun h54 => (nw_A h54 0 1320).bind fun r57 => (wr_R r57.2 x0 11 37 r57.1).bind fun h58 => (nw_A h58 0 6).bind fun r61 => (wr_R r61.2 x0 11 39 r61.1).bind fun h62 => (nw_A h62 0 950).bind fun r65 => (wr_R r65.2 x0 11 40 r65.1).bind fun h66 => (wr_I h66 x0 11 41 (-1)).bind fun h69 => (nw_A h69 0 8).bind fun r72 => (wr_R r72.2 x0 11 44 r72.1).bind fun h73 => (nw_A h73 0 32).bind fun r76 => (wr_R r76.2 x0 11 46 r76.1).bind fun h77 => (nw_A h77 0 768).bind fun r80 => (wr_R r80.2 x0 11 47 r80.1).bind fun h81 => (nw_A h81 0 33).bind fun r84 => (wr_R r84.2 x0 11 52 r84.1).bind fun h85 => (nw_A h85 0 1320).bind fun r88 => (wr_R r88.2 x0 11 53 r88.1).bind fun h89 => (nw_A h89 0 32).bind fun r92 => (wr_R r92.2 x0 11 54 r92.1).bind fun h93 => some h93
set_option maxRecDepth 20000 in
theorem c_X11_init (l : Launch) (x0 : Nat) (h r : hp_H) (hf : f_X11_init x0 h = some r) : mi l 2 19 9046 yX11_init cX11_init 1 [.ref x0] h r := by
  unfold f_X11_init at hf
  refine mi_of (lv := [(0, .ref x0)]) (by decide +kernel) rfl (Nat.le_of_ble_eq_true rfl) rfl (fun p e s m args below meth c G hin X => ?_)
  refine wt_aload_n X dX11_init_0 0 rfl ?_
  refine wt_objInit X dX11_init_1 ml_X11_1 (by decide) (Nat.le_of_ble_eq_true rfl) ?_
  refine wt_aload_n X dX11_init_4 0 rfl ?_
  refine wt_bipush X dX11_init_5 ib_8 ?_
  refine wt_putI X dX11_init_7 fo_X11_7 hf (fun h5 hf => ?_)
  refine wt_aload_n X dX11_init_10 0 rfl ?_
  refine wt_iconst X dX11_init_11 ic_2 ?_
  refine wt_putI X dX11_init_12 fo_X11_13 hf (fun h8 hf => ?_)
  refine wt_aload_n X dX11_init_15 0 rfl ?_
  refine wt_iconst X dX11_init_16 ic_m1 ?_
  refine wt_putI X dX11_init_17 fo_X11_16 hf (fun h11 hf => ?_)
  refine wt_aload_n X dX11_init_20 0 rfl ?_
  refine wt_bipush X dX11_init_21 ib_8 ?_
  refine wt_newaIB X dX11_init_23 (N := 8) (by decide) (by decide) (by decide) (by decide) hf (fun r14 hf => ?_)
  refine wt_putR X hin dX11_init_25 fo_X11_19 (fun C T N e => by cases e; rfl) (fun _ => ⟨rfl, rfl⟩) hf (fun h15 hf => ?_)
  refine wt_aload_n X dX11_init_28 0 rfl ?_
  refine wt_sipush X dX11_init_29 is_1400 ?_
  refine wt_newaIB X dX11_init_32 (N := 1400) (by decide) (by decide) (by decide) (by decide) hf (fun r18 hf => ?_)
  refine wt_putR X hin dX11_init_34 fo_X11_23 (fun C T N e => by cases e; rfl) (fun _ => ⟨rfl, rfl⟩) hf (fun h19 hf => ?_)
  refine wt_aload_n X dX11_init_37 0 rfl ?_
  refine wt_sipush X dX11_init_38 is_700 ?_
  refine wt_newaIB X dX11_init_41 (N := 700) (by decide) (by decide) (by decide) (by decide) hf (fun r22 hf => ?_)
  refine wt_putR X hin dX11_init_43 fo_X11_26 (fun C T N e => by cases e; rfl) (fun _ => ⟨rfl, rfl⟩) hf (fun h23 hf => ?_)
  refine wt_aload_n X dX11_init_46 0 rfl ?_
  refine wt_iconst X dX11_init_47 ic_m1 ?_
  refine wt_putI X dX11_init_48 fo_X11_29 hf (fun h26 hf => ?_)
  refine wt_aload_n X dX11_init_51 0 rfl ?_
  refine wt_iconst X dX11_init_52 ic_3 ?_
  refine wt_newaIB X dX11_init_53 (N := 3) (by decide) (by decide) (by decide) (by decide) hf (fun r29 hf => ?_)
  refine wt_putR X hin dX11_init_55 fo_X11_32 (fun C T N e => by cases e; rfl) (fun _ => ⟨rfl, rfl⟩) hf (fun h30 hf => ?_)
  refine wt_aload_n X dX11_init_58 0 rfl ?_
  refine wt_bipush X dX11_init_59 ib_8 ?_
  refine wt_newaIB X dX11_init_61 (N := 8) (by decide) (by decide) (by decide) (by decide) hf (fun r33 hf => ?_)
  refine wt_putR X hin dX11_init_63 fo_X11_35 (fun C T N e => by cases e; rfl) (fun _ => ⟨rfl, rfl⟩) hf (fun h34 hf => ?_)
  refine wt_aload_n X dX11_init_66 0 rfl ?_
  refine wt_bipush X dX11_init_67 ib_33 ?_
  refine wt_newaIB X dX11_init_69 (N := 33) (by decide) (by decide) (by decide) (by decide) hf (fun r37 hf => ?_)
  refine wt_putR X hin dX11_init_71 fo_X11_38 (fun C T N e => by cases e; rfl) (fun _ => ⟨rfl, rfl⟩) hf (fun h38 hf => ?_)
  refine wt_aload_n X dX11_init_74 0 rfl ?_
  refine wt_sipush X dX11_init_75 is_1400 ?_
  refine wt_newaIB X dX11_init_78 (N := 1400) (by decide) (by decide) (by decide) (by decide) hf (fun r41 hf => ?_)
  refine wt_putR X hin dX11_init_80 fo_X11_41 (fun C T N e => by cases e; rfl) (fun _ => ⟨rfl, rfl⟩) hf (fun h42 hf => ?_)
  refine wt_aload_n X dX11_init_83 0 rfl ?_
  refine wt_sipush X dX11_init_84 is_950 ?_
  refine wt_newaIB X dX11_init_87 (N := 950) (by decide) (by decide) (by decide) (by decide) hf (fun r45 hf => ?_)
  refine wt_putR X hin dX11_init_89 fo_X11_44 (fun C T N e => by cases e; rfl) (fun _ => ⟨rfl, rfl⟩) hf (fun h46 hf => ?_)
  refine wt_aload_n X dX11_init_92 0 rfl ?_
  refine wt_bipush X dX11_init_93 ib_9 ?_
  refine wt_newaZB X dX11_init_95 (N := 9) (by decide) (by decide) (by decide) (by decide) hf (fun r49 hf => ?_)
  refine wt_putR X hin dX11_init_97 fo_X11_47 (fun C T N e => by cases e; rfl) (fun _ => ⟨rfl, rfl⟩) hf (fun h50 hf => ?_)
  refine wt_aload_n X dX11_init_100 0 rfl ?_
  refine wt_bipush X dX11_init_101 ib_66 ?_
  refine wt_newaIB X dX11_init_103 (N := 66) (by decide) (by decide) (by decide) (by decide) hf (fun r53 hf => ?_)
  refine wt_putR X hin dX11_init_105 fo_X11_51 (fun C T N e => by cases e; rfl) (fun _ => ⟨rfl, rfl⟩) hf (fun h54 hf => ?_)
  refine wt_aload_n X dX11_init_108 0 rfl ?_
  refine wt_sipush X dX11_init_109 is_1320 ?_
  refine wt_newaIB X dX11_init_112 (N := 1320) (by decide) (by decide) (by decide) (by decide) hf (fun r57 hf => ?_)
  refine wt_putR X hin dX11_init_114 fo_X11_54 (fun C T N e => by cases e; rfl) (fun _ => ⟨rfl, rfl⟩) hf (fun h58 hf => ?_)
  refine wt_aload_n X dX11_init_117 0 rfl ?_
  refine wt_bipush X dX11_init_118 ib_6 ?_
  refine wt_newaIB X dX11_init_120 (N := 6) (by decide) (by decide) (by decide) (by decide) hf (fun r61 hf => ?_)
  refine wt_putR X hin dX11_init_122 fo_X11_57 (fun C T N e => by cases e; rfl) (fun _ => ⟨rfl, rfl⟩) hf (fun h62 hf => ?_)
  refine wt_aload_n X dX11_init_125 0 rfl ?_
  refine wt_sipush X dX11_init_126 is_950 ?_
  refine wt_newaIB X dX11_init_129 (N := 950) (by decide) (by decide) (by decide) (by decide) hf (fun r65 hf => ?_)
  refine wt_putR X hin dX11_init_131 fo_X11_60 (fun C T N e => by cases e; rfl) (fun _ => ⟨rfl, rfl⟩) hf (fun h66 hf => ?_)
  refine wt_aload_n X dX11_init_134 0 rfl ?_
  refine wt_iconst X dX11_init_135 ic_m1 ?_
  refine wt_putI X dX11_init_136 fo_X11_63 hf (fun h69 hf => ?_)
  refine wt_aload_n X dX11_init_139 0 rfl ?_
  refine wt_bipush X dX11_init_140 ib_8 ?_
  refine wt_newaIB X dX11_init_142 (N := 8) (by decide) (by decide) (by decide) (by decide) hf (fun r72 hf => ?_)
  refine wt_putR X hin dX11_init_144 fo_X11_66 (fun C T N e => by cases e; rfl) (fun _ => ⟨rfl, rfl⟩) hf (fun h73 hf => ?_)
  refine wt_aload_n X dX11_init_147 0 rfl ?_
  refine wt_bipush X dX11_init_148 ib_32 ?_
  refine wt_newaIB X dX11_init_150 (N := 32) (by decide) (by decide) (by decide) (by decide) hf (fun r76 hf => ?_)
  refine wt_putR X hin dX11_init_152 fo_X11_69 (fun C T N e => by cases e; rfl) (fun _ => ⟨rfl, rfl⟩) hf (fun h77 hf => ?_)
  refine wt_aload_n X dX11_init_155 0 rfl ?_
  refine wt_sipush X dX11_init_156 is_768 ?_
  refine wt_newaIB X dX11_init_159 (N := 768) (by decide) (by decide) (by decide) (by decide) hf (fun r80 hf => ?_)
  refine wt_putR X hin dX11_init_161 fo_X11_72 (fun C T N e => by cases e; rfl) (fun _ => ⟨rfl, rfl⟩) hf (fun h81 hf => ?_)
  refine wt_aload_n X dX11_init_164 0 rfl ?_
  refine wt_bipush X dX11_init_165 ib_33 ?_
  refine wt_newaIB X dX11_init_167 (N := 33) (by decide) (by decide) (by decide) (by decide) hf (fun r84 hf => ?_)
  refine wt_putR X hin dX11_init_169 fo_X11_75 (fun C T N e => by cases e; rfl) (fun _ => ⟨rfl, rfl⟩) hf (fun h85 hf => ?_)
  refine wt_aload_n X dX11_init_172 0 rfl ?_
  refine wt_sipush X dX11_init_173 is_1320 ?_
  refine wt_newaIB X dX11_init_176 (N := 1320) (by decide) (by decide) (by decide) (by decide) hf (fun r88 hf => ?_)
  refine wt_putR X hin dX11_init_178 fo_X11_78 (fun C T N e => by cases e; rfl) (fun _ => ⟨rfl, rfl⟩) hf (fun h89 hf => ?_)
  refine wt_aload_n X dX11_init_181 0 rfl ?_
  refine wt_bipush X dX11_init_182 ib_32 ?_
  refine wt_newaIB X dX11_init_184 (N := 32) (by decide) (by decide) (by decide) (by decide) hf (fun r92 hf => ?_)
  refine wt_putR X hin dX11_init_186 fo_X11_81 (fun C T N e => by cases e; rfl) (fun _ => ⟨rfl, rfl⟩) hf (fun h93 hf => ?_)
  exact wt_return X dX11_init_189 hf
