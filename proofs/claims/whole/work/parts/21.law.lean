theorem ic_15 : Int32.ofInt 15 = 15 := by decide
theorem ic_16 : Int32.ofInt 16 = 16 := by decide
theorem ic_17 : Int32.ofInt 17 = 17 := by decide
theorem ic_18 : Int32.ofInt 18 = 18 := by decide
theorem ic_19 : Int32.ofInt 19 = 19 := by decide
theorem ic_20 : Int32.ofInt 20 = 20 := by decide
theorem ic_21 : Int32.ofInt 21 = 21 := by decide
theorem ic_22 : Int32.ofInt 22 = 22 := by decide
theorem ic_23 : Int32.ofInt 23 = 23 := by decide
theorem ic_24 : Int32.ofInt 24 = 24 := by decide
theorem ic_25 : Int32.ofInt 25 = 25 := by decide
theorem ic_26 : Int32.ofInt 26 = 26 := by decide
theorem ic_27 : Int32.ofInt 27 = 27 := by decide
theorem ic_28 : Int32.ofInt 28 = 28 := by decide
theorem ic_29 : Int32.ofInt 29 = 29 := by decide
theorem ic_30 : Int32.ofInt 30 = 30 := by decide
theorem ic_31 : Int32.ofInt 31 = 31 := by decide
theorem ic_32 : Int32.ofInt 32 = 32 := by decide
theorem ic_33 : Int32.ofInt 33 = 33 := by decide
theorem ic_34 : Int32.ofInt 34 = 34 := by decide
theorem ic_35 : Int32.ofInt 35 = 35 := by decide
theorem ic_36 : Int32.ofInt 36 = 36 := by decide
theorem ic_37 : Int32.ofInt 37 = 37 := by decide
theorem ic_38 : Int32.ofInt 38 = 38 := by decide
theorem ic_39 : Int32.ofInt 39 = 39 := by decide
theorem ic_40 : Int32.ofInt 40 = 40 := by decide
theorem ic_41 : Int32.ofInt 41 = 41 := by decide
theorem ic_42 : Int32.ofInt 42 = 42 := by decide
theorem ic_43 : Int32.ofInt 43 = 43 := by decide
theorem ic_44 : Int32.ofInt 44 = 44 := by decide
theorem ic_45 : Int32.ofInt 45 = 45 := by decide
theorem ic_46 : Int32.ofInt 46 = 46 := by decide
theorem ic_47 : Int32.ofInt 47 = 47 := by decide
theorem so_L_135 : sw_ok RL 135 yL_army cL_army 4 (some .int) [(0, 9, 12, 13)] 3 := ⟨⟨ml_L_135, ms_L_army, mk_L, wg_ok (i := 594) (by decide +kernel)⟩, by decide, by decide +kernel, by decide +kernel, by decide +kernel⟩
theorem so_L_149 : sw_ok RL 149 yL_count cL_count 4 (some .int) [(0, 9, 12, 18)] 3 := ⟨⟨ml_L_149, ms_L_count, mk_L, wg_ok (i := 926) (by decide +kernel)⟩, by decide, by decide +kernel, by decide +kernel, by decide +kernel⟩
theorem so_L_152 : sw_ok RL 152 yL_man cL_man 5 (some .int) [(0, 10, 13, 18)] 4 := ⟨⟨ml_L_152, ms_L_man, mk_L, wg_ok (i := 968) (by decide +kernel)⟩, by decide, by decide +kernel, by decide +kernel, by decide +kernel⟩
theorem so_L_156 : sw_ok RL 156 yL_row cL_row 5 (some .int) [(0, 10, 13, 18)] 4 := ⟨⟨ml_L_156, ms_L_row, mk_L, wg_ok (i := 985) (by decide +kernel)⟩, by decide, by decide +kernel, by decide +kernel, by decide +kernel⟩
theorem so_L_163 : sw_ok RL 163 yL_put cL_put 5 (some .int) [(0, 10, 13, 18)] 4 := ⟨⟨ml_L_163, ms_L_put, mk_L, wg_ok (i := 1000) (by decide +kernel)⟩, by decide, by decide +kernel, by decide +kernel, by decide +kernel⟩
theorem so_L_166 : sw_ok RL 166 yL_heel cL_heel 5 (some .int) [(0, 10, 13, 18)] 4 := ⟨⟨ml_L_166, ms_L_heel, mk_L, wg_ok (i := 1012) (by decide +kernel)⟩, by decide, by decide +kernel, by decide +kernel, by decide +kernel⟩
theorem so_L_169 : sw_ok RL 169 yL_loud cL_loud 5 (some .int) [(0, 10, 13, 18)] 4 := ⟨⟨ml_L_169, ms_L_loud, mk_L, wg_ok (i := 1025) (by decide +kernel)⟩, by decide, by decide +kernel, by decide +kernel, by decide +kernel⟩
theorem so_L_172 : sw_ok RL 172 yL_change cL_change 5 (some .int) [(0, 17, 20, 18)] 4 := ⟨⟨ml_L_172, ms_L_change, mk_L, wg_ok (i := 1032) (by decide +kernel)⟩, by decide, by decide +kernel, by decide +kernel, by decide +kernel⟩
theorem so_L_179 : sw_ok RL 179 yL_then cL_then 6 (some .int) [(0, 12, 15, 18), (0, 12, 19, 13)] 5 := ⟨⟨ml_L_179, ms_L_then, mk_L, wg_ok (i := 1039) (by decide +kernel)⟩, by decide, by decide +kernel, by decide +kernel, by decide +kernel⟩
theorem so_L_183 : sw_ok RL 183 yL_honour cL_honour 5 (some .int) [(0, 10, 13, 18), (0, 10, 17, 13)] 4 := ⟨⟨ml_L_183, ms_L_honour, mk_L, wg_ok (i := 1054) (by decide +kernel)⟩, by decide, by decide +kernel, by decide +kernel, by decide +kernel⟩
theorem so_L_186 : sw_ok RL 186 yL_first cL_first 4 (some .int) [(0, 9, 12, 18)] 3 := ⟨⟨ml_L_186, ms_L_first, mk_L, wg_ok (i := 1069) (by decide +kernel)⟩, by decide, by decide +kernel, by decide +kernel, by decide +kernel⟩
theorem so_L_189 : sw_ok RL 189 yL_mistaken cL_mistaken 4 (some .int) [(0, 9, 12, 13)] 3 := ⟨⟨ml_L_189, ms_L_mistaken, mk_L, wg_ok (i := 1077) (by decide +kernel)⟩, by decide, by decide +kernel, by decide +kernel, by decide +kernel⟩
theorem so_L_192 : sw_ok RL 192 yL_unsung cL_unsung 4 (some .int) [(0, 9, 12, 13)] 3 := ⟨⟨ml_L_192, ms_L_unsung, mk_L, wg_ok (i := 1086) (by decide +kernel)⟩, by decide, by decide +kernel, by decide +kernel, by decide +kernel⟩
theorem so_L_195 : sw_ok RL 195 yL_far cL_far 5 (some .int) [(0, 10, 13, 18)] 4 := ⟨⟨ml_L_195, ms_L_far, mk_L, wg_ok (i := 1097) (by decide +kernel)⟩, by decide, by decide +kernel, by decide +kernel, by decide +kernel⟩
theorem so_L_202 : sw_ok RL 202 yL_apart cL_apart 4 (some .int) [(0, 9, 12, 13)] 3 := ⟨⟨ml_L_202, ms_L_apart, mk_L, wg_ok (i := 1104) (by decide +kernel)⟩, by decide, by decide +kernel, by decide +kernel, by decide +kernel⟩
theorem so_L_205 : sw_ok RL 205 yL_tread cL_tread 4 (some .int) [(0, 9, 12, 18)] 3 := ⟨⟨ml_L_205, ms_L_tread, mk_L, wg_ok (i := 1116) (by decide +kernel)⟩, by decide, by decide +kernel, by decide +kernel, by decide +kernel⟩
theorem so_L_208 : sw_ok RL 208 yL_passes cL_passes 5 (some .int) [(0, 10, 13, 18)] 4 := ⟨⟨ml_L_208, ms_L_passes, mk_L, wg_ok (i := 1128) (by decide +kernel)⟩, by decide, by decide +kernel, by decide +kernel, by decide +kernel⟩
theorem so_L_211 : sw_ok RL 211 yL_hidden cL_hidden 4 (some .int) [(0, 9, 12, 18)] 3 := ⟨⟨ml_L_211, ms_L_hidden, mk_L, wg_ok (i := 1139) (by decide +kernel)⟩, by decide, by decide +kernel, by decide +kernel, by decide +kernel⟩
theorem so_L_214 : sw_ok RL 214 yL_toSock cL_toSock 4 (some .int) [(0, 9, 12, 18)] 3 := ⟨⟨ml_L_214, ms_L_toSock, mk_L, wg_ok (i := 1146) (by decide +kernel)⟩, by decide, by decide +kernel, by decide +kernel, by decide +kernel⟩
theorem so_L_217 : sw_ok RL 217 yL_review cL_review 4 (some .int) [(0, 9, 12, 18)] 3 := ⟨⟨ml_L_217, ms_L_review, mk_L, wg_ok (i := 1153) (by decide +kernel)⟩, by decide, by decide +kernel, by decide +kernel, by decide +kernel⟩
theorem so_L_220 : sw_ok RL 220 yL_see cL_see 7 (some .int) [(0, 14, 17, 18)] 6 := ⟨⟨ml_L_220, ms_L_see, mk_L, wg_ok (i := 1185) (by decide +kernel)⟩, by decide, by decide +kernel, by decide +kernel, by decide +kernel⟩
theorem so_L_228 : sw_ok RL 228 yL_limped cL_limped 4 (some .int) [(0, 9, 12, 18)] 3 := ⟨⟨ml_L_228, ms_L_limped, mk_L, wg_ok (i := 1197) (by decide +kernel)⟩, by decide, by decide +kernel, by decide +kernel, by decide +kernel⟩
theorem so_L_231 : sw_ok RL 231 yL_next cL_next 4 (some .int) [(0, 9, 12, 18)] 3 := ⟨⟨ml_L_231, ms_L_next, mk_L, wg_ok (i := 1217) (by decide +kernel)⟩, by decide, by decide +kernel, by decide +kernel, by decide +kernel⟩
theorem so_L_234 : sw_ok RL 234 yL_byMud cL_byMud 6 (some .int) [(0, 12, 15, 18), (0, 12, 19, 13)] 5 := ⟨⟨ml_L_234, ms_L_byMud, mk_L, wg_ok (i := 1234) (by decide +kernel)⟩, by decide, by decide +kernel, by decide +kernel, by decide +kernel⟩
theorem so_L_237 : sw_ok RL 237 yL_game cL_game 6 (some .int) [(0, 12, 15, 18), (0, 12, 19, 13)] 5 := ⟨⟨ml_L_237, ms_L_game, mk_L, wg_ok (i := 1241) (by decide +kernel)⟩, by decide, by decide +kernel, by decide +kernel, by decide +kernel⟩
theorem so_L_240 : sw_ok RL 240 yL_reviews cL_reviews 6 (some .int) [(0, 12, 15, 18), (0, 12, 19, 13)] 5 := ⟨⟨ml_L_240, ms_L_reviews, mk_L, wg_ok (i := 1262) (by decide +kernel)⟩, by decide, by decide +kernel, by decide +kernel, by decide +kernel⟩
theorem so_L_243 : sw_ok RL 243 yL_nextTo cL_nextTo 4 (some .int) [(0, 9, 12, 13)] 3 := ⟨⟨ml_L_243, ms_L_nextTo, mk_L, wg_ok (i := 1285) (by decide +kernel)⟩, by decide, by decide +kernel, by decide +kernel, by decide +kernel⟩
theorem so_L_246 : sw_ok RL 246 yL_alike cL_alike 4 (some .int) [(0, 9, 12, 13)] 3 := ⟨⟨ml_L_246, ms_L_alike, mk_L, wg_ok (i := 1293) (by decide +kernel)⟩, by decide, by decide +kernel, by decide +kernel, by decide +kernel⟩
theorem so_L_249 : sw_ok RL 249 yL_lost cL_lost 4 (some .int) [(0, 9, 12, 18)] 3 := ⟨⟨ml_L_249, ms_L_lost, mk_L, wg_ok (i := 1300) (by decide +kernel)⟩, by decide, by decide +kernel, by decide +kernel, by decide +kernel⟩
theorem so_L_252 : sw_ok RL 252 yL_mates cL_mates 4 (some .int) [(0, 9, 12, 18)] 3 := ⟨⟨ml_L_252, ms_L_mates, mk_L, wg_ok (i := 1307) (by decide +kernel)⟩, by decide, by decide +kernel, by decide +kernel, by decide +kernel⟩
theorem so_L_259 : sw_ok RL 259 yL_chain cL_chain 6 (some .int) [(0, 12, 15, 18), (0, 12, 19, 13)] 5 := ⟨⟨ml_L_259, ms_L_chain, mk_L, wg_ok (i := 1314) (by decide +kernel)⟩, by decide, by decide +kernel, by decide +kernel, by decide +kernel⟩
theorem so_L_262 : sw_ok RL 262 yL_most cL_most 4 (some .int) [(0, 9, 12, 13)] 3 := ⟨⟨ml_L_262, ms_L_most, mk_L, wg_ok (i := 1325) (by decide +kernel)⟩, by decide, by decide +kernel, by decide +kernel, by decide +kernel⟩
theorem so_L_265 : sw_ok RL 265 yL_often cL_often 5 (some .int) [(0, 10, 13, 18), (0, 10, 17, 13)] 4 := ⟨⟨ml_L_265, ms_L_often, mk_L, wg_ok (i := 1332) (by decide +kernel)⟩, by decide, by decide +kernel, by decide +kernel, by decide +kernel⟩
theorem so_L_268 : sw_ok RL 268 yL_spoilt cL_spoilt 4 (some .int) [(0, 9, 12, 18)] 3 := ⟨⟨ml_L_268, ms_L_spoilt, mk_L, wg_ok (i := 1339) (by decide +kernel)⟩, by decide, by decide +kernel, by decide +kernel, by decide +kernel⟩
theorem so_L_271 : sw_ok RL 271 yL_reform cL_reform 5 (some .int) [(0, 10, 13, 18)] 4 := ⟨⟨ml_L_271, ms_L_reform, mk_L, wg_ok (i := 1346) (by decide +kernel)⟩, by decide, by decide +kernel, by decide +kernel, by decide +kernel⟩
theorem so_L_282 : sw_ok RL 282 yL_run cL_run 4 (some .int) [(0, 9, 12, 18)] 3 := ⟨⟨ml_L_282, ms_L_run, mk_L, wg_ok (i := 1363) (by decide +kernel)⟩, by decide, by decide +kernel, by decide +kernel, by decide +kernel⟩
section S_law
variable {p : Program} {l : Launch} {e : Env} {s : State} {m : MethodId} {b : Nat} {below : List Frame} {meth : Method} {c : Code} {G : hp_G} {o : hp_H} {L : Nat} {xs : Nat → Int32} {n kc ks : Nat}
def f_L_law_2805 (L : Nat) (xs : Nat → Int32)  (h : hp_H) : Option hp_H := some h
set_option maxRecDepth 40000 in
set_option maxHeartbeats 4000000 in
theorem w_L_law_2805 (hb : kc + (n) ≤ 601024 ∧ ks + 6 * (n) ≤ 7293034) (X : wx G p s m #[Value.ref b] meth c cL_law 7 RL (some .boolean)) (HX : wsc G s L xs ∧ G.1 = s.heap.size)  (h : hp_H) (hf : f_L_law_2805 L xs  h = some o) : wq p l e (mt_R 1750 601024 7293034) s m #[Value.ref b] below meth c (lw_Z below #[Value.ref b] s) G 7 kc ks 2805 [] [] h := by
  unfold f_L_law_2805 at hf
  refine wk_iconst X dL_law_2805 ic_1 ?_
  exact wl_end X HX.2 (by omega) (by omega) dL_law_2806
def f_L_law_2799 (L : Nat) (xs : Nat → Int32) (k23 : Nat → Nat → Nat → Int32 → hp_H → Option hp_H) (x1 : Nat) (x2 : Nat) (x3 : Nat) (x4 : Int32) (h : hp_H) : Option hp_H := k23 x1 x2 x3 (x4 + 6) h
set_option maxRecDepth 40000 in
set_option maxHeartbeats 4000000 in
theorem w_L_law_2799 (hb : kc + (n) ≤ 601024 ∧ ks + 6 * (n) ≤ 7293034) (X : wx G p s m #[Value.ref b] meth c cL_law 7 RL (some .boolean)) (HX : wsc G s L xs ∧ G.1 = s.heap.size) (k23 : Nat → Nat → Nat → Int32 → hp_H → Option hp_H) (hk23 : ∀ (x1 : Nat) (x2 : Nat) (x3 : Nat) (x4 : Int32) (h : hp_H) (kc ks : Nat), kc + n ≤ 601024 ∧ ks + 6 * n ≤ 7293034 → k23 x1 x2 x3 x4 h = some o → wq p l e (mt_R 1750 601024 7293034) s m #[Value.ref b] below meth c (lw_Z below #[Value.ref b] s) G 7 kc ks 23 [(0, .float 97), (1, .ref x1), (2, .ref x2), (3, .ref x3), (4, .int x4)] [] h) (x1 : Nat) (x2 : Nat) (x3 : Nat) (x4 : Int32) (h : hp_H) (hf : f_L_law_2799 L xs k23 x1 x2 x3 x4 h = some o) : wq p l e (mt_R 1750 601024 7293034) s m #[Value.ref b] below meth c (lw_Z below #[Value.ref b] s) G 7 kc ks 2799 [(0, .float 97), (1, .ref x1), (2, .ref x2), (3, .ref x3), (4, .int x4)] [] h := by
  unfold f_L_law_2799 at hf
  refine wk_iinc (lv' := [(4, .int (x4 + 6)), (0, .float 97), (1, .ref x1), (2, .ref x2), (3, .ref x3)]) X dL_law_2799 4 rfl ic_6 (by decide) rfl ?_
  refine wk_goto X 23 dL_law_2802 (by decide) ?_
  exact wq_sub [1, 2, 3, 4, 0] rfl (hk23 _ _ _ _ _ _ _ ⟨by omega, by omega⟩ hf)
def f_L_law_374 (L : Nat) (xs : Nat → Int32) (k23 : Nat → Nat → Nat → Int32 → hp_H → Option hp_H) (x1 : Nat) (x2 : Nat) (x3 : Nat) (x4 : Int32) (h : hp_H) : Option hp_H := f_L_law_2799 L xs k23 x1 x2 x3 x4 h
set_option maxRecDepth 40000 in
set_option maxHeartbeats 4000000 in
theorem w_L_law_374 (hb : kc + (n) ≤ 601024 ∧ ks + 6 * (n) ≤ 7293034) (X : wx G p s m #[Value.ref b] meth c cL_law 7 RL (some .boolean)) (HX : wsc G s L xs ∧ G.1 = s.heap.size) (k23 : Nat → Nat → Nat → Int32 → hp_H → Option hp_H) (hk23 : ∀ (x1 : Nat) (x2 : Nat) (x3 : Nat) (x4 : Int32) (h : hp_H) (kc ks : Nat), kc + n ≤ 601024 ∧ ks + 6 * n ≤ 7293034 → k23 x1 x2 x3 x4 h = some o → wq p l e (mt_R 1750 601024 7293034) s m #[Value.ref b] below meth c (lw_Z below #[Value.ref b] s) G 7 kc ks 23 [(0, .float 97), (1, .ref x1), (2, .ref x2), (3, .ref x3), (4, .int x4)] [] h) (x1 : Nat) (x2 : Nat) (x3 : Nat) (x4 : Int32) (h : hp_H) (hf : f_L_law_374 L xs k23 x1 x2 x3 x4 h = some o) : wq p l e (mt_R 1750 601024 7293034) s m #[Value.ref b] below meth c (lw_Z below #[Value.ref b] s) G 7 kc ks 374 [(0, .float 97), (1, .ref x1), (2, .ref x2), (3, .ref x3), (4, .int x4)] [] h := by
  unfold f_L_law_374 at hf
  refine wk_goto X 2799 dL_law_374 (by decide) ?_
  exact wq_sub [0, 1, 2, 3, 4] rfl (w_L_law_2799 (n := n) ⟨by omega, by omega⟩ X HX k23 hk23 _ _ _ _ _ hf)
def f_L_law_443 (L : Nat) (xs : Nat → Int32) (k23 : Nat → Nat → Nat → Int32 → hp_H → Option hp_H) (x1 : Nat) (x2 : Nat) (x3 : Nat) (x4 : Int32) (h : hp_H) : Option hp_H := f_L_law_2799 L xs k23 x1 x2 x3 x4 h
set_option maxRecDepth 40000 in
set_option maxHeartbeats 4000000 in
theorem w_L_law_443 (hb : kc + (n) ≤ 601024 ∧ ks + 6 * (n) ≤ 7293034) (X : wx G p s m #[Value.ref b] meth c cL_law 7 RL (some .boolean)) (HX : wsc G s L xs ∧ G.1 = s.heap.size) (k23 : Nat → Nat → Nat → Int32 → hp_H → Option hp_H) (hk23 : ∀ (x1 : Nat) (x2 : Nat) (x3 : Nat) (x4 : Int32) (h : hp_H) (kc ks : Nat), kc + n ≤ 601024 ∧ ks + 6 * n ≤ 7293034 → k23 x1 x2 x3 x4 h = some o → wq p l e (mt_R 1750 601024 7293034) s m #[Value.ref b] below meth c (lw_Z below #[Value.ref b] s) G 7 kc ks 23 [(0, .float 97), (1, .ref x1), (2, .ref x2), (3, .ref x3), (4, .int x4)] [] h) (x1 : Nat) (x2 : Nat) (x3 : Nat) (x4 : Int32) (h : hp_H) (hf : f_L_law_443 L xs k23 x1 x2 x3 x4 h = some o) : wq p l e (mt_R 1750 601024 7293034) s m #[Value.ref b] below meth c (lw_Z below #[Value.ref b] s) G 7 kc ks 443 [(0, .float 97), (1, .ref x1), (2, .ref x2), (3, .ref x3), (4, .int x4)] [] h := by
  unfold f_L_law_443 at hf
  refine wk_goto X 2799 dL_law_443 (by decide) ?_
  exact wq_sub [0, 1, 2, 3, 4] rfl (w_L_law_2799 (n := n) ⟨by omega, by omega⟩ X HX k23 hk23 _ _ _ _ _ hf)
def f_L_law_511 (L : Nat) (xs : Nat → Int32) (k23 : Nat → Nat → Nat → Int32 → hp_H → Option hp_H) (x1 : Nat) (x2 : Nat) (x3 : Nat) (x4 : Int32) (h : hp_H) : Option hp_H := f_L_law_2799 L xs k23 x1 x2 x3 x4 h
set_option maxRecDepth 40000 in
set_option maxHeartbeats 4000000 in
theorem w_L_law_511 (hb : kc + (n) ≤ 601024 ∧ ks + 6 * (n) ≤ 7293034) (X : wx G p s m #[Value.ref b] meth c cL_law 7 RL (some .boolean)) (HX : wsc G s L xs ∧ G.1 = s.heap.size) (k23 : Nat → Nat → Nat → Int32 → hp_H → Option hp_H) (hk23 : ∀ (x1 : Nat) (x2 : Nat) (x3 : Nat) (x4 : Int32) (h : hp_H) (kc ks : Nat), kc + n ≤ 601024 ∧ ks + 6 * n ≤ 7293034 → k23 x1 x2 x3 x4 h = some o → wq p l e (mt_R 1750 601024 7293034) s m #[Value.ref b] below meth c (lw_Z below #[Value.ref b] s) G 7 kc ks 23 [(0, .float 97), (1, .ref x1), (2, .ref x2), (3, .ref x3), (4, .int x4)] [] h) (x1 : Nat) (x2 : Nat) (x3 : Nat) (x4 : Int32) (h : hp_H) (hf : f_L_law_511 L xs k23 x1 x2 x3 x4 h = some o) : wq p l e (mt_R 1750 601024 7293034) s m #[Value.ref b] below meth c (lw_Z below #[Value.ref b] s) G 7 kc ks 511 [(0, .float 97), (1, .ref x1), (2, .ref x2), (3, .ref x3), (4, .int x4)] [] h := by
  unfold f_L_law_511 at hf
  refine wk_goto X 2799 dL_law_511 (by decide) ?_
  exact wq_sub [0, 1, 2, 3, 4] rfl (w_L_law_2799 (n := n) ⟨by omega, by omega⟩ X HX k23 hk23 _ _ _ _ _ hf)
def f_L_law_579 (L : Nat) (xs : Nat → Int32) (k23 : Nat → Nat → Nat → Int32 → hp_H → Option hp_H) (x1 : Nat) (x2 : Nat) (x3 : Nat) (x4 : Int32) (h : hp_H) : Option hp_H := f_L_law_2799 L xs k23 x1 x2 x3 x4 h
set_option maxRecDepth 40000 in
set_option maxHeartbeats 4000000 in
theorem w_L_law_579 (hb : kc + (n) ≤ 601024 ∧ ks + 6 * (n) ≤ 7293034) (X : wx G p s m #[Value.ref b] meth c cL_law 7 RL (some .boolean)) (HX : wsc G s L xs ∧ G.1 = s.heap.size) (k23 : Nat → Nat → Nat → Int32 → hp_H → Option hp_H) (hk23 : ∀ (x1 : Nat) (x2 : Nat) (x3 : Nat) (x4 : Int32) (h : hp_H) (kc ks : Nat), kc + n ≤ 601024 ∧ ks + 6 * n ≤ 7293034 → k23 x1 x2 x3 x4 h = some o → wq p l e (mt_R 1750 601024 7293034) s m #[Value.ref b] below meth c (lw_Z below #[Value.ref b] s) G 7 kc ks 23 [(0, .float 97), (1, .ref x1), (2, .ref x2), (3, .ref x3), (4, .int x4)] [] h) (x1 : Nat) (x2 : Nat) (x3 : Nat) (x4 : Int32) (h : hp_H) (hf : f_L_law_579 L xs k23 x1 x2 x3 x4 h = some o) : wq p l e (mt_R 1750 601024 7293034) s m #[Value.ref b] below meth c (lw_Z below #[Value.ref b] s) G 7 kc ks 579 [(0, .float 97), (1, .ref x1), (2, .ref x2), (3, .ref x3), (4, .int x4)] [] h := by
  unfold f_L_law_579 at hf
  refine wk_goto X 2799 dL_law_579 (by decide) ?_
  exact wq_sub [0, 1, 2, 3, 4] rfl (w_L_law_2799 (n := n) ⟨by omega, by omega⟩ X HX k23 hk23 _ _ _ _ _ hf)
def f_L_law_672 (L : Nat) (xs : Nat → Int32) (k23 : Nat → Nat → Nat → Int32 → hp_H → Option hp_H) (x1 : Nat) (x2 : Nat) (x3 : Nat) (x4 : Int32) (h : hp_H) : Option hp_H := f_L_law_2799 L xs k23 x1 x2 x3 x4 h
set_option maxRecDepth 40000 in
set_option maxHeartbeats 4000000 in
theorem w_L_law_672 (hb : kc + (n) ≤ 601024 ∧ ks + 6 * (n) ≤ 7293034) (X : wx G p s m #[Value.ref b] meth c cL_law 7 RL (some .boolean)) (HX : wsc G s L xs ∧ G.1 = s.heap.size) (k23 : Nat → Nat → Nat → Int32 → hp_H → Option hp_H) (hk23 : ∀ (x1 : Nat) (x2 : Nat) (x3 : Nat) (x4 : Int32) (h : hp_H) (kc ks : Nat), kc + n ≤ 601024 ∧ ks + 6 * n ≤ 7293034 → k23 x1 x2 x3 x4 h = some o → wq p l e (mt_R 1750 601024 7293034) s m #[Value.ref b] below meth c (lw_Z below #[Value.ref b] s) G 7 kc ks 23 [(0, .float 97), (1, .ref x1), (2, .ref x2), (3, .ref x3), (4, .int x4)] [] h) (x1 : Nat) (x2 : Nat) (x3 : Nat) (x4 : Int32) (h : hp_H) (hf : f_L_law_672 L xs k23 x1 x2 x3 x4 h = some o) : wq p l e (mt_R 1750 601024 7293034) s m #[Value.ref b] below meth c (lw_Z below #[Value.ref b] s) G 7 kc ks 672 [(0, .float 97), (1, .ref x1), (2, .ref x2), (3, .ref x3), (4, .int x4)] [] h := by
  unfold f_L_law_672 at hf
  refine wk_goto X 2799 dL_law_672 (by decide) ?_
  exact wq_sub [0, 1, 2, 3, 4] rfl (w_L_law_2799 (n := n) ⟨by omega, by omega⟩ X HX k23 hk23 _ _ _ _ _ hf)
def f_L_law_740 (L : Nat) (xs : Nat → Int32) (k23 : Nat → Nat → Nat → Int32 → hp_H → Option hp_H) (x1 : Nat) (x2 : Nat) (x3 : Nat) (x4 : Int32) (h : hp_H) : Option hp_H := f_L_law_2799 L xs k23 x1 x2 x3 x4 h
set_option maxRecDepth 40000 in
set_option maxHeartbeats 4000000 in
theorem w_L_law_740 (hb : kc + (n) ≤ 601024 ∧ ks + 6 * (n) ≤ 7293034) (X : wx G p s m #[Value.ref b] meth c cL_law 7 RL (some .boolean)) (HX : wsc G s L xs ∧ G.1 = s.heap.size) (k23 : Nat → Nat → Nat → Int32 → hp_H → Option hp_H) (hk23 : ∀ (x1 : Nat) (x2 : Nat) (x3 : Nat) (x4 : Int32) (h : hp_H) (kc ks : Nat), kc + n ≤ 601024 ∧ ks + 6 * n ≤ 7293034 → k23 x1 x2 x3 x4 h = some o → wq p l e (mt_R 1750 601024 7293034) s m #[Value.ref b] below meth c (lw_Z below #[Value.ref b] s) G 7 kc ks 23 [(0, .float 97), (1, .ref x1), (2, .ref x2), (3, .ref x3), (4, .int x4)] [] h) (x1 : Nat) (x2 : Nat) (x3 : Nat) (x4 : Int32) (h : hp_H) (hf : f_L_law_740 L xs k23 x1 x2 x3 x4 h = some o) : wq p l e (mt_R 1750 601024 7293034) s m #[Value.ref b] below meth c (lw_Z below #[Value.ref b] s) G 7 kc ks 740 [(0, .float 97), (1, .ref x1), (2, .ref x2), (3, .ref x3), (4, .int x4)] [] h := by
  unfold f_L_law_740 at hf
  refine wk_goto X 2799 dL_law_740 (by decide) ?_
  exact wq_sub [0, 1, 2, 3, 4] rfl (w_L_law_2799 (n := n) ⟨by omega, by omega⟩ X HX k23 hk23 _ _ _ _ _ hf)
def f_L_law_808 (L : Nat) (xs : Nat → Int32) (k23 : Nat → Nat → Nat → Int32 → hp_H → Option hp_H) (x1 : Nat) (x2 : Nat) (x3 : Nat) (x4 : Int32) (h : hp_H) : Option hp_H := f_L_law_2799 L xs k23 x1 x2 x3 x4 h
set_option maxRecDepth 40000 in
set_option maxHeartbeats 4000000 in
theorem w_L_law_808 (hb : kc + (n) ≤ 601024 ∧ ks + 6 * (n) ≤ 7293034) (X : wx G p s m #[Value.ref b] meth c cL_law 7 RL (some .boolean)) (HX : wsc G s L xs ∧ G.1 = s.heap.size) (k23 : Nat → Nat → Nat → Int32 → hp_H → Option hp_H) (hk23 : ∀ (x1 : Nat) (x2 : Nat) (x3 : Nat) (x4 : Int32) (h : hp_H) (kc ks : Nat), kc + n ≤ 601024 ∧ ks + 6 * n ≤ 7293034 → k23 x1 x2 x3 x4 h = some o → wq p l e (mt_R 1750 601024 7293034) s m #[Value.ref b] below meth c (lw_Z below #[Value.ref b] s) G 7 kc ks 23 [(0, .float 97), (1, .ref x1), (2, .ref x2), (3, .ref x3), (4, .int x4)] [] h) (x1 : Nat) (x2 : Nat) (x3 : Nat) (x4 : Int32) (h : hp_H) (hf : f_L_law_808 L xs k23 x1 x2 x3 x4 h = some o) : wq p l e (mt_R 1750 601024 7293034) s m #[Value.ref b] below meth c (lw_Z below #[Value.ref b] s) G 7 kc ks 808 [(0, .float 97), (1, .ref x1), (2, .ref x2), (3, .ref x3), (4, .int x4)] [] h := by
  unfold f_L_law_808 at hf
  refine wk_goto X 2799 dL_law_808 (by decide) ?_
  exact wq_sub [0, 1, 2, 3, 4] rfl (w_L_law_2799 (n := n) ⟨by omega, by omega⟩ X HX k23 hk23 _ _ _ _ _ hf)
def f_L_law_883 (L : Nat) (xs : Nat → Int32) (k23 : Nat → Nat → Nat → Int32 → hp_H → Option hp_H) (x1 : Nat) (x2 : Nat) (x3 : Nat) (x4 : Int32) (h : hp_H) : Option hp_H := f_L_law_2799 L xs k23 x1 x2 x3 x4 h
set_option maxRecDepth 40000 in
set_option maxHeartbeats 4000000 in
theorem w_L_law_883 (hb : kc + (n) ≤ 601024 ∧ ks + 6 * (n) ≤ 7293034) (X : wx G p s m #[Value.ref b] meth c cL_law 7 RL (some .boolean)) (HX : wsc G s L xs ∧ G.1 = s.heap.size) (k23 : Nat → Nat → Nat → Int32 → hp_H → Option hp_H) (hk23 : ∀ (x1 : Nat) (x2 : Nat) (x3 : Nat) (x4 : Int32) (h : hp_H) (kc ks : Nat), kc + n ≤ 601024 ∧ ks + 6 * n ≤ 7293034 → k23 x1 x2 x3 x4 h = some o → wq p l e (mt_R 1750 601024 7293034) s m #[Value.ref b] below meth c (lw_Z below #[Value.ref b] s) G 7 kc ks 23 [(0, .float 97), (1, .ref x1), (2, .ref x2), (3, .ref x3), (4, .int x4)] [] h) (x1 : Nat) (x2 : Nat) (x3 : Nat) (x4 : Int32) (h : hp_H) (hf : f_L_law_883 L xs k23 x1 x2 x3 x4 h = some o) : wq p l e (mt_R 1750 601024 7293034) s m #[Value.ref b] below meth c (lw_Z below #[Value.ref b] s) G 7 kc ks 883 [(0, .float 97), (1, .ref x1), (2, .ref x2), (3, .ref x3), (4, .int x4)] [] h := by
  unfold f_L_law_883 at hf
  refine wk_goto X 2799 dL_law_883 (by decide) ?_
  exact wq_sub [0, 1, 2, 3, 4] rfl (w_L_law_2799 (n := n) ⟨by omega, by omega⟩ X HX k23 hk23 _ _ _ _ _ hf)
def f_L_law_877 (L : Nat) (xs : Nat → Int32) (k23 : Nat → Nat → Nat → Int32 → hp_H → Option hp_H) (x1 : Nat) (x2 : Nat) (x3 : Nat) (x4 : Int32) (t0 : Int64) (t1 : Int64) (h : hp_H) : Option hp_H := if (lg_cmp t0 t1) = 0 then (f_L_law_883 L xs k23 x1 x2 x3 x4 h) else (none)
set_option maxRecDepth 40000 in
set_option maxHeartbeats 4000000 in
theorem w_L_law_877 (hb : kc + (n) ≤ 601024 ∧ ks + 6 * (n) ≤ 7293034) (X : wx G p s m #[Value.ref b] meth c cL_law 7 RL (some .boolean)) (HX : wsc G s L xs ∧ G.1 = s.heap.size) (k23 : Nat → Nat → Nat → Int32 → hp_H → Option hp_H) (hk23 : ∀ (x1 : Nat) (x2 : Nat) (x3 : Nat) (x4 : Int32) (h : hp_H) (kc ks : Nat), kc + n ≤ 601024 ∧ ks + 6 * n ≤ 7293034 → k23 x1 x2 x3 x4 h = some o → wq p l e (mt_R 1750 601024 7293034) s m #[Value.ref b] below meth c (lw_Z below #[Value.ref b] s) G 7 kc ks 23 [(0, .float 97), (1, .ref x1), (2, .ref x2), (3, .ref x3), (4, .int x4)] [] h) (x1 : Nat) (x2 : Nat) (x3 : Nat) (x4 : Int32) (t0 : Int64) (t1 : Int64) (h : hp_H) (hf : f_L_law_877 L xs k23 x1 x2 x3 x4 t0 t1 h = some o) : wq p l e (mt_R 1750 601024 7293034) s m #[Value.ref b] below meth c (lw_Z below #[Value.ref b] s) G 7 kc ks 877 [(0, .float 97), (1, .ref x1), (2, .ref x2), (3, .ref x3), (4, .int x4)] [.long t1, .long t0] h := by
  unfold f_L_law_877 at hf
  refine wk_lcmp X dL_law_877 ?_
  refine wk_if_eq X 883 dL_law_878 (by decide) hf (fun hf => ?_) (fun hf => ?_)
  · exact wq_sub [0, 1, 2, 3, 4] rfl (w_L_law_883 (n := n) ⟨by omega, by omega⟩ X HX k23 hk23 _ _ _ _ _ hf)
  · refine wk_iconst X dL_law_881 ic_0 ?_
    exact nomatch hf
def f_L_law_976 (L : Nat) (xs : Nat → Int32) (k23 : Nat → Nat → Nat → Int32 → hp_H → Option hp_H) (x1 : Nat) (x2 : Nat) (x3 : Nat) (x4 : Int32) (h : hp_H) : Option hp_H := f_L_law_2799 L xs k23 x1 x2 x3 x4 h
set_option maxRecDepth 40000 in
set_option maxHeartbeats 4000000 in
theorem w_L_law_976 (hb : kc + (n) ≤ 601024 ∧ ks + 6 * (n) ≤ 7293034) (X : wx G p s m #[Value.ref b] meth c cL_law 7 RL (some .boolean)) (HX : wsc G s L xs ∧ G.1 = s.heap.size) (k23 : Nat → Nat → Nat → Int32 → hp_H → Option hp_H) (hk23 : ∀ (x1 : Nat) (x2 : Nat) (x3 : Nat) (x4 : Int32) (h : hp_H) (kc ks : Nat), kc + n ≤ 601024 ∧ ks + 6 * n ≤ 7293034 → k23 x1 x2 x3 x4 h = some o → wq p l e (mt_R 1750 601024 7293034) s m #[Value.ref b] below meth c (lw_Z below #[Value.ref b] s) G 7 kc ks 23 [(0, .float 97), (1, .ref x1), (2, .ref x2), (3, .ref x3), (4, .int x4)] [] h) (x1 : Nat) (x2 : Nat) (x3 : Nat) (x4 : Int32) (h : hp_H) (hf : f_L_law_976 L xs k23 x1 x2 x3 x4 h = some o) : wq p l e (mt_R 1750 601024 7293034) s m #[Value.ref b] below meth c (lw_Z below #[Value.ref b] s) G 7 kc ks 976 [(0, .float 97), (1, .ref x1), (2, .ref x2), (3, .ref x3), (4, .int x4)] [] h := by
  unfold f_L_law_976 at hf
  refine wk_goto X 2799 dL_law_976 (by decide) ?_
  exact wq_sub [0, 1, 2, 3, 4] rfl (w_L_law_2799 (n := n) ⟨by omega, by omega⟩ X HX k23 hk23 _ _ _ _ _ hf)
def f_L_law_1044 (L : Nat) (xs : Nat → Int32) (k23 : Nat → Nat → Nat → Int32 → hp_H → Option hp_H) (x1 : Nat) (x2 : Nat) (x3 : Nat) (x4 : Int32) (h : hp_H) : Option hp_H := f_L_law_2799 L xs k23 x1 x2 x3 x4 h
set_option maxRecDepth 40000 in
set_option maxHeartbeats 4000000 in
theorem w_L_law_1044 (hb : kc + (n) ≤ 601024 ∧ ks + 6 * (n) ≤ 7293034) (X : wx G p s m #[Value.ref b] meth c cL_law 7 RL (some .boolean)) (HX : wsc G s L xs ∧ G.1 = s.heap.size) (k23 : Nat → Nat → Nat → Int32 → hp_H → Option hp_H) (hk23 : ∀ (x1 : Nat) (x2 : Nat) (x3 : Nat) (x4 : Int32) (h : hp_H) (kc ks : Nat), kc + n ≤ 601024 ∧ ks + 6 * n ≤ 7293034 → k23 x1 x2 x3 x4 h = some o → wq p l e (mt_R 1750 601024 7293034) s m #[Value.ref b] below meth c (lw_Z below #[Value.ref b] s) G 7 kc ks 23 [(0, .float 97), (1, .ref x1), (2, .ref x2), (3, .ref x3), (4, .int x4)] [] h) (x1 : Nat) (x2 : Nat) (x3 : Nat) (x4 : Int32) (h : hp_H) (hf : f_L_law_1044 L xs k23 x1 x2 x3 x4 h = some o) : wq p l e (mt_R 1750 601024 7293034) s m #[Value.ref b] below meth c (lw_Z below #[Value.ref b] s) G 7 kc ks 1044 [(0, .float 97), (1, .ref x1), (2, .ref x2), (3, .ref x3), (4, .int x4)] [] h := by
  unfold f_L_law_1044 at hf
  refine wk_goto X 2799 dL_law_1044 (by decide) ?_
  exact wq_sub [0, 1, 2, 3, 4] rfl (w_L_law_2799 (n := n) ⟨by omega, by omega⟩ X HX k23 hk23 _ _ _ _ _ hf)
def f_L_law_1100 (L : Nat) (xs : Nat → Int32) (k23 : Nat → Nat → Nat → Int32 → hp_H → Option hp_H) (x1 : Nat) (x2 : Nat) (x3 : Nat) (x4 : Int32) (h : hp_H) : Option hp_H := f_L_law_2799 L xs k23 x1 x2 x3 x4 h
set_option maxRecDepth 40000 in
set_option maxHeartbeats 4000000 in
theorem w_L_law_1100 (hb : kc + (n) ≤ 601024 ∧ ks + 6 * (n) ≤ 7293034) (X : wx G p s m #[Value.ref b] meth c cL_law 7 RL (some .boolean)) (HX : wsc G s L xs ∧ G.1 = s.heap.size) (k23 : Nat → Nat → Nat → Int32 → hp_H → Option hp_H) (hk23 : ∀ (x1 : Nat) (x2 : Nat) (x3 : Nat) (x4 : Int32) (h : hp_H) (kc ks : Nat), kc + n ≤ 601024 ∧ ks + 6 * n ≤ 7293034 → k23 x1 x2 x3 x4 h = some o → wq p l e (mt_R 1750 601024 7293034) s m #[Value.ref b] below meth c (lw_Z below #[Value.ref b] s) G 7 kc ks 23 [(0, .float 97), (1, .ref x1), (2, .ref x2), (3, .ref x3), (4, .int x4)] [] h) (x1 : Nat) (x2 : Nat) (x3 : Nat) (x4 : Int32) (h : hp_H) (hf : f_L_law_1100 L xs k23 x1 x2 x3 x4 h = some o) : wq p l e (mt_R 1750 601024 7293034) s m #[Value.ref b] below meth c (lw_Z below #[Value.ref b] s) G 7 kc ks 1100 [(0, .float 97), (1, .ref x1), (2, .ref x2), (3, .ref x3), (4, .int x4)] [] h := by
  unfold f_L_law_1100 at hf
  refine wk_goto X 2799 dL_law_1100 (by decide) ?_
  exact wq_sub [0, 1, 2, 3, 4] rfl (w_L_law_2799 (n := n) ⟨by omega, by omega⟩ X HX k23 hk23 _ _ _ _ _ hf)
def f_L_law_1156 (L : Nat) (xs : Nat → Int32) (k23 : Nat → Nat → Nat → Int32 → hp_H → Option hp_H) (x1 : Nat) (x2 : Nat) (x3 : Nat) (x4 : Int32) (h : hp_H) : Option hp_H := f_L_law_2799 L xs k23 x1 x2 x3 x4 h
set_option maxRecDepth 40000 in
set_option maxHeartbeats 4000000 in
theorem w_L_law_1156 (hb : kc + (n) ≤ 601024 ∧ ks + 6 * (n) ≤ 7293034) (X : wx G p s m #[Value.ref b] meth c cL_law 7 RL (some .boolean)) (HX : wsc G s L xs ∧ G.1 = s.heap.size) (k23 : Nat → Nat → Nat → Int32 → hp_H → Option hp_H) (hk23 : ∀ (x1 : Nat) (x2 : Nat) (x3 : Nat) (x4 : Int32) (h : hp_H) (kc ks : Nat), kc + n ≤ 601024 ∧ ks + 6 * n ≤ 7293034 → k23 x1 x2 x3 x4 h = some o → wq p l e (mt_R 1750 601024 7293034) s m #[Value.ref b] below meth c (lw_Z below #[Value.ref b] s) G 7 kc ks 23 [(0, .float 97), (1, .ref x1), (2, .ref x2), (3, .ref x3), (4, .int x4)] [] h) (x1 : Nat) (x2 : Nat) (x3 : Nat) (x4 : Int32) (h : hp_H) (hf : f_L_law_1156 L xs k23 x1 x2 x3 x4 h = some o) : wq p l e (mt_R 1750 601024 7293034) s m #[Value.ref b] below meth c (lw_Z below #[Value.ref b] s) G 7 kc ks 1156 [(0, .float 97), (1, .ref x1), (2, .ref x2), (3, .ref x3), (4, .int x4)] [] h := by
  unfold f_L_law_1156 at hf
  refine wk_goto X 2799 dL_law_1156 (by decide) ?_
  exact wq_sub [0, 1, 2, 3, 4] rfl (w_L_law_2799 (n := n) ⟨by omega, by omega⟩ X HX k23 hk23 _ _ _ _ _ hf)
def f_L_law_1212 (L : Nat) (xs : Nat → Int32) (k23 : Nat → Nat → Nat → Int32 → hp_H → Option hp_H) (x1 : Nat) (x2 : Nat) (x3 : Nat) (x4 : Int32) (h : hp_H) : Option hp_H := f_L_law_2799 L xs k23 x1 x2 x3 x4 h
set_option maxRecDepth 40000 in
set_option maxHeartbeats 4000000 in
theorem w_L_law_1212 (hb : kc + (n) ≤ 601024 ∧ ks + 6 * (n) ≤ 7293034) (X : wx G p s m #[Value.ref b] meth c cL_law 7 RL (some .boolean)) (HX : wsc G s L xs ∧ G.1 = s.heap.size) (k23 : Nat → Nat → Nat → Int32 → hp_H → Option hp_H) (hk23 : ∀ (x1 : Nat) (x2 : Nat) (x3 : Nat) (x4 : Int32) (h : hp_H) (kc ks : Nat), kc + n ≤ 601024 ∧ ks + 6 * n ≤ 7293034 → k23 x1 x2 x3 x4 h = some o → wq p l e (mt_R 1750 601024 7293034) s m #[Value.ref b] below meth c (lw_Z below #[Value.ref b] s) G 7 kc ks 23 [(0, .float 97), (1, .ref x1), (2, .ref x2), (3, .ref x3), (4, .int x4)] [] h) (x1 : Nat) (x2 : Nat) (x3 : Nat) (x4 : Int32) (h : hp_H) (hf : f_L_law_1212 L xs k23 x1 x2 x3 x4 h = some o) : wq p l e (mt_R 1750 601024 7293034) s m #[Value.ref b] below meth c (lw_Z below #[Value.ref b] s) G 7 kc ks 1212 [(0, .float 97), (1, .ref x1), (2, .ref x2), (3, .ref x3), (4, .int x4)] [] h := by
  unfold f_L_law_1212 at hf
  refine wk_goto X 2799 dL_law_1212 (by decide) ?_
  exact wq_sub [0, 1, 2, 3, 4] rfl (w_L_law_2799 (n := n) ⟨by omega, by omega⟩ X HX k23 hk23 _ _ _ _ _ hf)
def f_L_law_1280 (L : Nat) (xs : Nat → Int32) (k23 : Nat → Nat → Nat → Int32 → hp_H → Option hp_H) (x1 : Nat) (x2 : Nat) (x3 : Nat) (x4 : Int32) (h : hp_H) : Option hp_H := f_L_law_2799 L xs k23 x1 x2 x3 x4 h
set_option maxRecDepth 40000 in
set_option maxHeartbeats 4000000 in
theorem w_L_law_1280 (hb : kc + (n) ≤ 601024 ∧ ks + 6 * (n) ≤ 7293034) (X : wx G p s m #[Value.ref b] meth c cL_law 7 RL (some .boolean)) (HX : wsc G s L xs ∧ G.1 = s.heap.size) (k23 : Nat → Nat → Nat → Int32 → hp_H → Option hp_H) (hk23 : ∀ (x1 : Nat) (x2 : Nat) (x3 : Nat) (x4 : Int32) (h : hp_H) (kc ks : Nat), kc + n ≤ 601024 ∧ ks + 6 * n ≤ 7293034 → k23 x1 x2 x3 x4 h = some o → wq p l e (mt_R 1750 601024 7293034) s m #[Value.ref b] below meth c (lw_Z below #[Value.ref b] s) G 7 kc ks 23 [(0, .float 97), (1, .ref x1), (2, .ref x2), (3, .ref x3), (4, .int x4)] [] h) (x1 : Nat) (x2 : Nat) (x3 : Nat) (x4 : Int32) (h : hp_H) (hf : f_L_law_1280 L xs k23 x1 x2 x3 x4 h = some o) : wq p l e (mt_R 1750 601024 7293034) s m #[Value.ref b] below meth c (lw_Z below #[Value.ref b] s) G 7 kc ks 1280 [(0, .float 97), (1, .ref x1), (2, .ref x2), (3, .ref x3), (4, .int x4)] [] h := by
  unfold f_L_law_1280 at hf
  refine wk_goto X 2799 dL_law_1280 (by decide) ?_
  exact wq_sub [0, 1, 2, 3, 4] rfl (w_L_law_2799 (n := n) ⟨by omega, by omega⟩ X HX k23 hk23 _ _ _ _ _ hf)
def f_L_law_1349 (L : Nat) (xs : Nat → Int32) (k23 : Nat → Nat → Nat → Int32 → hp_H → Option hp_H) (x1 : Nat) (x2 : Nat) (x3 : Nat) (x4 : Int32) (h : hp_H) : Option hp_H := f_L_law_2799 L xs k23 x1 x2 x3 x4 h
set_option maxRecDepth 40000 in
set_option maxHeartbeats 4000000 in
theorem w_L_law_1349 (hb : kc + (n) ≤ 601024 ∧ ks + 6 * (n) ≤ 7293034) (X : wx G p s m #[Value.ref b] meth c cL_law 7 RL (some .boolean)) (HX : wsc G s L xs ∧ G.1 = s.heap.size) (k23 : Nat → Nat → Nat → Int32 → hp_H → Option hp_H) (hk23 : ∀ (x1 : Nat) (x2 : Nat) (x3 : Nat) (x4 : Int32) (h : hp_H) (kc ks : Nat), kc + n ≤ 601024 ∧ ks + 6 * n ≤ 7293034 → k23 x1 x2 x3 x4 h = some o → wq p l e (mt_R 1750 601024 7293034) s m #[Value.ref b] below meth c (lw_Z below #[Value.ref b] s) G 7 kc ks 23 [(0, .float 97), (1, .ref x1), (2, .ref x2), (3, .ref x3), (4, .int x4)] [] h) (x1 : Nat) (x2 : Nat) (x3 : Nat) (x4 : Int32) (h : hp_H) (hf : f_L_law_1349 L xs k23 x1 x2 x3 x4 h = some o) : wq p l e (mt_R 1750 601024 7293034) s m #[Value.ref b] below meth c (lw_Z below #[Value.ref b] s) G 7 kc ks 1349 [(0, .float 97), (1, .ref x1), (2, .ref x2), (3, .ref x3), (4, .int x4)] [] h := by
  unfold f_L_law_1349 at hf
  refine wk_goto X 2799 dL_law_1349 (by decide) ?_
  exact wq_sub [0, 1, 2, 3, 4] rfl (w_L_law_2799 (n := n) ⟨by omega, by omega⟩ X HX k23 hk23 _ _ _ _ _ hf)
def f_L_law_1405 (L : Nat) (xs : Nat → Int32) (k23 : Nat → Nat → Nat → Int32 → hp_H → Option hp_H) (x1 : Nat) (x2 : Nat) (x3 : Nat) (x4 : Int32) (h : hp_H) : Option hp_H := f_L_law_2799 L xs k23 x1 x2 x3 x4 h
set_option maxRecDepth 40000 in
set_option maxHeartbeats 4000000 in
theorem w_L_law_1405 (hb : kc + (n) ≤ 601024 ∧ ks + 6 * (n) ≤ 7293034) (X : wx G p s m #[Value.ref b] meth c cL_law 7 RL (some .boolean)) (HX : wsc G s L xs ∧ G.1 = s.heap.size) (k23 : Nat → Nat → Nat → Int32 → hp_H → Option hp_H) (hk23 : ∀ (x1 : Nat) (x2 : Nat) (x3 : Nat) (x4 : Int32) (h : hp_H) (kc ks : Nat), kc + n ≤ 601024 ∧ ks + 6 * n ≤ 7293034 → k23 x1 x2 x3 x4 h = some o → wq p l e (mt_R 1750 601024 7293034) s m #[Value.ref b] below meth c (lw_Z below #[Value.ref b] s) G 7 kc ks 23 [(0, .float 97), (1, .ref x1), (2, .ref x2), (3, .ref x3), (4, .int x4)] [] h) (x1 : Nat) (x2 : Nat) (x3 : Nat) (x4 : Int32) (h : hp_H) (hf : f_L_law_1405 L xs k23 x1 x2 x3 x4 h = some o) : wq p l e (mt_R 1750 601024 7293034) s m #[Value.ref b] below meth c (lw_Z below #[Value.ref b] s) G 7 kc ks 1405 [(0, .float 97), (1, .ref x1), (2, .ref x2), (3, .ref x3), (4, .int x4)] [] h := by
  unfold f_L_law_1405 at hf
  refine wk_goto X 2799 dL_law_1405 (by decide) ?_
  exact wq_sub [0, 1, 2, 3, 4] rfl (w_L_law_2799 (n := n) ⟨by omega, by omega⟩ X HX k23 hk23 _ _ _ _ _ hf)
def f_L_law_1473 (L : Nat) (xs : Nat → Int32) (k23 : Nat → Nat → Nat → Int32 → hp_H → Option hp_H) (x1 : Nat) (x2 : Nat) (x3 : Nat) (x4 : Int32) (h : hp_H) : Option hp_H := f_L_law_2799 L xs k23 x1 x2 x3 x4 h
set_option maxRecDepth 40000 in
set_option maxHeartbeats 4000000 in
theorem w_L_law_1473 (hb : kc + (n) ≤ 601024 ∧ ks + 6 * (n) ≤ 7293034) (X : wx G p s m #[Value.ref b] meth c cL_law 7 RL (some .boolean)) (HX : wsc G s L xs ∧ G.1 = s.heap.size) (k23 : Nat → Nat → Nat → Int32 → hp_H → Option hp_H) (hk23 : ∀ (x1 : Nat) (x2 : Nat) (x3 : Nat) (x4 : Int32) (h : hp_H) (kc ks : Nat), kc + n ≤ 601024 ∧ ks + 6 * n ≤ 7293034 → k23 x1 x2 x3 x4 h = some o → wq p l e (mt_R 1750 601024 7293034) s m #[Value.ref b] below meth c (lw_Z below #[Value.ref b] s) G 7 kc ks 23 [(0, .float 97), (1, .ref x1), (2, .ref x2), (3, .ref x3), (4, .int x4)] [] h) (x1 : Nat) (x2 : Nat) (x3 : Nat) (x4 : Int32) (h : hp_H) (hf : f_L_law_1473 L xs k23 x1 x2 x3 x4 h = some o) : wq p l e (mt_R 1750 601024 7293034) s m #[Value.ref b] below meth c (lw_Z below #[Value.ref b] s) G 7 kc ks 1473 [(0, .float 97), (1, .ref x1), (2, .ref x2), (3, .ref x3), (4, .int x4)] [] h := by
  unfold f_L_law_1473 at hf
  refine wk_goto X 2799 dL_law_1473 (by decide) ?_
  exact wq_sub [0, 1, 2, 3, 4] rfl (w_L_law_2799 (n := n) ⟨by omega, by omega⟩ X HX k23 hk23 _ _ _ _ _ hf)
def f_L_law_1529 (L : Nat) (xs : Nat → Int32) (k23 : Nat → Nat → Nat → Int32 → hp_H → Option hp_H) (x1 : Nat) (x2 : Nat) (x3 : Nat) (x4 : Int32) (h : hp_H) : Option hp_H := f_L_law_2799 L xs k23 x1 x2 x3 x4 h
set_option maxRecDepth 40000 in
set_option maxHeartbeats 4000000 in
theorem w_L_law_1529 (hb : kc + (n) ≤ 601024 ∧ ks + 6 * (n) ≤ 7293034) (X : wx G p s m #[Value.ref b] meth c cL_law 7 RL (some .boolean)) (HX : wsc G s L xs ∧ G.1 = s.heap.size) (k23 : Nat → Nat → Nat → Int32 → hp_H → Option hp_H) (hk23 : ∀ (x1 : Nat) (x2 : Nat) (x3 : Nat) (x4 : Int32) (h : hp_H) (kc ks : Nat), kc + n ≤ 601024 ∧ ks + 6 * n ≤ 7293034 → k23 x1 x2 x3 x4 h = some o → wq p l e (mt_R 1750 601024 7293034) s m #[Value.ref b] below meth c (lw_Z below #[Value.ref b] s) G 7 kc ks 23 [(0, .float 97), (1, .ref x1), (2, .ref x2), (3, .ref x3), (4, .int x4)] [] h) (x1 : Nat) (x2 : Nat) (x3 : Nat) (x4 : Int32) (h : hp_H) (hf : f_L_law_1529 L xs k23 x1 x2 x3 x4 h = some o) : wq p l e (mt_R 1750 601024 7293034) s m #[Value.ref b] below meth c (lw_Z below #[Value.ref b] s) G 7 kc ks 1529 [(0, .float 97), (1, .ref x1), (2, .ref x2), (3, .ref x3), (4, .int x4)] [] h := by
  unfold f_L_law_1529 at hf
  refine wk_goto X 2799 dL_law_1529 (by decide) ?_
  exact wq_sub [0, 1, 2, 3, 4] rfl (w_L_law_2799 (n := n) ⟨by omega, by omega⟩ X HX k23 hk23 _ _ _ _ _ hf)
def f_L_law_1585 (L : Nat) (xs : Nat → Int32) (k23 : Nat → Nat → Nat → Int32 → hp_H → Option hp_H) (x1 : Nat) (x2 : Nat) (x3 : Nat) (x4 : Int32) (h : hp_H) : Option hp_H := f_L_law_2799 L xs k23 x1 x2 x3 x4 h
set_option maxRecDepth 40000 in
set_option maxHeartbeats 4000000 in
theorem w_L_law_1585 (hb : kc + (n) ≤ 601024 ∧ ks + 6 * (n) ≤ 7293034) (X : wx G p s m #[Value.ref b] meth c cL_law 7 RL (some .boolean)) (HX : wsc G s L xs ∧ G.1 = s.heap.size) (k23 : Nat → Nat → Nat → Int32 → hp_H → Option hp_H) (hk23 : ∀ (x1 : Nat) (x2 : Nat) (x3 : Nat) (x4 : Int32) (h : hp_H) (kc ks : Nat), kc + n ≤ 601024 ∧ ks + 6 * n ≤ 7293034 → k23 x1 x2 x3 x4 h = some o → wq p l e (mt_R 1750 601024 7293034) s m #[Value.ref b] below meth c (lw_Z below #[Value.ref b] s) G 7 kc ks 23 [(0, .float 97), (1, .ref x1), (2, .ref x2), (3, .ref x3), (4, .int x4)] [] h) (x1 : Nat) (x2 : Nat) (x3 : Nat) (x4 : Int32) (h : hp_H) (hf : f_L_law_1585 L xs k23 x1 x2 x3 x4 h = some o) : wq p l e (mt_R 1750 601024 7293034) s m #[Value.ref b] below meth c (lw_Z below #[Value.ref b] s) G 7 kc ks 1585 [(0, .float 97), (1, .ref x1), (2, .ref x2), (3, .ref x3), (4, .int x4)] [] h := by
  unfold f_L_law_1585 at hf
  refine wk_goto X 2799 dL_law_1585 (by decide) ?_
  exact wq_sub [0, 1, 2, 3, 4] rfl (w_L_law_2799 (n := n) ⟨by omega, by omega⟩ X HX k23 hk23 _ _ _ _ _ hf)
def f_L_law_1641 (L : Nat) (xs : Nat → Int32) (k23 : Nat → Nat → Nat → Int32 → hp_H → Option hp_H) (x1 : Nat) (x2 : Nat) (x3 : Nat) (x4 : Int32) (h : hp_H) : Option hp_H := f_L_law_2799 L xs k23 x1 x2 x3 x4 h
set_option maxRecDepth 40000 in
set_option maxHeartbeats 4000000 in
theorem w_L_law_1641 (hb : kc + (n) ≤ 601024 ∧ ks + 6 * (n) ≤ 7293034) (X : wx G p s m #[Value.ref b] meth c cL_law 7 RL (some .boolean)) (HX : wsc G s L xs ∧ G.1 = s.heap.size) (k23 : Nat → Nat → Nat → Int32 → hp_H → Option hp_H) (hk23 : ∀ (x1 : Nat) (x2 : Nat) (x3 : Nat) (x4 : Int32) (h : hp_H) (kc ks : Nat), kc + n ≤ 601024 ∧ ks + 6 * n ≤ 7293034 → k23 x1 x2 x3 x4 h = some o → wq p l e (mt_R 1750 601024 7293034) s m #[Value.ref b] below meth c (lw_Z below #[Value.ref b] s) G 7 kc ks 23 [(0, .float 97), (1, .ref x1), (2, .ref x2), (3, .ref x3), (4, .int x4)] [] h) (x1 : Nat) (x2 : Nat) (x3 : Nat) (x4 : Int32) (h : hp_H) (hf : f_L_law_1641 L xs k23 x1 x2 x3 x4 h = some o) : wq p l e (mt_R 1750 601024 7293034) s m #[Value.ref b] below meth c (lw_Z below #[Value.ref b] s) G 7 kc ks 1641 [(0, .float 97), (1, .ref x1), (2, .ref x2), (3, .ref x3), (4, .int x4)] [] h := by
  unfold f_L_law_1641 at hf
  refine wk_goto X 2799 dL_law_1641 (by decide) ?_
  exact wq_sub [0, 1, 2, 3, 4] rfl (w_L_law_2799 (n := n) ⟨by omega, by omega⟩ X HX k23 hk23 _ _ _ _ _ hf)
def f_L_law_1749 (L : Nat) (xs : Nat → Int32) (k23 : Nat → Nat → Nat → Int32 → hp_H → Option hp_H) (x1 : Nat) (x2 : Nat) (x3 : Nat) (x4 : Int32) (h : hp_H) : Option hp_H := f_L_law_2799 L xs k23 x1 x2 x3 x4 h
set_option maxRecDepth 40000 in
set_option maxHeartbeats 4000000 in
theorem w_L_law_1749 (hb : kc + (n) ≤ 601024 ∧ ks + 6 * (n) ≤ 7293034) (X : wx G p s m #[Value.ref b] meth c cL_law 7 RL (some .boolean)) (HX : wsc G s L xs ∧ G.1 = s.heap.size) (k23 : Nat → Nat → Nat → Int32 → hp_H → Option hp_H) (hk23 : ∀ (x1 : Nat) (x2 : Nat) (x3 : Nat) (x4 : Int32) (h : hp_H) (kc ks : Nat), kc + n ≤ 601024 ∧ ks + 6 * n ≤ 7293034 → k23 x1 x2 x3 x4 h = some o → wq p l e (mt_R 1750 601024 7293034) s m #[Value.ref b] below meth c (lw_Z below #[Value.ref b] s) G 7 kc ks 23 [(0, .float 97), (1, .ref x1), (2, .ref x2), (3, .ref x3), (4, .int x4)] [] h) (x1 : Nat) (x2 : Nat) (x3 : Nat) (x4 : Int32) (h : hp_H) (hf : f_L_law_1749 L xs k23 x1 x2 x3 x4 h = some o) : wq p l e (mt_R 1750 601024 7293034) s m #[Value.ref b] below meth c (lw_Z below #[Value.ref b] s) G 7 kc ks 1749 [(0, .float 97), (1, .ref x1), (2, .ref x2), (3, .ref x3), (4, .int x4)] [] h := by
  unfold f_L_law_1749 at hf
  refine wk_goto X 2799 dL_law_1749 (by decide) ?_
  exact wq_sub [0, 1, 2, 3, 4] rfl (w_L_law_2799 (n := n) ⟨by omega, by omega⟩ X HX k23 hk23 _ _ _ _ _ hf)
def f_L_law_1716 (L : Nat) (xs : Nat → Int32) (k23 : Nat → Nat → Nat → Int32 → hp_H → Option hp_H) (x1 : Nat) (x2 : Nat) (x3 : Nat) (x4 : Int32) (x5 : Int32) (t0 : Nat) (t1 : Int32) (t2 : Int32) (t3 : Int32) (t4 : Int32) (h : hp_H) : Option hp_H := (f_X11_see t0 t1 t2 t3 t4 h).bind fun r1 => (f_X11_thrown x2 r1.2).bind fun r2 => if r2.1 = x5 then (if x5 = 0 then ((rd_AJ r2.2 x3 0).bind fun v3 => if (lg_cmp v3 (Int32.toInt64 r1.1)) = 0 then (f_L_law_1749 L xs k23 x1 x2 x3 x4 r2.2) else (none)) else (f_L_law_1749 L xs k23 x1 x2 x3 x4 r2.2)) else (none)
set_option maxRecDepth 40000 in
set_option maxHeartbeats 4000000 in
theorem w_L_law_1716 (hb : kc + (n) ≤ 601024 ∧ ks + 6 * (n) ≤ 7293034) (X : wx G p s m #[Value.ref b] meth c cL_law 7 RL (some .boolean)) (HX : wsc G s L xs ∧ G.1 = s.heap.size) (k23 : Nat → Nat → Nat → Int32 → hp_H → Option hp_H) (hk23 : ∀ (x1 : Nat) (x2 : Nat) (x3 : Nat) (x4 : Int32) (h : hp_H) (kc ks : Nat), kc + n ≤ 601024 ∧ ks + 6 * n ≤ 7293034 → k23 x1 x2 x3 x4 h = some o → wq p l e (mt_R 1750 601024 7293034) s m #[Value.ref b] below meth c (lw_Z below #[Value.ref b] s) G 7 kc ks 23 [(0, .float 97), (1, .ref x1), (2, .ref x2), (3, .ref x3), (4, .int x4)] [] h) (x1 : Nat) (x2 : Nat) (x3 : Nat) (x4 : Int32) (x5 : Int32) (t0 : Nat) (t1 : Int32) (t2 : Int32) (t3 : Int32) (t4 : Int32) (h : hp_H) (hf : f_L_law_1716 L xs k23 x1 x2 x3 x4 x5 t0 t1 t2 t3 t4 h = some o) : wq p l e (mt_R 1750 601024 7293034) s m #[Value.ref b] below meth c (lw_Z below #[Value.ref b] s) G 7 kc ks 1716 [(0, .float 97), (1, .ref x1), (2, .ref x2), (3, .ref x3), (4, .int x4), (5, .int x5)] [.int t4, .int t3, .int t2, .int t1, .ref t0] h := by
  unfold f_L_law_1716 at hf
  refine wl_callVi X [.int t1, .int t2, .int t3, .int t4] [] dL_law_1716 rfl vo_L_223 rfl (by decide) (Nat.le_of_ble_eq_true rfl) ⟨by omega, by omega⟩ hf (c_X11_see l _ _ _ _ _ _) (fun r1 hf => ?_)
  refine wk_istore (lv' := [(6, .int r1.1), (0, .float 97), (1, .ref x1), (2, .ref x2), (3, .ref x3), (4, .int x4), (5, .int x5)]) X dL_law_1719 (by decide) rfl ?_
  refine wk_aload_n X dL_law_1721 3 rfl ?_
  refine wl_callVi X [] [] dL_law_1722 rfl vo_L_141 rfl (by decide) (Nat.le_of_ble_eq_true rfl) ⟨by omega, by omega⟩ hf (c_X11_thrown l _ _) (fun r2 hf => ?_)
  refine wk_iload X dL_law_1725 6 rfl ?_
  refine wk_icmp_eq X 1732 dL_law_1727 (by decide) hf (fun hf => ?_) (fun hf => ?_)
  · refine wk_iload X dL_law_1732 6 rfl ?_
    refine wk_if_ne X 1749 dL_law_1734 (by decide) hf (fun hf => ?_) (fun hf => ?_)
    · exact wq_sub [1, 2, 3, 4, 5] rfl (w_L_law_1749 (n := n) ⟨by omega, by omega⟩ X HX k23 hk23 _ _ _ _ _ hf)
    · refine wk_aload_n X dL_law_1737 4 rfl ?_
      refine wk_iconst X dL_law_1738 ic_0 ?_
      refine wk_lald X dL_law_1739 hf (fun v3 hf => ?_)
      refine wk_iload X dL_law_1740 0 rfl ?_
      refine wk_i2l X dL_law_1742 ?_
      refine wk_lcmp X dL_law_1743 ?_
      refine wk_if_eq X 1749 dL_law_1744 (by decide) hf (fun hf => ?_) (fun hf => ?_)
      · exact wq_sub [1, 2, 3, 4, 5] rfl (w_L_law_1749 (n := n) ⟨by omega, by omega⟩ X HX k23 hk23 _ _ _ _ _ hf)
      · refine wk_iconst X dL_law_1747 ic_0 ?_
        exact nomatch hf
  · refine wk_iconst X dL_law_1730 ic_0 ?_
    exact nomatch hf
def f_L_law_1677 (L : Nat) (xs : Nat → Int32) (k23 : Nat → Nat → Nat → Int32 → hp_H → Option hp_H) (x1 : Nat) (x2 : Nat) (x3 : Nat) (x4 : Int32) (t0 : Nat) (t1 : Int32) (t2 : Int32) (t3 : Int32) (t4 : Int32) (h : hp_H) : Option hp_H := (eh (e_L_see t0 t1 t2 t3 t4 x3 h) (f_L_see t0 t1 t2 t3 t4 x3 h)).bind fun r1 => (sc_at L xs (x4 + 1)).bind fun v2 => (sc_at L xs (x4 + 2)).bind fun v3 => (sc_at L xs (x4 + 3)).bind fun v4 => (sc_at L xs (x4 + 4)).bind fun v5 => if v5 = 0 then (f_L_law_1716 L xs k23 x1 x2 x3 x4 r1.1 x2 v2 v3 v4 0 r1.2) else (f_L_law_1716 L xs k23 x1 x2 x3 x4 r1.1 x2 v2 v3 v4 1 r1.2)
set_option maxRecDepth 40000 in
set_option maxHeartbeats 4000000 in
theorem w_L_law_1677 (hb : kc + (n + 1) ≤ 601024 ∧ ks + 6 * (n + 1) ≤ 7293034) (hl : l.stackTraces = false) (X : wx G p s m #[Value.ref b] meth c cL_law 7 RL (some .boolean)) (HX : wsc G s L xs ∧ G.1 = s.heap.size) (k23 : Nat → Nat → Nat → Int32 → hp_H → Option hp_H) (hk23 : ∀ (x1 : Nat) (x2 : Nat) (x3 : Nat) (x4 : Int32) (h : hp_H) (kc ks : Nat), kc + n ≤ 601024 ∧ ks + 6 * n ≤ 7293034 → k23 x1 x2 x3 x4 h = some o → wq p l e (mt_R 1750 601024 7293034) s m #[Value.ref b] below meth c (lw_Z below #[Value.ref b] s) G 7 kc ks 23 [(0, .float 97), (1, .ref x1), (2, .ref x2), (3, .ref x3), (4, .int x4)] [] h) (x1 : Nat) (x2 : Nat) (x3 : Nat) (x4 : Int32) (t0 : Nat) (t1 : Int32) (t2 : Int32) (t3 : Int32) (t4 : Int32) (h : hp_H) (hf : f_L_law_1677 L xs k23 x1 x2 x3 x4 t0 t1 t2 t3 t4 h = some o) : wq p l e (mt_R 1750 601024 7293034) s m #[Value.ref b] below meth c (lw_Z below #[Value.ref b] s) G 7 kc ks 1677 [(0, .float 97), (1, .ref x1), (2, .ref x2), (3, .ref x3), (4, .int x4)] [.int t4, .int t3, .int t2, .int t1, .ref t0] h := by
  unfold f_L_law_1677 at hf
  refine wk_aload_n X dL_law_1677 3 rfl ?_
  refine wl_callH X [.ref t0, .int t1, .int t2, .int t3, .int t4, .ref x3] [] dL_law_1678 rfl so_L_220 rfl (by decide) (Nat.le_of_ble_eq_true rfl) ⟨by omega, by omega⟩ hf (ce_L_see l hl _ _ _ _ _ _ _) (c_L_see l _ _ _ _ _ _ _) (fun r1 hf => ?_)
  refine wk_istore (lv' := [(5, .int r1.1), (0, .float 97), (1, .ref x1), (2, .ref x2), (3, .ref x3), (4, .int x4)]) X dL_law_1681 (by decide) rfl ?_
  refine wk_aload_n X dL_law_1683 3 rfl ?_
  refine wk_aload_nS X dL_law_1684 1 rfl ?_
  refine wk_iload X dL_law_1685 5 rfl ?_
  refine wk_iconst X dL_law_1687 ic_1 ?_
  refine wk_iadd X dL_law_1688 ?_
  refine wk_sld X HX.1 dL_law_1689 hf (fun v2 hf => ?_)
  refine wk_aload_nS X dL_law_1690 1 rfl ?_
  refine wk_iload X dL_law_1691 5 rfl ?_
  refine wk_iconst X dL_law_1693 ic_2 ?_
  refine wk_iadd X dL_law_1694 ?_
  refine wk_sld X HX.1 dL_law_1695 hf (fun v3 hf => ?_)
  refine wk_aload_nS X dL_law_1696 1 rfl ?_
  refine wk_iload X dL_law_1697 5 rfl ?_
  refine wk_iconst X dL_law_1699 ic_3 ?_
  refine wk_iadd X dL_law_1700 ?_
  refine wk_sld X HX.1 dL_law_1701 hf (fun v4 hf => ?_)
  refine wk_aload_nS X dL_law_1702 1 rfl ?_
  refine wk_iload X dL_law_1703 5 rfl ?_
  refine wk_iconst X dL_law_1705 ic_4 ?_
  refine wk_iadd X dL_law_1706 ?_
  refine wk_sld X HX.1 dL_law_1707 hf (fun v5 hf => ?_)
  refine wk_if_eq X 1715 dL_law_1708 (by decide) hf (fun hf => ?_) (fun hf => ?_)
  · refine wk_iconst X dL_law_1715 ic_0 ?_
    exact wq_sub [1, 2, 3, 4, 5, 0] rfl (w_L_law_1716 (n := n) ⟨by omega, by omega⟩ X HX k23 hk23 _ _ _ _ _ _ _ _ _ _ _ hf)
  · refine wk_iconst X dL_law_1711 ic_1 ?_
    refine wk_goto X 1716 dL_law_1712 (by decide) ?_
    exact wq_sub [1, 2, 3, 4, 5, 0] rfl (w_L_law_1716 (n := n) ⟨by omega, by omega⟩ X HX k23 hk23 _ _ _ _ _ _ _ _ _ _ _ hf)
def f_L_law_1816 (L : Nat) (xs : Nat → Int32) (k23 : Nat → Nat → Nat → Int32 → hp_H → Option hp_H) (x1 : Nat) (x2 : Nat) (x3 : Nat) (x4 : Int32) (h : hp_H) : Option hp_H := f_L_law_2799 L xs k23 x1 x2 x3 x4 h
set_option maxRecDepth 40000 in
set_option maxHeartbeats 4000000 in
theorem w_L_law_1816 (hb : kc + (n) ≤ 601024 ∧ ks + 6 * (n) ≤ 7293034) (X : wx G p s m #[Value.ref b] meth c cL_law 7 RL (some .boolean)) (HX : wsc G s L xs ∧ G.1 = s.heap.size) (k23 : Nat → Nat → Nat → Int32 → hp_H → Option hp_H) (hk23 : ∀ (x1 : Nat) (x2 : Nat) (x3 : Nat) (x4 : Int32) (h : hp_H) (kc ks : Nat), kc + n ≤ 601024 ∧ ks + 6 * n ≤ 7293034 → k23 x1 x2 x3 x4 h = some o → wq p l e (mt_R 1750 601024 7293034) s m #[Value.ref b] below meth c (lw_Z below #[Value.ref b] s) G 7 kc ks 23 [(0, .float 97), (1, .ref x1), (2, .ref x2), (3, .ref x3), (4, .int x4)] [] h) (x1 : Nat) (x2 : Nat) (x3 : Nat) (x4 : Int32) (h : hp_H) (hf : f_L_law_1816 L xs k23 x1 x2 x3 x4 h = some o) : wq p l e (mt_R 1750 601024 7293034) s m #[Value.ref b] below meth c (lw_Z below #[Value.ref b] s) G 7 kc ks 1816 [(0, .float 97), (1, .ref x1), (2, .ref x2), (3, .ref x3), (4, .int x4)] [] h := by
  unfold f_L_law_1816 at hf
  refine wk_goto X 2799 dL_law_1816 (by decide) ?_
  exact wq_sub [0, 1, 2, 3, 4] rfl (w_L_law_2799 (n := n) ⟨by omega, by omega⟩ X HX k23 hk23 _ _ _ _ _ hf)
def f_L_law_1872 (L : Nat) (xs : Nat → Int32) (k23 : Nat → Nat → Nat → Int32 → hp_H → Option hp_H) (x1 : Nat) (x2 : Nat) (x3 : Nat) (x4 : Int32) (h : hp_H) : Option hp_H := f_L_law_2799 L xs k23 x1 x2 x3 x4 h
set_option maxRecDepth 40000 in
set_option maxHeartbeats 4000000 in
theorem w_L_law_1872 (hb : kc + (n) ≤ 601024 ∧ ks + 6 * (n) ≤ 7293034) (X : wx G p s m #[Value.ref b] meth c cL_law 7 RL (some .boolean)) (HX : wsc G s L xs ∧ G.1 = s.heap.size) (k23 : Nat → Nat → Nat → Int32 → hp_H → Option hp_H) (hk23 : ∀ (x1 : Nat) (x2 : Nat) (x3 : Nat) (x4 : Int32) (h : hp_H) (kc ks : Nat), kc + n ≤ 601024 ∧ ks + 6 * n ≤ 7293034 → k23 x1 x2 x3 x4 h = some o → wq p l e (mt_R 1750 601024 7293034) s m #[Value.ref b] below meth c (lw_Z below #[Value.ref b] s) G 7 kc ks 23 [(0, .float 97), (1, .ref x1), (2, .ref x2), (3, .ref x3), (4, .int x4)] [] h) (x1 : Nat) (x2 : Nat) (x3 : Nat) (x4 : Int32) (h : hp_H) (hf : f_L_law_1872 L xs k23 x1 x2 x3 x4 h = some o) : wq p l e (mt_R 1750 601024 7293034) s m #[Value.ref b] below meth c (lw_Z below #[Value.ref b] s) G 7 kc ks 1872 [(0, .float 97), (1, .ref x1), (2, .ref x2), (3, .ref x3), (4, .int x4)] [] h := by
  unfold f_L_law_1872 at hf
  refine wk_goto X 2799 dL_law_1872 (by decide) ?_
  exact wq_sub [0, 1, 2, 3, 4] rfl (w_L_law_2799 (n := n) ⟨by omega, by omega⟩ X HX k23 hk23 _ _ _ _ _ hf)
def f_L_law_1952 (L : Nat) (xs : Nat → Int32) (k23 : Nat → Nat → Nat → Int32 → hp_H → Option hp_H) (x1 : Nat) (x2 : Nat) (x3 : Nat) (x4 : Int32) (h : hp_H) : Option hp_H := f_L_law_2799 L xs k23 x1 x2 x3 x4 h
set_option maxRecDepth 40000 in
set_option maxHeartbeats 4000000 in
theorem w_L_law_1952 (hb : kc + (n) ≤ 601024 ∧ ks + 6 * (n) ≤ 7293034) (X : wx G p s m #[Value.ref b] meth c cL_law 7 RL (some .boolean)) (HX : wsc G s L xs ∧ G.1 = s.heap.size) (k23 : Nat → Nat → Nat → Int32 → hp_H → Option hp_H) (hk23 : ∀ (x1 : Nat) (x2 : Nat) (x3 : Nat) (x4 : Int32) (h : hp_H) (kc ks : Nat), kc + n ≤ 601024 ∧ ks + 6 * n ≤ 7293034 → k23 x1 x2 x3 x4 h = some o → wq p l e (mt_R 1750 601024 7293034) s m #[Value.ref b] below meth c (lw_Z below #[Value.ref b] s) G 7 kc ks 23 [(0, .float 97), (1, .ref x1), (2, .ref x2), (3, .ref x3), (4, .int x4)] [] h) (x1 : Nat) (x2 : Nat) (x3 : Nat) (x4 : Int32) (h : hp_H) (hf : f_L_law_1952 L xs k23 x1 x2 x3 x4 h = some o) : wq p l e (mt_R 1750 601024 7293034) s m #[Value.ref b] below meth c (lw_Z below #[Value.ref b] s) G 7 kc ks 1952 [(0, .float 97), (1, .ref x1), (2, .ref x2), (3, .ref x3), (4, .int x4)] [] h := by
  unfold f_L_law_1952 at hf
  refine wk_goto X 2799 dL_law_1952 (by decide) ?_
  exact wq_sub [0, 1, 2, 3, 4] rfl (w_L_law_2799 (n := n) ⟨by omega, by omega⟩ X HX k23 hk23 _ _ _ _ _ hf)
def f_L_law_2032 (L : Nat) (xs : Nat → Int32) (k23 : Nat → Nat → Nat → Int32 → hp_H → Option hp_H) (x1 : Nat) (x2 : Nat) (x3 : Nat) (x4 : Int32) (h : hp_H) : Option hp_H := f_L_law_2799 L xs k23 x1 x2 x3 x4 h
set_option maxRecDepth 40000 in
set_option maxHeartbeats 4000000 in
theorem w_L_law_2032 (hb : kc + (n) ≤ 601024 ∧ ks + 6 * (n) ≤ 7293034) (X : wx G p s m #[Value.ref b] meth c cL_law 7 RL (some .boolean)) (HX : wsc G s L xs ∧ G.1 = s.heap.size) (k23 : Nat → Nat → Nat → Int32 → hp_H → Option hp_H) (hk23 : ∀ (x1 : Nat) (x2 : Nat) (x3 : Nat) (x4 : Int32) (h : hp_H) (kc ks : Nat), kc + n ≤ 601024 ∧ ks + 6 * n ≤ 7293034 → k23 x1 x2 x3 x4 h = some o → wq p l e (mt_R 1750 601024 7293034) s m #[Value.ref b] below meth c (lw_Z below #[Value.ref b] s) G 7 kc ks 23 [(0, .float 97), (1, .ref x1), (2, .ref x2), (3, .ref x3), (4, .int x4)] [] h) (x1 : Nat) (x2 : Nat) (x3 : Nat) (x4 : Int32) (h : hp_H) (hf : f_L_law_2032 L xs k23 x1 x2 x3 x4 h = some o) : wq p l e (mt_R 1750 601024 7293034) s m #[Value.ref b] below meth c (lw_Z below #[Value.ref b] s) G 7 kc ks 2032 [(0, .float 97), (1, .ref x1), (2, .ref x2), (3, .ref x3), (4, .int x4)] [] h := by
  unfold f_L_law_2032 at hf
  refine wk_goto X 2799 dL_law_2032 (by decide) ?_
  exact wq_sub [0, 1, 2, 3, 4] rfl (w_L_law_2799 (n := n) ⟨by omega, by omega⟩ X HX k23 hk23 _ _ _ _ _ hf)
def f_L_law_2112 (L : Nat) (xs : Nat → Int32) (k23 : Nat → Nat → Nat → Int32 → hp_H → Option hp_H) (x1 : Nat) (x2 : Nat) (x3 : Nat) (x4 : Int32) (h : hp_H) : Option hp_H := f_L_law_2799 L xs k23 x1 x2 x3 x4 h
set_option maxRecDepth 40000 in
set_option maxHeartbeats 4000000 in
theorem w_L_law_2112 (hb : kc + (n) ≤ 601024 ∧ ks + 6 * (n) ≤ 7293034) (X : wx G p s m #[Value.ref b] meth c cL_law 7 RL (some .boolean)) (HX : wsc G s L xs ∧ G.1 = s.heap.size) (k23 : Nat → Nat → Nat → Int32 → hp_H → Option hp_H) (hk23 : ∀ (x1 : Nat) (x2 : Nat) (x3 : Nat) (x4 : Int32) (h : hp_H) (kc ks : Nat), kc + n ≤ 601024 ∧ ks + 6 * n ≤ 7293034 → k23 x1 x2 x3 x4 h = some o → wq p l e (mt_R 1750 601024 7293034) s m #[Value.ref b] below meth c (lw_Z below #[Value.ref b] s) G 7 kc ks 23 [(0, .float 97), (1, .ref x1), (2, .ref x2), (3, .ref x3), (4, .int x4)] [] h) (x1 : Nat) (x2 : Nat) (x3 : Nat) (x4 : Int32) (h : hp_H) (hf : f_L_law_2112 L xs k23 x1 x2 x3 x4 h = some o) : wq p l e (mt_R 1750 601024 7293034) s m #[Value.ref b] below meth c (lw_Z below #[Value.ref b] s) G 7 kc ks 2112 [(0, .float 97), (1, .ref x1), (2, .ref x2), (3, .ref x3), (4, .int x4)] [] h := by
  unfold f_L_law_2112 at hf
  refine wk_goto X 2799 dL_law_2112 (by decide) ?_
  exact wq_sub [0, 1, 2, 3, 4] rfl (w_L_law_2799 (n := n) ⟨by omega, by omega⟩ X HX k23 hk23 _ _ _ _ _ hf)
def f_L_law_2168 (L : Nat) (xs : Nat → Int32) (k23 : Nat → Nat → Nat → Int32 → hp_H → Option hp_H) (x1 : Nat) (x2 : Nat) (x3 : Nat) (x4 : Int32) (h : hp_H) : Option hp_H := f_L_law_2799 L xs k23 x1 x2 x3 x4 h
set_option maxRecDepth 40000 in
set_option maxHeartbeats 4000000 in
theorem w_L_law_2168 (hb : kc + (n) ≤ 601024 ∧ ks + 6 * (n) ≤ 7293034) (X : wx G p s m #[Value.ref b] meth c cL_law 7 RL (some .boolean)) (HX : wsc G s L xs ∧ G.1 = s.heap.size) (k23 : Nat → Nat → Nat → Int32 → hp_H → Option hp_H) (hk23 : ∀ (x1 : Nat) (x2 : Nat) (x3 : Nat) (x4 : Int32) (h : hp_H) (kc ks : Nat), kc + n ≤ 601024 ∧ ks + 6 * n ≤ 7293034 → k23 x1 x2 x3 x4 h = some o → wq p l e (mt_R 1750 601024 7293034) s m #[Value.ref b] below meth c (lw_Z below #[Value.ref b] s) G 7 kc ks 23 [(0, .float 97), (1, .ref x1), (2, .ref x2), (3, .ref x3), (4, .int x4)] [] h) (x1 : Nat) (x2 : Nat) (x3 : Nat) (x4 : Int32) (h : hp_H) (hf : f_L_law_2168 L xs k23 x1 x2 x3 x4 h = some o) : wq p l e (mt_R 1750 601024 7293034) s m #[Value.ref b] below meth c (lw_Z below #[Value.ref b] s) G 7 kc ks 2168 [(0, .float 97), (1, .ref x1), (2, .ref x2), (3, .ref x3), (4, .int x4)] [] h := by
  unfold f_L_law_2168 at hf
  refine wk_goto X 2799 dL_law_2168 (by decide) ?_
  exact wq_sub [0, 1, 2, 3, 4] rfl (w_L_law_2799 (n := n) ⟨by omega, by omega⟩ X HX k23 hk23 _ _ _ _ _ hf)
def f_L_law_2224 (L : Nat) (xs : Nat → Int32) (k23 : Nat → Nat → Nat → Int32 → hp_H → Option hp_H) (x1 : Nat) (x2 : Nat) (x3 : Nat) (x4 : Int32) (h : hp_H) : Option hp_H := f_L_law_2799 L xs k23 x1 x2 x3 x4 h
set_option maxRecDepth 40000 in
set_option maxHeartbeats 4000000 in
theorem w_L_law_2224 (hb : kc + (n) ≤ 601024 ∧ ks + 6 * (n) ≤ 7293034) (X : wx G p s m #[Value.ref b] meth c cL_law 7 RL (some .boolean)) (HX : wsc G s L xs ∧ G.1 = s.heap.size) (k23 : Nat → Nat → Nat → Int32 → hp_H → Option hp_H) (hk23 : ∀ (x1 : Nat) (x2 : Nat) (x3 : Nat) (x4 : Int32) (h : hp_H) (kc ks : Nat), kc + n ≤ 601024 ∧ ks + 6 * n ≤ 7293034 → k23 x1 x2 x3 x4 h = some o → wq p l e (mt_R 1750 601024 7293034) s m #[Value.ref b] below meth c (lw_Z below #[Value.ref b] s) G 7 kc ks 23 [(0, .float 97), (1, .ref x1), (2, .ref x2), (3, .ref x3), (4, .int x4)] [] h) (x1 : Nat) (x2 : Nat) (x3 : Nat) (x4 : Int32) (h : hp_H) (hf : f_L_law_2224 L xs k23 x1 x2 x3 x4 h = some o) : wq p l e (mt_R 1750 601024 7293034) s m #[Value.ref b] below meth c (lw_Z below #[Value.ref b] s) G 7 kc ks 2224 [(0, .float 97), (1, .ref x1), (2, .ref x2), (3, .ref x3), (4, .int x4)] [] h := by
  unfold f_L_law_2224 at hf
  refine wk_goto X 2799 dL_law_2224 (by decide) ?_
  exact wq_sub [0, 1, 2, 3, 4] rfl (w_L_law_2799 (n := n) ⟨by omega, by omega⟩ X HX k23 hk23 _ _ _ _ _ hf)
def f_L_law_2280 (L : Nat) (xs : Nat → Int32) (k23 : Nat → Nat → Nat → Int32 → hp_H → Option hp_H) (x1 : Nat) (x2 : Nat) (x3 : Nat) (x4 : Int32) (h : hp_H) : Option hp_H := f_L_law_2799 L xs k23 x1 x2 x3 x4 h
set_option maxRecDepth 40000 in
set_option maxHeartbeats 4000000 in
theorem w_L_law_2280 (hb : kc + (n) ≤ 601024 ∧ ks + 6 * (n) ≤ 7293034) (X : wx G p s m #[Value.ref b] meth c cL_law 7 RL (some .boolean)) (HX : wsc G s L xs ∧ G.1 = s.heap.size) (k23 : Nat → Nat → Nat → Int32 → hp_H → Option hp_H) (hk23 : ∀ (x1 : Nat) (x2 : Nat) (x3 : Nat) (x4 : Int32) (h : hp_H) (kc ks : Nat), kc + n ≤ 601024 ∧ ks + 6 * n ≤ 7293034 → k23 x1 x2 x3 x4 h = some o → wq p l e (mt_R 1750 601024 7293034) s m #[Value.ref b] below meth c (lw_Z below #[Value.ref b] s) G 7 kc ks 23 [(0, .float 97), (1, .ref x1), (2, .ref x2), (3, .ref x3), (4, .int x4)] [] h) (x1 : Nat) (x2 : Nat) (x3 : Nat) (x4 : Int32) (h : hp_H) (hf : f_L_law_2280 L xs k23 x1 x2 x3 x4 h = some o) : wq p l e (mt_R 1750 601024 7293034) s m #[Value.ref b] below meth c (lw_Z below #[Value.ref b] s) G 7 kc ks 2280 [(0, .float 97), (1, .ref x1), (2, .ref x2), (3, .ref x3), (4, .int x4)] [] h := by
  unfold f_L_law_2280 at hf
  refine wk_goto X 2799 dL_law_2280 (by decide) ?_
  exact wq_sub [0, 1, 2, 3, 4] rfl (w_L_law_2799 (n := n) ⟨by omega, by omega⟩ X HX k23 hk23 _ _ _ _ _ hf)
def f_L_law_2336 (L : Nat) (xs : Nat → Int32) (k23 : Nat → Nat → Nat → Int32 → hp_H → Option hp_H) (x1 : Nat) (x2 : Nat) (x3 : Nat) (x4 : Int32) (h : hp_H) : Option hp_H := f_L_law_2799 L xs k23 x1 x2 x3 x4 h
set_option maxRecDepth 40000 in
set_option maxHeartbeats 4000000 in
theorem w_L_law_2336 (hb : kc + (n) ≤ 601024 ∧ ks + 6 * (n) ≤ 7293034) (X : wx G p s m #[Value.ref b] meth c cL_law 7 RL (some .boolean)) (HX : wsc G s L xs ∧ G.1 = s.heap.size) (k23 : Nat → Nat → Nat → Int32 → hp_H → Option hp_H) (hk23 : ∀ (x1 : Nat) (x2 : Nat) (x3 : Nat) (x4 : Int32) (h : hp_H) (kc ks : Nat), kc + n ≤ 601024 ∧ ks + 6 * n ≤ 7293034 → k23 x1 x2 x3 x4 h = some o → wq p l e (mt_R 1750 601024 7293034) s m #[Value.ref b] below meth c (lw_Z below #[Value.ref b] s) G 7 kc ks 23 [(0, .float 97), (1, .ref x1), (2, .ref x2), (3, .ref x3), (4, .int x4)] [] h) (x1 : Nat) (x2 : Nat) (x3 : Nat) (x4 : Int32) (h : hp_H) (hf : f_L_law_2336 L xs k23 x1 x2 x3 x4 h = some o) : wq p l e (mt_R 1750 601024 7293034) s m #[Value.ref b] below meth c (lw_Z below #[Value.ref b] s) G 7 kc ks 2336 [(0, .float 97), (1, .ref x1), (2, .ref x2), (3, .ref x3), (4, .int x4)] [] h := by
  unfold f_L_law_2336 at hf
  refine wk_goto X 2799 dL_law_2336 (by decide) ?_
  exact wq_sub [0, 1, 2, 3, 4] rfl (w_L_law_2799 (n := n) ⟨by omega, by omega⟩ X HX k23 hk23 _ _ _ _ _ hf)
def f_L_law_2429 (L : Nat) (xs : Nat → Int32) (k23 : Nat → Nat → Nat → Int32 → hp_H → Option hp_H) (x1 : Nat) (x2 : Nat) (x3 : Nat) (x4 : Int32) (h : hp_H) : Option hp_H := f_L_law_2799 L xs k23 x1 x2 x3 x4 h
set_option maxRecDepth 40000 in
set_option maxHeartbeats 4000000 in
theorem w_L_law_2429 (hb : kc + (n) ≤ 601024 ∧ ks + 6 * (n) ≤ 7293034) (X : wx G p s m #[Value.ref b] meth c cL_law 7 RL (some .boolean)) (HX : wsc G s L xs ∧ G.1 = s.heap.size) (k23 : Nat → Nat → Nat → Int32 → hp_H → Option hp_H) (hk23 : ∀ (x1 : Nat) (x2 : Nat) (x3 : Nat) (x4 : Int32) (h : hp_H) (kc ks : Nat), kc + n ≤ 601024 ∧ ks + 6 * n ≤ 7293034 → k23 x1 x2 x3 x4 h = some o → wq p l e (mt_R 1750 601024 7293034) s m #[Value.ref b] below meth c (lw_Z below #[Value.ref b] s) G 7 kc ks 23 [(0, .float 97), (1, .ref x1), (2, .ref x2), (3, .ref x3), (4, .int x4)] [] h) (x1 : Nat) (x2 : Nat) (x3 : Nat) (x4 : Int32) (h : hp_H) (hf : f_L_law_2429 L xs k23 x1 x2 x3 x4 h = some o) : wq p l e (mt_R 1750 601024 7293034) s m #[Value.ref b] below meth c (lw_Z below #[Value.ref b] s) G 7 kc ks 2429 [(0, .float 97), (1, .ref x1), (2, .ref x2), (3, .ref x3), (4, .int x4)] [] h := by
  unfold f_L_law_2429 at hf
  refine wk_goto X 2799 dL_law_2429 (by decide) ?_
  exact wq_sub [0, 1, 2, 3, 4] rfl (w_L_law_2799 (n := n) ⟨by omega, by omega⟩ X HX k23 hk23 _ _ _ _ _ hf)
def f_L_law_2485 (L : Nat) (xs : Nat → Int32) (k23 : Nat → Nat → Nat → Int32 → hp_H → Option hp_H) (x1 : Nat) (x2 : Nat) (x3 : Nat) (x4 : Int32) (h : hp_H) : Option hp_H := f_L_law_2799 L xs k23 x1 x2 x3 x4 h
set_option maxRecDepth 40000 in
set_option maxHeartbeats 4000000 in
theorem w_L_law_2485 (hb : kc + (n) ≤ 601024 ∧ ks + 6 * (n) ≤ 7293034) (X : wx G p s m #[Value.ref b] meth c cL_law 7 RL (some .boolean)) (HX : wsc G s L xs ∧ G.1 = s.heap.size) (k23 : Nat → Nat → Nat → Int32 → hp_H → Option hp_H) (hk23 : ∀ (x1 : Nat) (x2 : Nat) (x3 : Nat) (x4 : Int32) (h : hp_H) (kc ks : Nat), kc + n ≤ 601024 ∧ ks + 6 * n ≤ 7293034 → k23 x1 x2 x3 x4 h = some o → wq p l e (mt_R 1750 601024 7293034) s m #[Value.ref b] below meth c (lw_Z below #[Value.ref b] s) G 7 kc ks 23 [(0, .float 97), (1, .ref x1), (2, .ref x2), (3, .ref x3), (4, .int x4)] [] h) (x1 : Nat) (x2 : Nat) (x3 : Nat) (x4 : Int32) (h : hp_H) (hf : f_L_law_2485 L xs k23 x1 x2 x3 x4 h = some o) : wq p l e (mt_R 1750 601024 7293034) s m #[Value.ref b] below meth c (lw_Z below #[Value.ref b] s) G 7 kc ks 2485 [(0, .float 97), (1, .ref x1), (2, .ref x2), (3, .ref x3), (4, .int x4)] [] h := by
  unfold f_L_law_2485 at hf
  refine wk_goto X 2799 dL_law_2485 (by decide) ?_
  exact wq_sub [0, 1, 2, 3, 4] rfl (w_L_law_2799 (n := n) ⟨by omega, by omega⟩ X HX k23 hk23 _ _ _ _ _ hf)
def f_L_law_2553 (L : Nat) (xs : Nat → Int32) (k23 : Nat → Nat → Nat → Int32 → hp_H → Option hp_H) (x1 : Nat) (x2 : Nat) (x3 : Nat) (x4 : Int32) (h : hp_H) : Option hp_H := f_L_law_2799 L xs k23 x1 x2 x3 x4 h
set_option maxRecDepth 40000 in
set_option maxHeartbeats 4000000 in
theorem w_L_law_2553 (hb : kc + (n) ≤ 601024 ∧ ks + 6 * (n) ≤ 7293034) (X : wx G p s m #[Value.ref b] meth c cL_law 7 RL (some .boolean)) (HX : wsc G s L xs ∧ G.1 = s.heap.size) (k23 : Nat → Nat → Nat → Int32 → hp_H → Option hp_H) (hk23 : ∀ (x1 : Nat) (x2 : Nat) (x3 : Nat) (x4 : Int32) (h : hp_H) (kc ks : Nat), kc + n ≤ 601024 ∧ ks + 6 * n ≤ 7293034 → k23 x1 x2 x3 x4 h = some o → wq p l e (mt_R 1750 601024 7293034) s m #[Value.ref b] below meth c (lw_Z below #[Value.ref b] s) G 7 kc ks 23 [(0, .float 97), (1, .ref x1), (2, .ref x2), (3, .ref x3), (4, .int x4)] [] h) (x1 : Nat) (x2 : Nat) (x3 : Nat) (x4 : Int32) (h : hp_H) (hf : f_L_law_2553 L xs k23 x1 x2 x3 x4 h = some o) : wq p l e (mt_R 1750 601024 7293034) s m #[Value.ref b] below meth c (lw_Z below #[Value.ref b] s) G 7 kc ks 2553 [(0, .float 97), (1, .ref x1), (2, .ref x2), (3, .ref x3), (4, .int x4)] [] h := by
  unfold f_L_law_2553 at hf
  refine wk_goto X 2799 dL_law_2553 (by decide) ?_
  exact wq_sub [0, 1, 2, 3, 4] rfl (w_L_law_2799 (n := n) ⟨by omega, by omega⟩ X HX k23 hk23 _ _ _ _ _ hf)
def f_L_law_2609 (L : Nat) (xs : Nat → Int32) (k23 : Nat → Nat → Nat → Int32 → hp_H → Option hp_H) (x1 : Nat) (x2 : Nat) (x3 : Nat) (x4 : Int32) (h : hp_H) : Option hp_H := f_L_law_2799 L xs k23 x1 x2 x3 x4 h
set_option maxRecDepth 40000 in
set_option maxHeartbeats 4000000 in
theorem w_L_law_2609 (hb : kc + (n) ≤ 601024 ∧ ks + 6 * (n) ≤ 7293034) (X : wx G p s m #[Value.ref b] meth c cL_law 7 RL (some .boolean)) (HX : wsc G s L xs ∧ G.1 = s.heap.size) (k23 : Nat → Nat → Nat → Int32 → hp_H → Option hp_H) (hk23 : ∀ (x1 : Nat) (x2 : Nat) (x3 : Nat) (x4 : Int32) (h : hp_H) (kc ks : Nat), kc + n ≤ 601024 ∧ ks + 6 * n ≤ 7293034 → k23 x1 x2 x3 x4 h = some o → wq p l e (mt_R 1750 601024 7293034) s m #[Value.ref b] below meth c (lw_Z below #[Value.ref b] s) G 7 kc ks 23 [(0, .float 97), (1, .ref x1), (2, .ref x2), (3, .ref x3), (4, .int x4)] [] h) (x1 : Nat) (x2 : Nat) (x3 : Nat) (x4 : Int32) (h : hp_H) (hf : f_L_law_2609 L xs k23 x1 x2 x3 x4 h = some o) : wq p l e (mt_R 1750 601024 7293034) s m #[Value.ref b] below meth c (lw_Z below #[Value.ref b] s) G 7 kc ks 2609 [(0, .float 97), (1, .ref x1), (2, .ref x2), (3, .ref x3), (4, .int x4)] [] h := by
  unfold f_L_law_2609 at hf
  refine wk_goto X 2799 dL_law_2609 (by decide) ?_
  exact wq_sub [0, 1, 2, 3, 4] rfl (w_L_law_2799 (n := n) ⟨by omega, by omega⟩ X HX k23 hk23 _ _ _ _ _ hf)
def f_L_law_2677 (L : Nat) (xs : Nat → Int32) (k23 : Nat → Nat → Nat → Int32 → hp_H → Option hp_H) (x1 : Nat) (x2 : Nat) (x3 : Nat) (x4 : Int32) (h : hp_H) : Option hp_H := f_L_law_2799 L xs k23 x1 x2 x3 x4 h
set_option maxRecDepth 40000 in
set_option maxHeartbeats 4000000 in
theorem w_L_law_2677 (hb : kc + (n) ≤ 601024 ∧ ks + 6 * (n) ≤ 7293034) (X : wx G p s m #[Value.ref b] meth c cL_law 7 RL (some .boolean)) (HX : wsc G s L xs ∧ G.1 = s.heap.size) (k23 : Nat → Nat → Nat → Int32 → hp_H → Option hp_H) (hk23 : ∀ (x1 : Nat) (x2 : Nat) (x3 : Nat) (x4 : Int32) (h : hp_H) (kc ks : Nat), kc + n ≤ 601024 ∧ ks + 6 * n ≤ 7293034 → k23 x1 x2 x3 x4 h = some o → wq p l e (mt_R 1750 601024 7293034) s m #[Value.ref b] below meth c (lw_Z below #[Value.ref b] s) G 7 kc ks 23 [(0, .float 97), (1, .ref x1), (2, .ref x2), (3, .ref x3), (4, .int x4)] [] h) (x1 : Nat) (x2 : Nat) (x3 : Nat) (x4 : Int32) (h : hp_H) (hf : f_L_law_2677 L xs k23 x1 x2 x3 x4 h = some o) : wq p l e (mt_R 1750 601024 7293034) s m #[Value.ref b] below meth c (lw_Z below #[Value.ref b] s) G 7 kc ks 2677 [(0, .float 97), (1, .ref x1), (2, .ref x2), (3, .ref x3), (4, .int x4)] [] h := by
  unfold f_L_law_2677 at hf
  refine wk_goto X 2799 dL_law_2677 (by decide) ?_
  exact wq_sub [0, 1, 2, 3, 4] rfl (w_L_law_2799 (n := n) ⟨by omega, by omega⟩ X HX k23 hk23 _ _ _ _ _ hf)
def f_L_law_2759 (L : Nat) (xs : Nat → Int32) (k23 : Nat → Nat → Nat → Int32 → hp_H → Option hp_H) (x1 : Nat) (x2 : Nat) (x3 : Nat) (x4 : Int32) (h : hp_H) : Option hp_H := f_L_law_2799 L xs k23 x1 x2 x3 x4 h
set_option maxRecDepth 40000 in
set_option maxHeartbeats 4000000 in
theorem w_L_law_2759 (hb : kc + (n) ≤ 601024 ∧ ks + 6 * (n) ≤ 7293034) (X : wx G p s m #[Value.ref b] meth c cL_law 7 RL (some .boolean)) (HX : wsc G s L xs ∧ G.1 = s.heap.size) (k23 : Nat → Nat → Nat → Int32 → hp_H → Option hp_H) (hk23 : ∀ (x1 : Nat) (x2 : Nat) (x3 : Nat) (x4 : Int32) (h : hp_H) (kc ks : Nat), kc + n ≤ 601024 ∧ ks + 6 * n ≤ 7293034 → k23 x1 x2 x3 x4 h = some o → wq p l e (mt_R 1750 601024 7293034) s m #[Value.ref b] below meth c (lw_Z below #[Value.ref b] s) G 7 kc ks 23 [(0, .float 97), (1, .ref x1), (2, .ref x2), (3, .ref x3), (4, .int x4)] [] h) (x1 : Nat) (x2 : Nat) (x3 : Nat) (x4 : Int32) (h : hp_H) (hf : f_L_law_2759 L xs k23 x1 x2 x3 x4 h = some o) : wq p l e (mt_R 1750 601024 7293034) s m #[Value.ref b] below meth c (lw_Z below #[Value.ref b] s) G 7 kc ks 2759 [(0, .float 97), (1, .ref x1), (2, .ref x2), (3, .ref x3), (4, .int x4)] [] h := by
  unfold f_L_law_2759 at hf
  refine wk_goto X 2799 dL_law_2759 (by decide) ?_
  exact wq_sub [0, 1, 2, 3, 4] rfl (w_L_law_2799 (n := n) ⟨by omega, by omega⟩ X HX k23 hk23 _ _ _ _ _ hf)
def f_L_law_23 (L : Nat) (xs : Nat → Int32) (k23 : Nat → Nat → Nat → Int32 → hp_H → Option hp_H) (x1 : Nat) (x2 : Nat) (x3 : Nat) (x4 : Int32) (h : hp_H) : Option hp_H := if ((Int32.ofNat L) - 6) < x4 then (f_L_law_2805 L xs h) else ((sc_at L xs x4).bind fun v1 => if (v1 &&& 63) = 0 then ((sc_at L xs (x4 + 1)).bind fun v2 => (sc_at L xs (x4 + 2)).bind fun v3 => (sc_at L xs (x4 + 3)).bind fun v4 => (sc_at L xs (x4 + 4)).bind fun v5 => (sc_at L xs (x4 + 5)).bind fun v6 => (f_X10_feed x1 v2 v3 v4 v5 v6 h).bind fun r7 => (sc_at L xs (x4 + 1)).bind fun v8 => (sc_at L xs (x4 + 2)).bind fun v9 => (sc_at L xs (x4 + 3)).bind fun v10 => (sc_at L xs (x4 + 4)).bind fun v11 => (sc_at L xs (x4 + 5)).bind fun v12 => (f_X11_feed x2 v8 v9 v10 v11 v12 r7.2).bind fun r13 => if r7.1 = r13.1 then (f_L_law_2799 L xs k23 x1 x2 x3 x4 r13.2) else (none)) else (if (v1 &&& 63) = 1 then ((sc_at L xs (x4 + 1)).bind fun v14 => (eh (e_L_army x1 v14 x3 h) (f_L_army x1 v14 x3 h)).bind fun r15 => (sc_at L xs (x4 + 1)).bind fun v16 => (f_X11_army x2 v16 r15.2).bind fun r17 => (f_X11_thrown x2 r17.2).bind fun r18 => if r18.1 = r15.1 then (if r15.1 = 0 then ((rd_AJ r18.2 x3 0).bind fun v19 => if (lg_cmp v19 (Int32.toInt64 r17.1)) = 0 then (f_L_law_374 L xs k23 x1 x2 x3 x4 r18.2) else (none)) else (f_L_law_374 L xs k23 x1 x2 x3 x4 r18.2)) else (none)) else (if (v1 &&& 63) = 2 then ((f_X10_fault x1 h).bind fun r20 => (f_X11_fault x2 r20.2).bind fun r21 => if r20.1 = r21.1 then (f_L_law_2799 L xs k23 x1 x2 x3 x4 r21.2) else (none)) else (if (v1 &&& 63) = 3 then ((sc_at L xs (x4 + 1)).bind fun v22 => (eh (e_L_count x1 v22 x3 h) (f_L_count x1 v22 x3 h)).bind fun r23 => (sc_at L xs (x4 + 1)).bind fun v24 => (f_X11_count x2 v24 r23.2).bind fun r25 => (f_X11_thrown x2 r25.2).bind fun r26 => if r26.1 = r23.1 then (if r23.1 = 0 then ((rd_AJ r26.2 x3 0).bind fun v27 => if (lg_cmp v27 (Int32.toInt64 r25.1)) = 0 then (f_L_law_443 L xs k23 x1 x2 x3 x4 r26.2) else (none)) else (f_L_law_443 L xs k23 x1 x2 x3 x4 r26.2)) else (none)) else (if (v1 &&& 63) = 4 then ((sc_at L xs (x4 + 1)).bind fun v28 => (sc_at L xs (x4 + 2)).bind fun v29 => (eh (e_L_man x1 v28 v29 x3 h) (f_L_man x1 v28 v29 x3 h)).bind fun r30 => (sc_at L xs (x4 + 1)).bind fun v31 => (sc_at L xs (x4 + 2)).bind fun v32 => (f_X11_man x2 v31 v32 r30.2).bind fun r33 => (f_X11_thrown x2 r33.2).bind fun r34 => if r34.1 = r30.1 then (if r30.1 = 0 then ((rd_AJ r34.2 x3 0).bind fun v35 => if (lg_cmp v35 (Int32.toInt64 r33.1)) = 0 then (f_L_law_511 L xs k23 x1 x2 x3 x4 r34.2) else (none)) else (f_L_law_511 L xs k23 x1 x2 x3 x4 r34.2)) else (none)) else (if (v1 &&& 63) = 5 then ((sc_at L xs (x4 + 1)).bind fun v36 => (sc_at L xs (x4 + 2)).bind fun v37 => (eh (e_L_row x1 v36 v37 x3 h) (f_L_row x1 v36 v37 x3 h)).bind fun r38 => (sc_at L xs (x4 + 1)).bind fun v39 => (sc_at L xs (x4 + 2)).bind fun v40 => (f_X11_row x2 v39 v40 r38.2).bind fun r41 => (f_X11_thrown x2 r41.2).bind fun r42 => if r42.1 = r38.1 then (if r38.1 = 0 then ((rd_AJ r42.2 x3 0).bind fun v43 => if (lg_cmp v43 (Int32.toInt64 r41.1)) = 0 then (f_L_law_579 L xs k23 x1 x2 x3 x4 r42.2) else (none)) else (f_L_law_579 L xs k23 x1 x2 x3 x4 r42.2)) else (none)) else (if (v1 &&& 63) = 6 then ((sc_at L xs (x4 + 1)).bind fun v44 => (f_X10_nights x1 v44 h).bind fun r45 => (sc_at L xs (x4 + 1)).bind fun v46 => (f_X11_nights x2 v46 r45.2).bind fun r47 => if r45.1 = r47.1 then (f_L_law_2799 L xs k23 x1 x2 x3 x4 r47.2) else (none)) else (if (v1 &&& 63) = 7 then ((sc_at L xs (x4 + 1)).bind fun v48 => (sc_at L xs (x4 + 2)).bind fun v49 => (eh (e_L_put x1 v48 v49 x3 h) (f_L_put x1 v48 v49 x3 h)).bind fun r50 => (sc_at L xs (x4 + 1)).bind fun v51 => (sc_at L xs (x4 + 2)).bind fun v52 => (f_X11_put x2 v51 v52 r50.2).bind fun r53 => (f_X11_thrown x2 r53.2).bind fun r54 => if r54.1 = r50.1 then (if r50.1 = 0 then ((rd_AJ r54.2 x3 0).bind fun v55 => if (lg_cmp v55 (Int32.toInt64 r53.1)) = 0 then (f_L_law_672 L xs k23 x1 x2 x3 x4 r54.2) else (none)) else (f_L_law_672 L xs k23 x1 x2 x3 x4 r54.2)) else (none)) else (if (v1 &&& 63) = 8 then ((sc_at L xs (x4 + 1)).bind fun v56 => (sc_at L xs (x4 + 2)).bind fun v57 => (eh (e_L_heel x1 v56 v57 x3 h) (f_L_heel x1 v56 v57 x3 h)).bind fun r58 => (sc_at L xs (x4 + 1)).bind fun v59 => (sc_at L xs (x4 + 2)).bind fun v60 => (f_X11_heel x2 v59 v60 r58.2).bind fun r61 => (f_X11_thrown x2 r61.2).bind fun r62 => if r62.1 = r58.1 then (if r58.1 = 0 then ((rd_AJ r62.2 x3 0).bind fun v63 => if (lg_cmp v63 (Int32.toInt64 r61.1)) = 0 then (f_L_law_740 L xs k23 x1 x2 x3 x4 r62.2) else (none)) else (f_L_law_740 L xs k23 x1 x2 x3 x4 r62.2)) else (none)) else (if (v1 &&& 63) = 9 then ((sc_at L xs (x4 + 1)).bind fun v64 => (sc_at L xs (x4 + 2)).bind fun v65 => (eh (e_L_loud x1 v64 v65 x3 h) (f_L_loud x1 v64 v65 x3 h)).bind fun r66 => (sc_at L xs (x4 + 1)).bind fun v67 => (sc_at L xs (x4 + 2)).bind fun v68 => (f_X11_loud x2 v67 v68 r66.2).bind fun r69 => (f_X11_thrown x2 r69.2).bind fun r70 => if r70.1 = r66.1 then (if r66.1 = 0 then ((rd_AJ r70.2 x3 0).bind fun v71 => if (lg_cmp v71 (Int32.toInt64 r69.1)) = 0 then (f_L_law_808 L xs k23 x1 x2 x3 x4 r70.2) else (none)) else (f_L_law_808 L xs k23 x1 x2 x3 x4 r70.2)) else (none)) else (if (v1 &&& 63) = 10 then ((sc_at L xs (x4 + 1)).bind fun v72 => (sc_at L xs (x4 + 2)).bind fun v73 => (eh (e_L_change x1 v72 v73 x3 h) (f_L_change x1 v72 v73 x3 h)).bind fun r74 => (sc_at L xs (x4 + 1)).bind fun v75 => (sc_at L xs (x4 + 2)).bind fun v76 => (f_X11_change x2 v75 v76 r74.2).bind fun r77 => (f_X11_thrown x2 r77.2).bind fun r78 => if r78.1 = r74.1 then (if r74.1 = 0 then ((rd_AJ r78.2 x3 0).bind fun v79 => if r77.1 = 0 then (f_L_law_877 L xs k23 x1 x2 x3 x4 v79 0 r78.2) else (f_L_law_877 L xs k23 x1 x2 x3 x4 v79 1 r78.2)) else (f_L_law_883 L xs k23 x1 x2 x3 x4 r78.2)) else (none)) else (if (v1 &&& 63) = 11 then ((f_X10_undo x1 h).bind fun r80 => (f_X11_undo x2 r80.2).bind fun r81 => if r80.1 = r81.1 then (f_L_law_2799 L xs k23 x1 x2 x3 x4 r81.2) else (none)) else (if (v1 &&& 63) = 12 then ((sc_at L xs (x4 + 1)).bind fun v82 => (sc_at L xs (x4 + 2)).bind fun v83 => (sc_at L xs (x4 + 3)).bind fun v84 => (eh (e_L_then x1 v82 v83 v84 x3 h) (f_L_then x1 v82 v83 v84 x3 h)).bind fun r85 => (sc_at L xs (x4 + 1)).bind fun v86 => (sc_at L xs (x4 + 2)).bind fun v87 => (sc_at L xs (x4 + 3)).bind fun v88 => (f_X11_then x2 v86 v87 v88 r85.2).bind fun r89 => (f_X11_thrown x2 r89.2).bind fun r90 => if r90.1 = r85.1 then (if r85.1 = 0 then ((rd_AJ r90.2 x3 0).bind fun v91 => if (lg_cmp v91 (Int32.toInt64 r89.1)) = 0 then (f_L_law_976 L xs k23 x1 x2 x3 x4 r90.2) else (none)) else (f_L_law_976 L xs k23 x1 x2 x3 x4 r90.2)) else (none)) else (if (v1 &&& 63) = 13 then ((sc_at L xs (x4 + 1)).bind fun v92 => (sc_at L xs (x4 + 2)).bind fun v93 => (eh (e_L_honour x1 v92 v93 x3 h) (f_L_honour x1 v92 v93 x3 h)).bind fun r94 => (sc_at L xs (x4 + 1)).bind fun v95 => (sc_at L xs (x4 + 2)).bind fun v96 => (f_X11_honour x2 v95 v96 r94.2).bind fun r97 => (f_X11_thrown x2 r97.2).bind fun r98 => if r98.1 = r94.1 then (if r94.1 = 0 then ((rd_AJ r98.2 x3 0).bind fun v99 => if (lg_cmp v99 (Int32.toInt64 r97.1)) = 0 then (f_L_law_1044 L xs k23 x1 x2 x3 x4 r98.2) else (none)) else (f_L_law_1044 L xs k23 x1 x2 x3 x4 r98.2)) else (none)) else (if (v1 &&& 63) = 14 then ((sc_at L xs (x4 + 1)).bind fun v100 => (eh (e_L_first x1 v100 x3 h) (f_L_first x1 v100 x3 h)).bind fun r101 => (sc_at L xs (x4 + 1)).bind fun v102 => (f_X11_first x2 v102 r101.2).bind fun r103 => (f_X11_thrown x2 r103.2).bind fun r104 => if r104.1 = r101.1 then (if r101.1 = 0 then ((rd_AJ r104.2 x3 0).bind fun v105 => if (lg_cmp v105 (Int32.toInt64 r103.1)) = 0 then (f_L_law_1100 L xs k23 x1 x2 x3 x4 r104.2) else (none)) else (f_L_law_1100 L xs k23 x1 x2 x3 x4 r104.2)) else (none)) else (if (v1 &&& 63) = 15 then ((sc_at L xs (x4 + 1)).bind fun v106 => (eh (e_L_mistaken x1 v106 x3 h) (f_L_mistaken x1 v106 x3 h)).bind fun r107 => (sc_at L xs (x4 + 1)).bind fun v108 => (f_X11_mistaken x2 v108 r107.2).bind fun r109 => (f_X11_thrown x2 r109.2).bind fun r110 => if r110.1 = r107.1 then (if r107.1 = 0 then ((rd_AJ r110.2 x3 0).bind fun v111 => if (lg_cmp v111 (Int32.toInt64 r109.1)) = 0 then (f_L_law_1156 L xs k23 x1 x2 x3 x4 r110.2) else (none)) else (f_L_law_1156 L xs k23 x1 x2 x3 x4 r110.2)) else (none)) else (if (v1 &&& 63) = 16 then ((sc_at L xs (x4 + 1)).bind fun v112 => (eh (e_L_unsung x1 v112 x3 h) (f_L_unsung x1 v112 x3 h)).bind fun r113 => (sc_at L xs (x4 + 1)).bind fun v114 => (f_X11_unsung x2 v114 r113.2).bind fun r115 => (f_X11_thrown x2 r115.2).bind fun r116 => if r116.1 = r113.1 then (if r113.1 = 0 then ((rd_AJ r116.2 x3 0).bind fun v117 => if (lg_cmp v117 (Int32.toInt64 r115.1)) = 0 then (f_L_law_1212 L xs k23 x1 x2 x3 x4 r116.2) else (none)) else (f_L_law_1212 L xs k23 x1 x2 x3 x4 r116.2)) else (none)) else (if (v1 &&& 63) = 17 then ((sc_at L xs (x4 + 1)).bind fun v118 => (sc_at L xs (x4 + 2)).bind fun v119 => (eh (e_L_far x1 v118 v119 x3 h) (f_L_far x1 v118 v119 x3 h)).bind fun r120 => (sc_at L xs (x4 + 1)).bind fun v121 => (sc_at L xs (x4 + 2)).bind fun v122 => (f_X11_far x2 v121 v122 r120.2).bind fun r123 => (f_X11_thrown x2 r123.2).bind fun r124 => if r124.1 = r120.1 then (if r120.1 = 0 then ((rd_AJ r124.2 x3 0).bind fun v125 => if (lg_cmp v125 (Int32.toInt64 r123.1)) = 0 then (f_L_law_1280 L xs k23 x1 x2 x3 x4 r124.2) else (none)) else (f_L_law_1280 L xs k23 x1 x2 x3 x4 r124.2)) else (none)) else (if (v1 &&& 63) = 18 then ((f_X10_nearest x1 h).bind fun r126 => (f_X11_nearest x2 r126.2).bind fun r127 => if r126.1 = r127.1 then (f_L_law_2799 L xs k23 x1 x2 x3 x4 r127.2) else (none)) else (if (v1 &&& 63) = 19 then ((sc_at L xs (x4 + 1)).bind fun v128 => (eh (e_L_apart x1 v128 x3 h) (f_L_apart x1 v128 x3 h)).bind fun r129 => (sc_at L xs (x4 + 1)).bind fun v130 => (f_X11_apart x2 v130 r129.2).bind fun r131 => (f_X11_thrown x2 r131.2).bind fun r132 => if r132.1 = r129.1 then (if r129.1 = 0 then ((rd_AJ r132.2 x3 0).bind fun v133 => if (lg_cmp v133 (Int32.toInt64 r131.1)) = 0 then (f_L_law_1349 L xs k23 x1 x2 x3 x4 r132.2) else (none)) else (f_L_law_1349 L xs k23 x1 x2 x3 x4 r132.2)) else (none)) else (if (v1 &&& 63) = 20 then ((sc_at L xs (x4 + 1)).bind fun v134 => (eh (e_L_tread x1 v134 x3 h) (f_L_tread x1 v134 x3 h)).bind fun r135 => (sc_at L xs (x4 + 1)).bind fun v136 => (f_X11_tread x2 v136 r135.2).bind fun r137 => (f_X11_thrown x2 r137.2).bind fun r138 => if r138.1 = r135.1 then (if r135.1 = 0 then ((rd_AJ r138.2 x3 0).bind fun v139 => if (lg_cmp v139 (Int32.toInt64 r137.1)) = 0 then (f_L_law_1405 L xs k23 x1 x2 x3 x4 r138.2) else (none)) else (f_L_law_1405 L xs k23 x1 x2 x3 x4 r138.2)) else (none)) else (if (v1 &&& 63) = 21 then ((sc_at L xs (x4 + 1)).bind fun v140 => (sc_at L xs (x4 + 2)).bind fun v141 => (eh (e_L_passes x1 v140 v141 x3 h) (f_L_passes x1 v140 v141 x3 h)).bind fun r142 => (sc_at L xs (x4 + 1)).bind fun v143 => (sc_at L xs (x4 + 2)).bind fun v144 => (f_X11_passes x2 v143 v144 r142.2).bind fun r145 => (f_X11_thrown x2 r145.2).bind fun r146 => if r146.1 = r142.1 then (if r142.1 = 0 then ((rd_AJ r146.2 x3 0).bind fun v147 => if (lg_cmp v147 (Int32.toInt64 r145.1)) = 0 then (f_L_law_1473 L xs k23 x1 x2 x3 x4 r146.2) else (none)) else (f_L_law_1473 L xs k23 x1 x2 x3 x4 r146.2)) else (none)) else (if (v1 &&& 63) = 22 then ((sc_at L xs (x4 + 1)).bind fun v148 => (eh (e_L_hidden x1 v148 x3 h) (f_L_hidden x1 v148 x3 h)).bind fun r149 => (sc_at L xs (x4 + 1)).bind fun v150 => (f_X11_hidden x2 v150 r149.2).bind fun r151 => (f_X11_thrown x2 r151.2).bind fun r152 => if r152.1 = r149.1 then (if r149.1 = 0 then ((rd_AJ r152.2 x3 0).bind fun v153 => if (lg_cmp v153 (Int32.toInt64 r151.1)) = 0 then (f_L_law_1529 L xs k23 x1 x2 x3 x4 r152.2) else (none)) else (f_L_law_1529 L xs k23 x1 x2 x3 x4 r152.2)) else (none)) else (if (v1 &&& 63) = 23 then ((sc_at L xs (x4 + 1)).bind fun v154 => (eh (e_L_toSock x1 v154 x3 h) (f_L_toSock x1 v154 x3 h)).bind fun r155 => (sc_at L xs (x4 + 1)).bind fun v156 => (f_X11_toSock x2 v156 r155.2).bind fun r157 => (f_X11_thrown x2 r157.2).bind fun r158 => if r158.1 = r155.1 then (if r155.1 = 0 then ((rd_AJ r158.2 x3 0).bind fun v159 => if (lg_cmp v159 (Int32.toInt64 r157.1)) = 0 then (f_L_law_1585 L xs k23 x1 x2 x3 x4 r158.2) else (none)) else (f_L_law_1585 L xs k23 x1 x2 x3 x4 r158.2)) else (none)) else (if (v1 &&& 63) = 24 then ((sc_at L xs (x4 + 1)).bind fun v160 => (eh (e_L_review x1 v160 x3 h) (f_L_review x1 v160 x3 h)).bind fun r161 => (sc_at L xs (x4 + 1)).bind fun v162 => (f_X11_review x2 v162 r161.2).bind fun r163 => (f_X11_thrown x2 r163.2).bind fun r164 => if r164.1 = r161.1 then (if r161.1 = 0 then ((rd_AJ r164.2 x3 0).bind fun v165 => if (lg_cmp v165 (Int32.toInt64 r163.1)) = 0 then (f_L_law_1641 L xs k23 x1 x2 x3 x4 r164.2) else (none)) else (f_L_law_1641 L xs k23 x1 x2 x3 x4 r164.2)) else (none)) else (if (v1 &&& 63) = 25 then ((sc_at L xs (x4 + 1)).bind fun v166 => (sc_at L xs (x4 + 2)).bind fun v167 => (sc_at L xs (x4 + 3)).bind fun v168 => (sc_at L xs (x4 + 4)).bind fun v169 => if v169 = 0 then (f_L_law_1677 L xs k23 x1 x2 x3 x4 x1 v166 v167 v168 0 h) else (f_L_law_1677 L xs k23 x1 x2 x3 x4 x1 v166 v167 v168 1 h)) else (if (v1 &&& 63) = 26 then ((f_X10_forget x1 h).bind fun r170 => (f_X11_forget x2 r170).bind fun r171 => f_L_law_2799 L xs k23 x1 x2 x3 x4 r171) else (if (v1 &&& 63) = 27 then ((sc_at L xs (x4 + 1)).bind fun v172 => (eh (e_L_limped x1 v172 x3 h) (f_L_limped x1 v172 x3 h)).bind fun r173 => (sc_at L xs (x4 + 1)).bind fun v174 => (f_X11_limped x2 v174 r173.2).bind fun r175 => (f_X11_thrown x2 r175.2).bind fun r176 => if r176.1 = r173.1 then (if r173.1 = 0 then ((rd_AJ r176.2 x3 0).bind fun v177 => if (lg_cmp v177 (Int32.toInt64 r175.1)) = 0 then (f_L_law_1816 L xs k23 x1 x2 x3 x4 r176.2) else (none)) else (f_L_law_1816 L xs k23 x1 x2 x3 x4 r176.2)) else (none)) else (if (v1 &&& 63) = 28 then ((sc_at L xs (x4 + 1)).bind fun v178 => (eh (e_L_next x1 v178 x3 h) (f_L_next x1 v178 x3 h)).bind fun r179 => (sc_at L xs (x4 + 1)).bind fun v180 => (f_X11_next x2 v180 r179.2).bind fun r181 => (f_X11_thrown x2 r181.2).bind fun r182 => if r182.1 = r179.1 then (if r179.1 = 0 then ((rd_AJ r182.2 x3 0).bind fun v183 => if (lg_cmp v183 (Int32.toInt64 r181.1)) = 0 then (f_L_law_1872 L xs k23 x1 x2 x3 x4 r182.2) else (none)) else (f_L_law_1872 L xs k23 x1 x2 x3 x4 r182.2)) else (none)) else (if (v1 &&& 63) = 29 then ((sc_at L xs (x4 + 1)).bind fun v184 => (sc_at L xs (x4 + 2)).bind fun v185 => (sc_at L xs (x4 + 3)).bind fun v186 => (eh (e_L_byMud x1 v184 v185 v186 x3 h) (f_L_byMud x1 v184 v185 v186 x3 h)).bind fun r187 => (sc_at L xs (x4 + 1)).bind fun v188 => (sc_at L xs (x4 + 2)).bind fun v189 => (sc_at L xs (x4 + 3)).bind fun v190 => (f_X11_byMud x2 v188 v189 v190 r187.2).bind fun r191 => (f_X11_thrown x2 r191.2).bind fun r192 => if r192.1 = r187.1 then (if r187.1 = 0 then ((rd_AJ r192.2 x3 0).bind fun v193 => if (lg_cmp v193 (Int32.toInt64 r191.1)) = 0 then (f_L_law_1952 L xs k23 x1 x2 x3 x4 r192.2) else (none)) else (f_L_law_1952 L xs k23 x1 x2 x3 x4 r192.2)) else (none)) else (if (v1 &&& 63) = 30 then ((sc_at L xs (x4 + 1)).bind fun v194 => (sc_at L xs (x4 + 2)).bind fun v195 => (sc_at L xs (x4 + 3)).bind fun v196 => (eh (e_L_game x1 v194 v195 v196 x3 h) (f_L_game x1 v194 v195 v196 x3 h)).bind fun r197 => (sc_at L xs (x4 + 1)).bind fun v198 => (sc_at L xs (x4 + 2)).bind fun v199 => (sc_at L xs (x4 + 3)).bind fun v200 => (f_X11_game x2 v198 v199 v200 r197.2).bind fun r201 => (f_X11_thrown x2 r201.2).bind fun r202 => if r202.1 = r197.1 then (if r197.1 = 0 then ((rd_AJ r202.2 x3 0).bind fun v203 => if (lg_cmp v203 (Int32.toInt64 r201.1)) = 0 then (f_L_law_2032 L xs k23 x1 x2 x3 x4 r202.2) else (none)) else (f_L_law_2032 L xs k23 x1 x2 x3 x4 r202.2)) else (none)) else (if (v1 &&& 63) = 31 then ((sc_at L xs (x4 + 1)).bind fun v204 => (sc_at L xs (x4 + 2)).bind fun v205 => (sc_at L xs (x4 + 3)).bind fun v206 => (eh (e_L_reviews x1 v204 v205 v206 x3 h) (f_L_reviews x1 v204 v205 v206 x3 h)).bind fun r207 => (sc_at L xs (x4 + 1)).bind fun v208 => (sc_at L xs (x4 + 2)).bind fun v209 => (sc_at L xs (x4 + 3)).bind fun v210 => (f_X11_reviews x2 v208 v209 v210 r207.2).bind fun r211 => (f_X11_thrown x2 r211.2).bind fun r212 => if r212.1 = r207.1 then (if r207.1 = 0 then ((rd_AJ r212.2 x3 0).bind fun v213 => if (lg_cmp v213 (Int32.toInt64 r211.1)) = 0 then (f_L_law_2112 L xs k23 x1 x2 x3 x4 r212.2) else (none)) else (f_L_law_2112 L xs k23 x1 x2 x3 x4 r212.2)) else (none)) else (if (v1 &&& 63) = 32 then ((sc_at L xs (x4 + 1)).bind fun v214 => (eh (e_L_nextTo x1 v214 x3 h) (f_L_nextTo x1 v214 x3 h)).bind fun r215 => (sc_at L xs (x4 + 1)).bind fun v216 => (f_X11_nextTo x2 v216 r215.2).bind fun r217 => (f_X11_thrown x2 r217.2).bind fun r218 => if r218.1 = r215.1 then (if r215.1 = 0 then ((rd_AJ r218.2 x3 0).bind fun v219 => if (lg_cmp v219 (Int32.toInt64 r217.1)) = 0 then (f_L_law_2168 L xs k23 x1 x2 x3 x4 r218.2) else (none)) else (f_L_law_2168 L xs k23 x1 x2 x3 x4 r218.2)) else (none)) else (if (v1 &&& 63) = 33 then ((sc_at L xs (x4 + 1)).bind fun v220 => (eh (e_L_alike x1 v220 x3 h) (f_L_alike x1 v220 x3 h)).bind fun r221 => (sc_at L xs (x4 + 1)).bind fun v222 => (f_X11_alike x2 v222 r221.2).bind fun r223 => (f_X11_thrown x2 r223.2).bind fun r224 => if r224.1 = r221.1 then (if r221.1 = 0 then ((rd_AJ r224.2 x3 0).bind fun v225 => if (lg_cmp v225 (Int32.toInt64 r223.1)) = 0 then (f_L_law_2224 L xs k23 x1 x2 x3 x4 r224.2) else (none)) else (f_L_law_2224 L xs k23 x1 x2 x3 x4 r224.2)) else (none)) else (if (v1 &&& 63) = 34 then ((sc_at L xs (x4 + 1)).bind fun v226 => (eh (e_L_lost x1 v226 x3 h) (f_L_lost x1 v226 x3 h)).bind fun r227 => (sc_at L xs (x4 + 1)).bind fun v228 => (f_X11_lost x2 v228 r227.2).bind fun r229 => (f_X11_thrown x2 r229.2).bind fun r230 => if r230.1 = r227.1 then (if r227.1 = 0 then ((rd_AJ r230.2 x3 0).bind fun v231 => if (lg_cmp v231 (Int32.toInt64 r229.1)) = 0 then (f_L_law_2280 L xs k23 x1 x2 x3 x4 r230.2) else (none)) else (f_L_law_2280 L xs k23 x1 x2 x3 x4 r230.2)) else (none)) else (if (v1 &&& 63) = 35 then ((sc_at L xs (x4 + 1)).bind fun v232 => (eh (e_L_mates x1 v232 x3 h) (f_L_mates x1 v232 x3 h)).bind fun r233 => (sc_at L xs (x4 + 1)).bind fun v234 => (f_X11_mates x2 v234 r233.2).bind fun r235 => (f_X11_thrown x2 r235.2).bind fun r236 => if r236.1 = r233.1 then (if r233.1 = 0 then ((rd_AJ r236.2 x3 0).bind fun v237 => if (lg_cmp v237 (Int32.toInt64 r235.1)) = 0 then (f_L_law_2336 L xs k23 x1 x2 x3 x4 r236.2) else (none)) else (f_L_law_2336 L xs k23 x1 x2 x3 x4 r236.2)) else (none)) else (if (v1 &&& 63) = 36 then ((f_X10_step x1 h).bind fun r238 => (f_X11_step x2 r238.2).bind fun r239 => if r238.1 = r239.1 then (f_L_law_2799 L xs k23 x1 x2 x3 x4 r239.2) else (none)) else (if (v1 &&& 63) = 37 then ((sc_at L xs (x4 + 1)).bind fun v240 => (sc_at L xs (x4 + 2)).bind fun v241 => (sc_at L xs (x4 + 3)).bind fun v242 => (eh (e_L_chain x1 v240 v241 v242 x3 h) (f_L_chain x1 v240 v241 v242 x3 h)).bind fun r243 => (sc_at L xs (x4 + 1)).bind fun v244 => (sc_at L xs (x4 + 2)).bind fun v245 => (sc_at L xs (x4 + 3)).bind fun v246 => (f_X11_chain x2 v244 v245 v246 r243.2).bind fun r247 => (f_X11_thrown x2 r247.2).bind fun r248 => if r248.1 = r243.1 then (if r243.1 = 0 then ((rd_AJ r248.2 x3 0).bind fun v249 => if (lg_cmp v249 (Int32.toInt64 r247.1)) = 0 then (f_L_law_2429 L xs k23 x1 x2 x3 x4 r248.2) else (none)) else (f_L_law_2429 L xs k23 x1 x2 x3 x4 r248.2)) else (none)) else (if (v1 &&& 63) = 38 then ((sc_at L xs (x4 + 1)).bind fun v250 => (eh (e_L_most x1 v250 x3 h) (f_L_most x1 v250 x3 h)).bind fun r251 => (sc_at L xs (x4 + 1)).bind fun v252 => (f_X11_most x2 v252 r251.2).bind fun r253 => (f_X11_thrown x2 r253.2).bind fun r254 => if r254.1 = r251.1 then (if r251.1 = 0 then ((rd_AJ r254.2 x3 0).bind fun v255 => if (lg_cmp v255 (Int32.toInt64 r253.1)) = 0 then (f_L_law_2485 L xs k23 x1 x2 x3 x4 r254.2) else (none)) else (f_L_law_2485 L xs k23 x1 x2 x3 x4 r254.2)) else (none)) else (if (v1 &&& 63) = 39 then ((sc_at L xs (x4 + 1)).bind fun v256 => (sc_at L xs (x4 + 2)).bind fun v257 => (eh (e_L_often x1 v256 v257 x3 h) (f_L_often x1 v256 v257 x3 h)).bind fun r258 => (sc_at L xs (x4 + 1)).bind fun v259 => (sc_at L xs (x4 + 2)).bind fun v260 => (f_X11_often x2 v259 v260 r258.2).bind fun r261 => (f_X11_thrown x2 r261.2).bind fun r262 => if r262.1 = r258.1 then (if r258.1 = 0 then ((rd_AJ r262.2 x3 0).bind fun v263 => if (lg_cmp v263 (Int32.toInt64 r261.1)) = 0 then (f_L_law_2553 L xs k23 x1 x2 x3 x4 r262.2) else (none)) else (f_L_law_2553 L xs k23 x1 x2 x3 x4 r262.2)) else (none)) else (if (v1 &&& 63) = 40 then ((sc_at L xs (x4 + 1)).bind fun v264 => (eh (e_L_spoilt x1 v264 x3 h) (f_L_spoilt x1 v264 x3 h)).bind fun r265 => (sc_at L xs (x4 + 1)).bind fun v266 => (f_X11_spoilt x2 v266 r265.2).bind fun r267 => (f_X11_thrown x2 r267.2).bind fun r268 => if r268.1 = r265.1 then (if r265.1 = 0 then ((rd_AJ r268.2 x3 0).bind fun v269 => if (lg_cmp v269 (Int32.toInt64 r267.1)) = 0 then (f_L_law_2609 L xs k23 x1 x2 x3 x4 r268.2) else (none)) else (f_L_law_2609 L xs k23 x1 x2 x3 x4 r268.2)) else (none)) else (if (v1 &&& 63) = 41 then ((sc_at L xs (x4 + 1)).bind fun v270 => (sc_at L xs (x4 + 2)).bind fun v271 => (eh (e_L_reform x1 v270 v271 x3 h) (f_L_reform x1 v270 v271 x3 h)).bind fun r272 => (sc_at L xs (x4 + 1)).bind fun v273 => (sc_at L xs (x4 + 2)).bind fun v274 => (f_X11_reform x2 v273 v274 r272.2).bind fun r275 => (f_X11_thrown x2 r275.2).bind fun r276 => if r276.1 = r272.1 then (if r272.1 = 0 then ((rd_AJ r276.2 x3 0).bind fun v277 => if (lg_cmp v277 (Int32.toInt64 r275.1)) = 0 then (f_L_law_2677 L xs k23 x1 x2 x3 x4 r276.2) else (none)) else (f_L_law_2677 L xs k23 x1 x2 x3 x4 r276.2)) else (none)) else (if (v1 &&& 63) = 42 then ((f_X10_swap x1 h).bind fun r278 => (f_X11_swap x2 r278.2).bind fun r279 => if r278.1 = r279.1 then (f_L_law_2799 L xs k23 x1 x2 x3 x4 r279.2) else (none)) else (if (v1 &&& 63) = 43 then ((f_X10_loudest x1 h).bind fun r280 => (f_X11_loudest x2 r280.2).bind fun r281 => if r280.1 = r281.1 then (f_L_law_2799 L xs k23 x1 x2 x3 x4 r281.2) else (none)) else (if (v1 &&& 63) = 44 then ((sc_at L xs (x4 + 1)).bind fun v282 => (eh (e_L_run x1 v282 x3 h) (f_L_run x1 v282 x3 h)).bind fun r283 => (sc_at L xs (x4 + 1)).bind fun v284 => (f_X11_run x2 v284 r283.2).bind fun r285 => (f_X11_thrown x2 r285.2).bind fun r286 => if r286.1 = r283.1 then (if r283.1 = 0 then ((rd_AJ r286.2 x3 0).bind fun v287 => if (lg_cmp v287 (Int32.toInt64 r285.1)) = 0 then (f_L_law_2759 L xs k23 x1 x2 x3 x4 r286.2) else (none)) else (f_L_law_2759 L xs k23 x1 x2 x3 x4 r286.2)) else (none)) else (if (v1 &&& 63) = 45 then ((f_X10_rarest x1 h).bind fun r288 => (f_X11_rarest x2 r288.2).bind fun r289 => if r288.1 = r289.1 then (f_L_law_2799 L xs k23 x1 x2 x3 x4 r289.2) else (none)) else (if (v1 &&& 63) = 46 then ((f_X10_image x1 h).bind fun r290 => (f_X11_image x2 r290).bind fun r291 => f_L_law_2799 L xs k23 x1 x2 x3 x4 r291) else (if (v1 &&& 63) = 47 then ((f_X10_restore x1 h).bind fun r292 => (f_X11_restore x2 r292.2).bind fun r293 => if r292.1 = r293.1 then (f_L_law_2799 L xs k23 x1 x2 x3 x4 r293.2) else (none)) else (f_L_law_2799 L xs k23 x1 x2 x3 x4 h)))))))))))))))))))))))))))))))))))))))))))))))))
set_option maxRecDepth 40000 in
set_option maxHeartbeats 4000000 in
theorem w_L_law_23 (hb : kc + (n + 1) ≤ 601024 ∧ ks + 6 * (n + 1) ≤ 7293034) (hl : l.stackTraces = false) (X : wx G p s m #[Value.ref b] meth c cL_law 7 RL (some .boolean)) (HX : wsc G s L xs ∧ G.1 = s.heap.size) (k23 : Nat → Nat → Nat → Int32 → hp_H → Option hp_H) (hk23 : ∀ (x1 : Nat) (x2 : Nat) (x3 : Nat) (x4 : Int32) (h : hp_H) (kc ks : Nat), kc + n ≤ 601024 ∧ ks + 6 * n ≤ 7293034 → k23 x1 x2 x3 x4 h = some o → wq p l e (mt_R 1750 601024 7293034) s m #[Value.ref b] below meth c (lw_Z below #[Value.ref b] s) G 7 kc ks 23 [(0, .float 97), (1, .ref x1), (2, .ref x2), (3, .ref x3), (4, .int x4)] [] h) (x1 : Nat) (x2 : Nat) (x3 : Nat) (x4 : Int32) (h : hp_H) (hf : f_L_law_23 L xs k23 x1 x2 x3 x4 h = some o) : wq p l e (mt_R 1750 601024 7293034) s m #[Value.ref b] below meth c (lw_Z below #[Value.ref b] s) G 7 kc ks 23 [(0, .float 97), (1, .ref x1), (2, .ref x2), (3, .ref x3), (4, .int x4)] [] h := by
  unfold f_L_law_23 at hf
  refine wk_iload X dL_law_23 4 rfl ?_
  refine wk_aload_nS X dL_law_25 0 rfl ?_
  refine wk_slen X HX.1 dL_law_26 ?_
  refine wk_bipush X dL_law_27 ib_6 ?_
  refine wk_isub X dL_law_29 ?_
  refine wk_icmp_gt X 2805 dL_law_30 (by decide) hf (fun hf => ?_) (fun hf => ?_)
  · exact wq_sub [] rfl (w_L_law_2805 (n := n) ⟨by omega, by omega⟩ X HX _ hf)
  · refine wk_aload_nS X dL_law_33 0 rfl ?_
    refine wk_iload X dL_law_34 4 rfl ?_
    refine wk_sld X HX.1 dL_law_36 hf (fun v1 hf => ?_)
    refine wk_bipush X dL_law_37 ib_63 ?_
    refine wk_iand X dL_law_39 ?_
    refine wk_ts_in X 248 0 dL_law_40 (by decide) (by decide) (by decide) rfl (by decide) hf (fun hf => ?_) (fun n0 hf => ?_)
    · refine wk_aload_n X dL_law_248 1 rfl ?_
      refine wk_aload_nS X dL_law_249 0 rfl ?_
      refine wk_iload X dL_law_250 4 rfl ?_
      refine wk_iconst X dL_law_252 ic_1 ?_
      refine wk_iadd X dL_law_253 ?_
      refine wk_sld X HX.1 dL_law_254 hf (fun v2 hf => ?_)
      refine wk_aload_nS X dL_law_255 0 rfl ?_
      refine wk_iload X dL_law_256 4 rfl ?_
      refine wk_iconst X dL_law_258 ic_2 ?_
      refine wk_iadd X dL_law_259 ?_
      refine wk_sld X HX.1 dL_law_260 hf (fun v3 hf => ?_)
      refine wk_aload_nS X dL_law_261 0 rfl ?_
      refine wk_iload X dL_law_262 4 rfl ?_
      refine wk_iconst X dL_law_264 ic_3 ?_
      refine wk_iadd X dL_law_265 ?_
      refine wk_sld X HX.1 dL_law_266 hf (fun v4 hf => ?_)
      refine wk_aload_nS X dL_law_267 0 rfl ?_
      refine wk_iload X dL_law_268 4 rfl ?_
      refine wk_iconst X dL_law_270 ic_4 ?_
      refine wk_iadd X dL_law_271 ?_
      refine wk_sld X HX.1 dL_law_272 hf (fun v5 hf => ?_)
      refine wk_aload_nS X dL_law_273 0 rfl ?_
      refine wk_iload X dL_law_274 4 rfl ?_
      refine wk_iconst X dL_law_276 ic_5 ?_
      refine wk_iadd X dL_law_277 ?_
      refine wk_sld X HX.1 dL_law_278 hf (fun v6 hf => ?_)
      refine wl_callVi X [.int v2, .int v3, .int v4, .int v5, .int v6] [] dL_law_279 rfl vo_L_130 rfl (by decide) (Nat.le_of_ble_eq_true rfl) ⟨by omega, by omega⟩ hf (c_X10_feed l _ _ _ _ _ _ _) (fun r7 hf => ?_)
      refine wk_aload_n X dL_law_282 2 rfl ?_
      refine wk_aload_nS X dL_law_283 0 rfl ?_
      refine wk_iload X dL_law_284 4 rfl ?_
      refine wk_iconst X dL_law_286 ic_1 ?_
      refine wk_iadd X dL_law_287 ?_
      refine wk_sld X HX.1 dL_law_288 hf (fun v8 hf => ?_)
      refine wk_aload_nS X dL_law_289 0 rfl ?_
      refine wk_iload X dL_law_290 4 rfl ?_
      refine wk_iconst X dL_law_292 ic_2 ?_
      refine wk_iadd X dL_law_293 ?_
      refine wk_sld X HX.1 dL_law_294 hf (fun v9 hf => ?_)
      refine wk_aload_nS X dL_law_295 0 rfl ?_
      refine wk_iload X dL_law_296 4 rfl ?_
      refine wk_iconst X dL_law_298 ic_3 ?_
      refine wk_iadd X dL_law_299 ?_
      refine wk_sld X HX.1 dL_law_300 hf (fun v10 hf => ?_)
      refine wk_aload_nS X dL_law_301 0 rfl ?_
      refine wk_iload X dL_law_302 4 rfl ?_
      refine wk_iconst X dL_law_304 ic_4 ?_
      refine wk_iadd X dL_law_305 ?_
      refine wk_sld X HX.1 dL_law_306 hf (fun v11 hf => ?_)
      refine wk_aload_nS X dL_law_307 0 rfl ?_
      refine wk_iload X dL_law_308 4 rfl ?_
      refine wk_iconst X dL_law_310 ic_5 ?_
      refine wk_iadd X dL_law_311 ?_
      refine wk_sld X HX.1 dL_law_312 hf (fun v12 hf => ?_)
      refine wl_callVi X [.int v8, .int v9, .int v10, .int v11, .int v12] [.int r7.1] dL_law_313 rfl vo_L_134 rfl (by decide) (Nat.le_of_ble_eq_true rfl) ⟨by omega, by omega⟩ hf (c_X11_feed l _ _ _ _ _ _ _) (fun r13 hf => ?_)
      refine wk_icmp_eq X 2799 dL_law_316 (by decide) hf (fun hf => ?_) (fun hf => ?_)
      · exact wq_sub [0, 1, 2, 3, 4] rfl (w_L_law_2799 (n := n) ⟨by omega, by omega⟩ X HX k23 hk23 _ _ _ _ _ hf)
      · refine wk_iconst X dL_law_319 ic_0 ?_
        exact nomatch hf
    refine wk_ts_in X 321 1 dL_law_40 (by decide) (by decide) (by decide) rfl (by decide) hf (fun hf => ?_) (fun n1 hf => ?_)
    · refine wk_aload_n X dL_law_321 1 rfl ?_
      refine wk_aload_nS X dL_law_322 0 rfl ?_
      refine wk_iload X dL_law_323 4 rfl ?_
      refine wk_iconst X dL_law_325 ic_1 ?_
      refine wk_iadd X dL_law_326 ?_
      refine wk_sld X HX.1 dL_law_327 hf (fun v14 hf => ?_)
      refine wk_aload_n X dL_law_328 3 rfl ?_
      refine wl_callH X [.ref x1, .int v14, .ref x3] [] dL_law_329 rfl so_L_135 rfl (by decide) (Nat.le_of_ble_eq_true rfl) ⟨by omega, by omega⟩ hf (ce_L_army l hl _ _ _ _) (c_L_army l _ _ _ _) (fun r15 hf => ?_)
      refine wk_istore (lv' := [(5, .int r15.1), (0, .float 97), (1, .ref x1), (2, .ref x2), (3, .ref x3), (4, .int x4)]) X dL_law_332 (by decide) rfl ?_
      refine wk_aload_n X dL_law_334 3 rfl ?_
      refine wk_aload_nS X dL_law_335 1 rfl ?_
      refine wk_iload X dL_law_336 5 rfl ?_
      refine wk_iconst X dL_law_338 ic_1 ?_
      refine wk_iadd X dL_law_339 ?_
      refine wk_sld X HX.1 dL_law_340 hf (fun v16 hf => ?_)
      refine wl_callVi X [.int v16] [] dL_law_341 rfl vo_L_140 rfl (by decide) (Nat.le_of_ble_eq_true rfl) ⟨by omega, by omega⟩ hf (c_X11_army l _ _ _) (fun r17 hf => ?_)
      refine wk_istore (lv' := [(6, .int r17.1), (5, .int r15.1), (0, .float 97), (1, .ref x1), (2, .ref x2), (3, .ref x3), (4, .int x4)]) X dL_law_344 (by decide) rfl ?_
      refine wk_aload_n X dL_law_346 4 rfl ?_
      refine wl_callVi X [] [] dL_law_347 rfl vo_L_141 rfl (by decide) (Nat.le_of_ble_eq_true rfl) ⟨by omega, by omega⟩ hf (c_X11_thrown l _ _) (fun r18 hf => ?_)
      refine wk_iload X dL_law_350 1 rfl ?_
      refine wk_icmp_eq X 357 dL_law_352 (by decide) hf (fun hf => ?_) (fun hf => ?_)
      · refine wk_iload X dL_law_357 1 rfl ?_
        refine wk_if_ne X 374 dL_law_359 (by decide) hf (fun hf => ?_) (fun hf => ?_)
        · exact wq_sub [2, 3, 4, 5, 6] rfl (w_L_law_374 (n := n) ⟨by omega, by omega⟩ X HX k23 hk23 _ _ _ _ _ hf)
        · refine wk_aload_n X dL_law_362 5 rfl ?_
          refine wk_iconst X dL_law_363 ic_0 ?_
          refine wk_lald X dL_law_364 hf (fun v19 hf => ?_)
          refine wk_iload X dL_law_365 0 rfl ?_
          refine wk_i2l X dL_law_367 ?_
          refine wk_lcmp X dL_law_368 ?_
          refine wk_if_eq X 374 dL_law_369 (by decide) hf (fun hf => ?_) (fun hf => ?_)
          · exact wq_sub [2, 3, 4, 5, 6] rfl (w_L_law_374 (n := n) ⟨by omega, by omega⟩ X HX k23 hk23 _ _ _ _ _ hf)
          · refine wk_iconst X dL_law_372 ic_0 ?_
            exact nomatch hf
      · refine wk_iconst X dL_law_355 ic_0 ?_
        exact nomatch hf
    refine wk_ts_in X 377 2 dL_law_40 (by decide) (by decide) (by decide) rfl (by decide) hf (fun hf => ?_) (fun n2 hf => ?_)
    · refine wk_aload_n X dL_law_377 1 rfl ?_
      refine wl_callVi X [] [] dL_law_378 rfl vo_L_145 rfl (by decide) (Nat.le_of_ble_eq_true rfl) ⟨by omega, by omega⟩ hf (c_X10_fault l _ _) (fun r20 hf => ?_)
      refine wk_aload_n X dL_law_381 2 rfl ?_
      refine wl_callVi X [] [.int r20.1] dL_law_382 rfl vo_L_148 rfl (by decide) (Nat.le_of_ble_eq_true rfl) ⟨by omega, by omega⟩ hf (c_X11_fault l _ _) (fun r21 hf => ?_)
      refine wk_icmp_eq X 2799 dL_law_385 (by decide) hf (fun hf => ?_) (fun hf => ?_)
      · exact wq_sub [0, 1, 2, 3, 4] rfl (w_L_law_2799 (n := n) ⟨by omega, by omega⟩ X HX k23 hk23 _ _ _ _ _ hf)
      · refine wk_iconst X dL_law_388 ic_0 ?_
        exact nomatch hf
    refine wk_ts_in X 390 3 dL_law_40 (by decide) (by decide) (by decide) rfl (by decide) hf (fun hf => ?_) (fun n3 hf => ?_)
    · refine wk_aload_n X dL_law_390 1 rfl ?_
      refine wk_aload_nS X dL_law_391 0 rfl ?_
      refine wk_iload X dL_law_392 4 rfl ?_
      refine wk_iconst X dL_law_394 ic_1 ?_
      refine wk_iadd X dL_law_395 ?_
      refine wk_sld X HX.1 dL_law_396 hf (fun v22 hf => ?_)
      refine wk_aload_n X dL_law_397 3 rfl ?_
      refine wl_callH X [.ref x1, .int v22, .ref x3] [] dL_law_398 rfl so_L_149 rfl (by decide) (Nat.le_of_ble_eq_true rfl) ⟨by omega, by omega⟩ hf (ce_L_count l hl _ _ _ _) (c_L_count l _ _ _ _) (fun r23 hf => ?_)
      refine wk_istore (lv' := [(5, .int r23.1), (0, .float 97), (1, .ref x1), (2, .ref x2), (3, .ref x3), (4, .int x4)]) X dL_law_401 (by decide) rfl ?_
      refine wk_aload_n X dL_law_403 3 rfl ?_
      refine wk_aload_nS X dL_law_404 1 rfl ?_
      refine wk_iload X dL_law_405 5 rfl ?_
      refine wk_iconst X dL_law_407 ic_1 ?_
      refine wk_iadd X dL_law_408 ?_
      refine wk_sld X HX.1 dL_law_409 hf (fun v24 hf => ?_)
      refine wl_callVi X [.int v24] [] dL_law_410 rfl vo_L_151 rfl (by decide) (Nat.le_of_ble_eq_true rfl) ⟨by omega, by omega⟩ hf (c_X11_count l _ _ _) (fun r25 hf => ?_)
      refine wk_istore (lv' := [(6, .int r25.1), (5, .int r23.1), (0, .float 97), (1, .ref x1), (2, .ref x2), (3, .ref x3), (4, .int x4)]) X dL_law_413 (by decide) rfl ?_
      refine wk_aload_n X dL_law_415 4 rfl ?_
      refine wl_callVi X [] [] dL_law_416 rfl vo_L_141 rfl (by decide) (Nat.le_of_ble_eq_true rfl) ⟨by omega, by omega⟩ hf (c_X11_thrown l _ _) (fun r26 hf => ?_)
      refine wk_iload X dL_law_419 1 rfl ?_
      refine wk_icmp_eq X 426 dL_law_421 (by decide) hf (fun hf => ?_) (fun hf => ?_)
      · refine wk_iload X dL_law_426 1 rfl ?_
        refine wk_if_ne X 443 dL_law_428 (by decide) hf (fun hf => ?_) (fun hf => ?_)
        · exact wq_sub [2, 3, 4, 5, 6] rfl (w_L_law_443 (n := n) ⟨by omega, by omega⟩ X HX k23 hk23 _ _ _ _ _ hf)
        · refine wk_aload_n X dL_law_431 5 rfl ?_
          refine wk_iconst X dL_law_432 ic_0 ?_
          refine wk_lald X dL_law_433 hf (fun v27 hf => ?_)
          refine wk_iload X dL_law_434 0 rfl ?_
          refine wk_i2l X dL_law_436 ?_
          refine wk_lcmp X dL_law_437 ?_
          refine wk_if_eq X 443 dL_law_438 (by decide) hf (fun hf => ?_) (fun hf => ?_)
          · exact wq_sub [2, 3, 4, 5, 6] rfl (w_L_law_443 (n := n) ⟨by omega, by omega⟩ X HX k23 hk23 _ _ _ _ _ hf)
          · refine wk_iconst X dL_law_441 ic_0 ?_
            exact nomatch hf
      · refine wk_iconst X dL_law_424 ic_0 ?_
        exact nomatch hf
    refine wk_ts_in X 446 4 dL_law_40 (by decide) (by decide) (by decide) rfl (by decide) hf (fun hf => ?_) (fun n4 hf => ?_)
    · refine wk_aload_n X dL_law_446 1 rfl ?_
      refine wk_aload_nS X dL_law_447 0 rfl ?_
      refine wk_iload X dL_law_448 4 rfl ?_
      refine wk_iconst X dL_law_450 ic_1 ?_
      refine wk_iadd X dL_law_451 ?_
      refine wk_sld X HX.1 dL_law_452 hf (fun v28 hf => ?_)
      refine wk_aload_nS X dL_law_453 0 rfl ?_
      refine wk_iload X dL_law_454 4 rfl ?_
      refine wk_iconst X dL_law_456 ic_2 ?_
      refine wk_iadd X dL_law_457 ?_
      refine wk_sld X HX.1 dL_law_458 hf (fun v29 hf => ?_)
      refine wk_aload_n X dL_law_459 3 rfl ?_
      refine wl_callH X [.ref x1, .int v28, .int v29, .ref x3] [] dL_law_460 rfl so_L_152 rfl (by decide) (Nat.le_of_ble_eq_true rfl) ⟨by omega, by omega⟩ hf (ce_L_man l hl _ _ _ _ _) (c_L_man l _ _ _ _ _) (fun r30 hf => ?_)
      refine wk_istore (lv' := [(5, .int r30.1), (0, .float 97), (1, .ref x1), (2, .ref x2), (3, .ref x3), (4, .int x4)]) X dL_law_463 (by decide) rfl ?_
      refine wk_aload_n X dL_law_465 3 rfl ?_
      refine wk_aload_nS X dL_law_466 1 rfl ?_
      refine wk_iload X dL_law_467 5 rfl ?_
      refine wk_iconst X dL_law_469 ic_1 ?_
      refine wk_iadd X dL_law_470 ?_
      refine wk_sld X HX.1 dL_law_471 hf (fun v31 hf => ?_)
      refine wk_aload_nS X dL_law_472 1 rfl ?_
      refine wk_iload X dL_law_473 5 rfl ?_
      refine wk_iconst X dL_law_475 ic_2 ?_
      refine wk_iadd X dL_law_476 ?_
      refine wk_sld X HX.1 dL_law_477 hf (fun v32 hf => ?_)
      refine wl_callVi X [.int v31, .int v32] [] dL_law_478 rfl vo_L_155 rfl (by decide) (Nat.le_of_ble_eq_true rfl) ⟨by omega, by omega⟩ hf (c_X11_man l _ _ _ _) (fun r33 hf => ?_)
      refine wk_istore (lv' := [(6, .int r33.1), (5, .int r30.1), (0, .float 97), (1, .ref x1), (2, .ref x2), (3, .ref x3), (4, .int x4)]) X dL_law_481 (by decide) rfl ?_
      refine wk_aload_n X dL_law_483 4 rfl ?_
      refine wl_callVi X [] [] dL_law_484 rfl vo_L_141 rfl (by decide) (Nat.le_of_ble_eq_true rfl) ⟨by omega, by omega⟩ hf (c_X11_thrown l _ _) (fun r34 hf => ?_)
      refine wk_iload X dL_law_487 1 rfl ?_
      refine wk_icmp_eq X 494 dL_law_489 (by decide) hf (fun hf => ?_) (fun hf => ?_)
      · refine wk_iload X dL_law_494 1 rfl ?_
        refine wk_if_ne X 511 dL_law_496 (by decide) hf (fun hf => ?_) (fun hf => ?_)
        · exact wq_sub [2, 3, 4, 5, 6] rfl (w_L_law_511 (n := n) ⟨by omega, by omega⟩ X HX k23 hk23 _ _ _ _ _ hf)
        · refine wk_aload_n X dL_law_499 5 rfl ?_
          refine wk_iconst X dL_law_500 ic_0 ?_
          refine wk_lald X dL_law_501 hf (fun v35 hf => ?_)
          refine wk_iload X dL_law_502 0 rfl ?_
          refine wk_i2l X dL_law_504 ?_
          refine wk_lcmp X dL_law_505 ?_
          refine wk_if_eq X 511 dL_law_506 (by decide) hf (fun hf => ?_) (fun hf => ?_)
          · exact wq_sub [2, 3, 4, 5, 6] rfl (w_L_law_511 (n := n) ⟨by omega, by omega⟩ X HX k23 hk23 _ _ _ _ _ hf)
          · refine wk_iconst X dL_law_509 ic_0 ?_
            exact nomatch hf
      · refine wk_iconst X dL_law_492 ic_0 ?_
        exact nomatch hf
    refine wk_ts_in X 514 5 dL_law_40 (by decide) (by decide) (by decide) rfl (by decide) hf (fun hf => ?_) (fun n5 hf => ?_)
    · refine wk_aload_n X dL_law_514 1 rfl ?_
      refine wk_aload_nS X dL_law_515 0 rfl ?_
      refine wk_iload X dL_law_516 4 rfl ?_
      refine wk_iconst X dL_law_518 ic_1 ?_
      refine wk_iadd X dL_law_519 ?_
      refine wk_sld X HX.1 dL_law_520 hf (fun v36 hf => ?_)
      refine wk_aload_nS X dL_law_521 0 rfl ?_
      refine wk_iload X dL_law_522 4 rfl ?_
      refine wk_iconst X dL_law_524 ic_2 ?_
      refine wk_iadd X dL_law_525 ?_
      refine wk_sld X HX.1 dL_law_526 hf (fun v37 hf => ?_)
      refine wk_aload_n X dL_law_527 3 rfl ?_
      refine wl_callH X [.ref x1, .int v36, .int v37, .ref x3] [] dL_law_528 rfl so_L_156 rfl (by decide) (Nat.le_of_ble_eq_true rfl) ⟨by omega, by omega⟩ hf (ce_L_row l hl _ _ _ _ _) (c_L_row l _ _ _ _ _) (fun r38 hf => ?_)
      refine wk_istore (lv' := [(5, .int r38.1), (0, .float 97), (1, .ref x1), (2, .ref x2), (3, .ref x3), (4, .int x4)]) X dL_law_531 (by decide) rfl ?_
      refine wk_aload_n X dL_law_533 3 rfl ?_
      refine wk_aload_nS X dL_law_534 1 rfl ?_
      refine wk_iload X dL_law_535 5 rfl ?_
      refine wk_iconst X dL_law_537 ic_1 ?_
      refine wk_iadd X dL_law_538 ?_
      refine wk_sld X HX.1 dL_law_539 hf (fun v39 hf => ?_)
      refine wk_aload_nS X dL_law_540 1 rfl ?_
      refine wk_iload X dL_law_541 5 rfl ?_
      refine wk_iconst X dL_law_543 ic_2 ?_
      refine wk_iadd X dL_law_544 ?_
      refine wk_sld X HX.1 dL_law_545 hf (fun v40 hf => ?_)
      refine wl_callVi X [.int v39, .int v40] [] dL_law_546 rfl vo_L_158 rfl (by decide) (Nat.le_of_ble_eq_true rfl) ⟨by omega, by omega⟩ hf (c_X11_row l _ _ _ _) (fun r41 hf => ?_)
      refine wk_istore (lv' := [(6, .int r41.1), (5, .int r38.1), (0, .float 97), (1, .ref x1), (2, .ref x2), (3, .ref x3), (4, .int x4)]) X dL_law_549 (by decide) rfl ?_
      refine wk_aload_n X dL_law_551 4 rfl ?_
      refine wl_callVi X [] [] dL_law_552 rfl vo_L_141 rfl (by decide) (Nat.le_of_ble_eq_true rfl) ⟨by omega, by omega⟩ hf (c_X11_thrown l _ _) (fun r42 hf => ?_)
      refine wk_iload X dL_law_555 1 rfl ?_
      refine wk_icmp_eq X 562 dL_law_557 (by decide) hf (fun hf => ?_) (fun hf => ?_)
      · refine wk_iload X dL_law_562 1 rfl ?_
        refine wk_if_ne X 579 dL_law_564 (by decide) hf (fun hf => ?_) (fun hf => ?_)
        · exact wq_sub [2, 3, 4, 5, 6] rfl (w_L_law_579 (n := n) ⟨by omega, by omega⟩ X HX k23 hk23 _ _ _ _ _ hf)
        · refine wk_aload_n X dL_law_567 5 rfl ?_
          refine wk_iconst X dL_law_568 ic_0 ?_
          refine wk_lald X dL_law_569 hf (fun v43 hf => ?_)
          refine wk_iload X dL_law_570 0 rfl ?_
          refine wk_i2l X dL_law_572 ?_
          refine wk_lcmp X dL_law_573 ?_
          refine wk_if_eq X 579 dL_law_574 (by decide) hf (fun hf => ?_) (fun hf => ?_)
          · exact wq_sub [2, 3, 4, 5, 6] rfl (w_L_law_579 (n := n) ⟨by omega, by omega⟩ X HX k23 hk23 _ _ _ _ _ hf)
          · refine wk_iconst X dL_law_577 ic_0 ?_
            exact nomatch hf
      · refine wk_iconst X dL_law_560 ic_0 ?_
        exact nomatch hf
    refine wk_ts_in X 582 6 dL_law_40 (by decide) (by decide) (by decide) rfl (by decide) hf (fun hf => ?_) (fun n6 hf => ?_)
    · refine wk_aload_n X dL_law_582 1 rfl ?_
      refine wk_aload_nS X dL_law_583 0 rfl ?_
      refine wk_iload X dL_law_584 4 rfl ?_
      refine wk_iconst X dL_law_586 ic_1 ?_
      refine wk_iadd X dL_law_587 ?_
      refine wk_sld X HX.1 dL_law_588 hf (fun v44 hf => ?_)
      refine wl_callVi X [.int v44] [] dL_law_589 rfl vo_L_159 rfl (by decide) (Nat.le_of_ble_eq_true rfl) ⟨by omega, by omega⟩ hf (c_X10_nights l _ _ _) (fun r45 hf => ?_)
      refine wk_aload_n X dL_law_592 2 rfl ?_
      refine wk_aload_nS X dL_law_593 0 rfl ?_
      refine wk_iload X dL_law_594 4 rfl ?_
      refine wk_iconst X dL_law_596 ic_1 ?_
      refine wk_iadd X dL_law_597 ?_
      refine wk_sld X HX.1 dL_law_598 hf (fun v46 hf => ?_)
      refine wl_callVi X [.int v46] [.int r45.1] dL_law_599 rfl vo_L_162 rfl (by decide) (Nat.le_of_ble_eq_true rfl) ⟨by omega, by omega⟩ hf (c_X11_nights l _ _ _) (fun r47 hf => ?_)
      refine wk_icmp_eq X 2799 dL_law_602 (by decide) hf (fun hf => ?_) (fun hf => ?_)
      · exact wq_sub [0, 1, 2, 3, 4] rfl (w_L_law_2799 (n := n) ⟨by omega, by omega⟩ X HX k23 hk23 _ _ _ _ _ hf)
      · refine wk_iconst X dL_law_605 ic_0 ?_
        exact nomatch hf
    refine wk_ts_in X 607 7 dL_law_40 (by decide) (by decide) (by decide) rfl (by decide) hf (fun hf => ?_) (fun n7 hf => ?_)
    · refine wk_aload_n X dL_law_607 1 rfl ?_
      refine wk_aload_nS X dL_law_608 0 rfl ?_
      refine wk_iload X dL_law_609 4 rfl ?_
      refine wk_iconst X dL_law_611 ic_1 ?_
      refine wk_iadd X dL_law_612 ?_
      refine wk_sld X HX.1 dL_law_613 hf (fun v48 hf => ?_)
      refine wk_aload_nS X dL_law_614 0 rfl ?_
      refine wk_iload X dL_law_615 4 rfl ?_
      refine wk_iconst X dL_law_617 ic_2 ?_
      refine wk_iadd X dL_law_618 ?_
      refine wk_sld X HX.1 dL_law_619 hf (fun v49 hf => ?_)
      refine wk_aload_n X dL_law_620 3 rfl ?_
      refine wl_callH X [.ref x1, .int v48, .int v49, .ref x3] [] dL_law_621 rfl so_L_163 rfl (by decide) (Nat.le_of_ble_eq_true rfl) ⟨by omega, by omega⟩ hf (ce_L_put l hl _ _ _ _ _) (c_L_put l _ _ _ _ _) (fun r50 hf => ?_)
      refine wk_istore (lv' := [(5, .int r50.1), (0, .float 97), (1, .ref x1), (2, .ref x2), (3, .ref x3), (4, .int x4)]) X dL_law_624 (by decide) rfl ?_
      refine wk_aload_n X dL_law_626 3 rfl ?_
      refine wk_aload_nS X dL_law_627 1 rfl ?_
      refine wk_iload X dL_law_628 5 rfl ?_
      refine wk_iconst X dL_law_630 ic_1 ?_
      refine wk_iadd X dL_law_631 ?_
      refine wk_sld X HX.1 dL_law_632 hf (fun v51 hf => ?_)
      refine wk_aload_nS X dL_law_633 1 rfl ?_
      refine wk_iload X dL_law_634 5 rfl ?_
      refine wk_iconst X dL_law_636 ic_2 ?_
      refine wk_iadd X dL_law_637 ?_
      refine wk_sld X HX.1 dL_law_638 hf (fun v52 hf => ?_)
      refine wl_callVi X [.int v51, .int v52] [] dL_law_639 rfl vo_L_165 rfl (by decide) (Nat.le_of_ble_eq_true rfl) ⟨by omega, by omega⟩ hf (c_X11_put l _ _ _ _) (fun r53 hf => ?_)
      refine wk_istore (lv' := [(6, .int r53.1), (5, .int r50.1), (0, .float 97), (1, .ref x1), (2, .ref x2), (3, .ref x3), (4, .int x4)]) X dL_law_642 (by decide) rfl ?_
      refine wk_aload_n X dL_law_644 4 rfl ?_
      refine wl_callVi X [] [] dL_law_645 rfl vo_L_141 rfl (by decide) (Nat.le_of_ble_eq_true rfl) ⟨by omega, by omega⟩ hf (c_X11_thrown l _ _) (fun r54 hf => ?_)
      refine wk_iload X dL_law_648 1 rfl ?_
      refine wk_icmp_eq X 655 dL_law_650 (by decide) hf (fun hf => ?_) (fun hf => ?_)
      · refine wk_iload X dL_law_655 1 rfl ?_
        refine wk_if_ne X 672 dL_law_657 (by decide) hf (fun hf => ?_) (fun hf => ?_)
        · exact wq_sub [2, 3, 4, 5, 6] rfl (w_L_law_672 (n := n) ⟨by omega, by omega⟩ X HX k23 hk23 _ _ _ _ _ hf)
        · refine wk_aload_n X dL_law_660 5 rfl ?_
          refine wk_iconst X dL_law_661 ic_0 ?_
          refine wk_lald X dL_law_662 hf (fun v55 hf => ?_)
          refine wk_iload X dL_law_663 0 rfl ?_
          refine wk_i2l X dL_law_665 ?_
          refine wk_lcmp X dL_law_666 ?_
          refine wk_if_eq X 672 dL_law_667 (by decide) hf (fun hf => ?_) (fun hf => ?_)
          · exact wq_sub [2, 3, 4, 5, 6] rfl (w_L_law_672 (n := n) ⟨by omega, by omega⟩ X HX k23 hk23 _ _ _ _ _ hf)
          · refine wk_iconst X dL_law_670 ic_0 ?_
            exact nomatch hf
      · refine wk_iconst X dL_law_653 ic_0 ?_
        exact nomatch hf
    refine wk_ts_in X 675 8 dL_law_40 (by decide) (by decide) (by decide) rfl (by decide) hf (fun hf => ?_) (fun n8 hf => ?_)
    · refine wk_aload_n X dL_law_675 1 rfl ?_
      refine wk_aload_nS X dL_law_676 0 rfl ?_
      refine wk_iload X dL_law_677 4 rfl ?_
      refine wk_iconst X dL_law_679 ic_1 ?_
      refine wk_iadd X dL_law_680 ?_
      refine wk_sld X HX.1 dL_law_681 hf (fun v56 hf => ?_)
      refine wk_aload_nS X dL_law_682 0 rfl ?_
      refine wk_iload X dL_law_683 4 rfl ?_
      refine wk_iconst X dL_law_685 ic_2 ?_
      refine wk_iadd X dL_law_686 ?_
      refine wk_sld X HX.1 dL_law_687 hf (fun v57 hf => ?_)
      refine wk_aload_n X dL_law_688 3 rfl ?_
      refine wl_callH X [.ref x1, .int v56, .int v57, .ref x3] [] dL_law_689 rfl so_L_166 rfl (by decide) (Nat.le_of_ble_eq_true rfl) ⟨by omega, by omega⟩ hf (ce_L_heel l hl _ _ _ _ _) (c_L_heel l _ _ _ _ _) (fun r58 hf => ?_)
      refine wk_istore (lv' := [(5, .int r58.1), (0, .float 97), (1, .ref x1), (2, .ref x2), (3, .ref x3), (4, .int x4)]) X dL_law_692 (by decide) rfl ?_
      refine wk_aload_n X dL_law_694 3 rfl ?_
      refine wk_aload_nS X dL_law_695 1 rfl ?_
      refine wk_iload X dL_law_696 5 rfl ?_
      refine wk_iconst X dL_law_698 ic_1 ?_
      refine wk_iadd X dL_law_699 ?_
      refine wk_sld X HX.1 dL_law_700 hf (fun v59 hf => ?_)
      refine wk_aload_nS X dL_law_701 1 rfl ?_
      refine wk_iload X dL_law_702 5 rfl ?_
      refine wk_iconst X dL_law_704 ic_2 ?_
      refine wk_iadd X dL_law_705 ?_
      refine wk_sld X HX.1 dL_law_706 hf (fun v60 hf => ?_)
      refine wl_callVi X [.int v59, .int v60] [] dL_law_707 rfl vo_L_168 rfl (by decide) (Nat.le_of_ble_eq_true rfl) ⟨by omega, by omega⟩ hf (c_X11_heel l _ _ _ _) (fun r61 hf => ?_)
      refine wk_istore (lv' := [(6, .int r61.1), (5, .int r58.1), (0, .float 97), (1, .ref x1), (2, .ref x2), (3, .ref x3), (4, .int x4)]) X dL_law_710 (by decide) rfl ?_
      refine wk_aload_n X dL_law_712 4 rfl ?_
      refine wl_callVi X [] [] dL_law_713 rfl vo_L_141 rfl (by decide) (Nat.le_of_ble_eq_true rfl) ⟨by omega, by omega⟩ hf (c_X11_thrown l _ _) (fun r62 hf => ?_)
      refine wk_iload X dL_law_716 1 rfl ?_
      refine wk_icmp_eq X 723 dL_law_718 (by decide) hf (fun hf => ?_) (fun hf => ?_)
      · refine wk_iload X dL_law_723 1 rfl ?_
        refine wk_if_ne X 740 dL_law_725 (by decide) hf (fun hf => ?_) (fun hf => ?_)
        · exact wq_sub [2, 3, 4, 5, 6] rfl (w_L_law_740 (n := n) ⟨by omega, by omega⟩ X HX k23 hk23 _ _ _ _ _ hf)
        · refine wk_aload_n X dL_law_728 5 rfl ?_
          refine wk_iconst X dL_law_729 ic_0 ?_
          refine wk_lald X dL_law_730 hf (fun v63 hf => ?_)
          refine wk_iload X dL_law_731 0 rfl ?_
          refine wk_i2l X dL_law_733 ?_
          refine wk_lcmp X dL_law_734 ?_
          refine wk_if_eq X 740 dL_law_735 (by decide) hf (fun hf => ?_) (fun hf => ?_)
          · exact wq_sub [2, 3, 4, 5, 6] rfl (w_L_law_740 (n := n) ⟨by omega, by omega⟩ X HX k23 hk23 _ _ _ _ _ hf)
          · refine wk_iconst X dL_law_738 ic_0 ?_
            exact nomatch hf
      · refine wk_iconst X dL_law_721 ic_0 ?_
        exact nomatch hf
    refine wk_ts_in X 743 9 dL_law_40 (by decide) (by decide) (by decide) rfl (by decide) hf (fun hf => ?_) (fun n9 hf => ?_)
    · refine wk_aload_n X dL_law_743 1 rfl ?_
      refine wk_aload_nS X dL_law_744 0 rfl ?_
      refine wk_iload X dL_law_745 4 rfl ?_
      refine wk_iconst X dL_law_747 ic_1 ?_
      refine wk_iadd X dL_law_748 ?_
      refine wk_sld X HX.1 dL_law_749 hf (fun v64 hf => ?_)
      refine wk_aload_nS X dL_law_750 0 rfl ?_
      refine wk_iload X dL_law_751 4 rfl ?_
      refine wk_iconst X dL_law_753 ic_2 ?_
      refine wk_iadd X dL_law_754 ?_
      refine wk_sld X HX.1 dL_law_755 hf (fun v65 hf => ?_)
      refine wk_aload_n X dL_law_756 3 rfl ?_
      refine wl_callH X [.ref x1, .int v64, .int v65, .ref x3] [] dL_law_757 rfl so_L_169 rfl (by decide) (Nat.le_of_ble_eq_true rfl) ⟨by omega, by omega⟩ hf (ce_L_loud l hl _ _ _ _ _) (c_L_loud l _ _ _ _ _) (fun r66 hf => ?_)
      refine wk_istore (lv' := [(5, .int r66.1), (0, .float 97), (1, .ref x1), (2, .ref x2), (3, .ref x3), (4, .int x4)]) X dL_law_760 (by decide) rfl ?_
      refine wk_aload_n X dL_law_762 3 rfl ?_
      refine wk_aload_nS X dL_law_763 1 rfl ?_
      refine wk_iload X dL_law_764 5 rfl ?_
      refine wk_iconst X dL_law_766 ic_1 ?_
      refine wk_iadd X dL_law_767 ?_
      refine wk_sld X HX.1 dL_law_768 hf (fun v67 hf => ?_)
      refine wk_aload_nS X dL_law_769 1 rfl ?_
      refine wk_iload X dL_law_770 5 rfl ?_
      refine wk_iconst X dL_law_772 ic_2 ?_
      refine wk_iadd X dL_law_773 ?_
      refine wk_sld X HX.1 dL_law_774 hf (fun v68 hf => ?_)
      refine wl_callVi X [.int v67, .int v68] [] dL_law_775 rfl vo_L_171 rfl (by decide) (Nat.le_of_ble_eq_true rfl) ⟨by omega, by omega⟩ hf (c_X11_loud l _ _ _ _) (fun r69 hf => ?_)
      refine wk_istore (lv' := [(6, .int r69.1), (5, .int r66.1), (0, .float 97), (1, .ref x1), (2, .ref x2), (3, .ref x3), (4, .int x4)]) X dL_law_778 (by decide) rfl ?_
      refine wk_aload_n X dL_law_780 4 rfl ?_
      refine wl_callVi X [] [] dL_law_781 rfl vo_L_141 rfl (by decide) (Nat.le_of_ble_eq_true rfl) ⟨by omega, by omega⟩ hf (c_X11_thrown l _ _) (fun r70 hf => ?_)
      refine wk_iload X dL_law_784 1 rfl ?_
      refine wk_icmp_eq X 791 dL_law_786 (by decide) hf (fun hf => ?_) (fun hf => ?_)
      · refine wk_iload X dL_law_791 1 rfl ?_
        refine wk_if_ne X 808 dL_law_793 (by decide) hf (fun hf => ?_) (fun hf => ?_)
        · exact wq_sub [2, 3, 4, 5, 6] rfl (w_L_law_808 (n := n) ⟨by omega, by omega⟩ X HX k23 hk23 _ _ _ _ _ hf)
        · refine wk_aload_n X dL_law_796 5 rfl ?_
          refine wk_iconst X dL_law_797 ic_0 ?_
          refine wk_lald X dL_law_798 hf (fun v71 hf => ?_)
          refine wk_iload X dL_law_799 0 rfl ?_
          refine wk_i2l X dL_law_801 ?_
          refine wk_lcmp X dL_law_802 ?_
          refine wk_if_eq X 808 dL_law_803 (by decide) hf (fun hf => ?_) (fun hf => ?_)
          · exact wq_sub [2, 3, 4, 5, 6] rfl (w_L_law_808 (n := n) ⟨by omega, by omega⟩ X HX k23 hk23 _ _ _ _ _ hf)
          · refine wk_iconst X dL_law_806 ic_0 ?_
            exact nomatch hf
      · refine wk_iconst X dL_law_789 ic_0 ?_
        exact nomatch hf
    refine wk_ts_in X 811 10 dL_law_40 (by decide) (by decide) (by decide) rfl (by decide) hf (fun hf => ?_) (fun n10 hf => ?_)
    · refine wk_aload_n X dL_law_811 1 rfl ?_
      refine wk_aload_nS X dL_law_812 0 rfl ?_
      refine wk_iload X dL_law_813 4 rfl ?_
      refine wk_iconst X dL_law_815 ic_1 ?_
      refine wk_iadd X dL_law_816 ?_
      refine wk_sld X HX.1 dL_law_817 hf (fun v72 hf => ?_)
      refine wk_aload_nS X dL_law_818 0 rfl ?_
      refine wk_iload X dL_law_819 4 rfl ?_
      refine wk_iconst X dL_law_821 ic_2 ?_
      refine wk_iadd X dL_law_822 ?_
      refine wk_sld X HX.1 dL_law_823 hf (fun v73 hf => ?_)
      refine wk_aload_n X dL_law_824 3 rfl ?_
      refine wl_callH X [.ref x1, .int v72, .int v73, .ref x3] [] dL_law_825 rfl so_L_172 rfl (by decide) (Nat.le_of_ble_eq_true rfl) ⟨by omega, by omega⟩ hf (ce_L_change l hl _ _ _ _ _) (c_L_change l _ _ _ _ _) (fun r74 hf => ?_)
      refine wk_istore (lv' := [(5, .int r74.1), (0, .float 97), (1, .ref x1), (2, .ref x2), (3, .ref x3), (4, .int x4)]) X dL_law_828 (by decide) rfl ?_
      refine wk_aload_n X dL_law_830 3 rfl ?_
      refine wk_aload_nS X dL_law_831 1 rfl ?_
      refine wk_iload X dL_law_832 5 rfl ?_
      refine wk_iconst X dL_law_834 ic_1 ?_
      refine wk_iadd X dL_law_835 ?_
      refine wk_sld X HX.1 dL_law_836 hf (fun v75 hf => ?_)
      refine wk_aload_nS X dL_law_837 1 rfl ?_
      refine wk_iload X dL_law_838 5 rfl ?_
      refine wk_iconst X dL_law_840 ic_2 ?_
      refine wk_iadd X dL_law_841 ?_
      refine wk_sld X HX.1 dL_law_842 hf (fun v76 hf => ?_)
      refine wl_callVi X [.int v75, .int v76] [] dL_law_843 rfl vo_L_174 rfl (by decide) (Nat.le_of_ble_eq_true rfl) ⟨by omega, by omega⟩ hf (c_X11_change l _ _ _ _) (fun r77 hf => ?_)
      refine wk_istore (lv' := [(6, .int r77.1), (5, .int r74.1), (0, .float 97), (1, .ref x1), (2, .ref x2), (3, .ref x3), (4, .int x4)]) X dL_law_846 (by decide) rfl ?_
      refine wk_aload_n X dL_law_848 4 rfl ?_
      refine wl_callVi X [] [] dL_law_849 rfl vo_L_141 rfl (by decide) (Nat.le_of_ble_eq_true rfl) ⟨by omega, by omega⟩ hf (c_X11_thrown l _ _) (fun r78 hf => ?_)
      refine wk_iload X dL_law_852 1 rfl ?_
      refine wk_icmp_eq X 859 dL_law_854 (by decide) hf (fun hf => ?_) (fun hf => ?_)
      · refine wk_iload X dL_law_859 1 rfl ?_
        refine wk_if_ne X 883 dL_law_861 (by decide) hf (fun hf => ?_) (fun hf => ?_)
        · exact wq_sub [2, 3, 4, 5, 6] rfl (w_L_law_883 (n := n) ⟨by omega, by omega⟩ X HX k23 hk23 _ _ _ _ _ hf)
        · refine wk_aload_n X dL_law_864 5 rfl ?_
          refine wk_iconst X dL_law_865 ic_0 ?_
          refine wk_lald X dL_law_866 hf (fun v79 hf => ?_)
          refine wk_iload X dL_law_867 0 rfl ?_
          refine wk_if_eq X 876 dL_law_869 (by decide) hf (fun hf => ?_) (fun hf => ?_)
          · refine wk_lconst (v := 0) X dL_law_876 rfl ?_
            exact wq_sub [2, 3, 4, 5, 6] rfl (w_L_law_877 (n := n) ⟨by omega, by omega⟩ X HX k23 hk23 _ _ _ _ _ _ _ hf)
          · refine wk_lconst (v := 1) X dL_law_872 rfl ?_
            refine wk_goto X 877 dL_law_873 (by decide) ?_
            exact wq_sub [2, 3, 4, 5, 6] rfl (w_L_law_877 (n := n) ⟨by omega, by omega⟩ X HX k23 hk23 _ _ _ _ _ _ _ hf)
      · refine wk_iconst X dL_law_857 ic_0 ?_
        exact nomatch hf
    refine wk_ts_in X 886 11 dL_law_40 (by decide) (by decide) (by decide) rfl (by decide) hf (fun hf => ?_) (fun n11 hf => ?_)
    · refine wk_aload_n X dL_law_886 1 rfl ?_
      refine wl_callVi X [] [] dL_law_887 rfl vo_L_175 rfl (by decide) (Nat.le_of_ble_eq_true rfl) ⟨by omega, by omega⟩ hf (c_X10_undo l _ _) (fun r80 hf => ?_)
      refine wk_aload_n X dL_law_890 2 rfl ?_
      refine wl_callVi X [] [.int r80.1] dL_law_891 rfl vo_L_178 rfl (by decide) (Nat.le_of_ble_eq_true rfl) ⟨by omega, by omega⟩ hf (c_X11_undo l _ _) (fun r81 hf => ?_)
      refine wk_icmp_eq X 2799 dL_law_894 (by decide) hf (fun hf => ?_) (fun hf => ?_)
      · exact wq_sub [0, 1, 2, 3, 4] rfl (w_L_law_2799 (n := n) ⟨by omega, by omega⟩ X HX k23 hk23 _ _ _ _ _ hf)
      · refine wk_iconst X dL_law_897 ic_0 ?_
        exact nomatch hf
    refine wk_ts_in X 899 12 dL_law_40 (by decide) (by decide) (by decide) rfl (by decide) hf (fun hf => ?_) (fun n12 hf => ?_)
    · refine wk_aload_n X dL_law_899 1 rfl ?_
      refine wk_aload_nS X dL_law_900 0 rfl ?_
      refine wk_iload X dL_law_901 4 rfl ?_
      refine wk_iconst X dL_law_903 ic_1 ?_
      refine wk_iadd X dL_law_904 ?_
      refine wk_sld X HX.1 dL_law_905 hf (fun v82 hf => ?_)
      refine wk_aload_nS X dL_law_906 0 rfl ?_
      refine wk_iload X dL_law_907 4 rfl ?_
      refine wk_iconst X dL_law_909 ic_2 ?_
      refine wk_iadd X dL_law_910 ?_
      refine wk_sld X HX.1 dL_law_911 hf (fun v83 hf => ?_)
      refine wk_aload_nS X dL_law_912 0 rfl ?_
      refine wk_iload X dL_law_913 4 rfl ?_
      refine wk_iconst X dL_law_915 ic_3 ?_
      refine wk_iadd X dL_law_916 ?_
      refine wk_sld X HX.1 dL_law_917 hf (fun v84 hf => ?_)
      refine wk_aload_n X dL_law_918 3 rfl ?_
      refine wl_callH X [.ref x1, .int v82, .int v83, .int v84, .ref x3] [] dL_law_919 rfl so_L_179 rfl (by decide) (Nat.le_of_ble_eq_true rfl) ⟨by omega, by omega⟩ hf (ce_L_then l hl _ _ _ _ _ _) (c_L_then l _ _ _ _ _ _) (fun r85 hf => ?_)
      refine wk_istore (lv' := [(5, .int r85.1), (0, .float 97), (1, .ref x1), (2, .ref x2), (3, .ref x3), (4, .int x4)]) X dL_law_922 (by decide) rfl ?_
      refine wk_aload_n X dL_law_924 3 rfl ?_
      refine wk_aload_nS X dL_law_925 1 rfl ?_
      refine wk_iload X dL_law_926 5 rfl ?_
      refine wk_iconst X dL_law_928 ic_1 ?_
      refine wk_iadd X dL_law_929 ?_
      refine wk_sld X HX.1 dL_law_930 hf (fun v86 hf => ?_)
      refine wk_aload_nS X dL_law_931 1 rfl ?_
      refine wk_iload X dL_law_932 5 rfl ?_
      refine wk_iconst X dL_law_934 ic_2 ?_
      refine wk_iadd X dL_law_935 ?_
      refine wk_sld X HX.1 dL_law_936 hf (fun v87 hf => ?_)
      refine wk_aload_nS X dL_law_937 1 rfl ?_
      refine wk_iload X dL_law_938 5 rfl ?_
      refine wk_iconst X dL_law_940 ic_3 ?_
      refine wk_iadd X dL_law_941 ?_
      refine wk_sld X HX.1 dL_law_942 hf (fun v88 hf => ?_)
      refine wl_callVi X [.int v86, .int v87, .int v88] [] dL_law_943 rfl vo_L_182 rfl (by decide) (Nat.le_of_ble_eq_true rfl) ⟨by omega, by omega⟩ hf (c_X11_then l _ _ _ _ _) (fun r89 hf => ?_)
      refine wk_istore (lv' := [(6, .int r89.1), (5, .int r85.1), (0, .float 97), (1, .ref x1), (2, .ref x2), (3, .ref x3), (4, .int x4)]) X dL_law_946 (by decide) rfl ?_
      refine wk_aload_n X dL_law_948 4 rfl ?_
      refine wl_callVi X [] [] dL_law_949 rfl vo_L_141 rfl (by decide) (Nat.le_of_ble_eq_true rfl) ⟨by omega, by omega⟩ hf (c_X11_thrown l _ _) (fun r90 hf => ?_)
      refine wk_iload X dL_law_952 1 rfl ?_
      refine wk_icmp_eq X 959 dL_law_954 (by decide) hf (fun hf => ?_) (fun hf => ?_)
      · refine wk_iload X dL_law_959 1 rfl ?_
        refine wk_if_ne X 976 dL_law_961 (by decide) hf (fun hf => ?_) (fun hf => ?_)
        · exact wq_sub [2, 3, 4, 5, 6] rfl (w_L_law_976 (n := n) ⟨by omega, by omega⟩ X HX k23 hk23 _ _ _ _ _ hf)
        · refine wk_aload_n X dL_law_964 5 rfl ?_
          refine wk_iconst X dL_law_965 ic_0 ?_
          refine wk_lald X dL_law_966 hf (fun v91 hf => ?_)
          refine wk_iload X dL_law_967 0 rfl ?_
          refine wk_i2l X dL_law_969 ?_
          refine wk_lcmp X dL_law_970 ?_
          refine wk_if_eq X 976 dL_law_971 (by decide) hf (fun hf => ?_) (fun hf => ?_)
          · exact wq_sub [2, 3, 4, 5, 6] rfl (w_L_law_976 (n := n) ⟨by omega, by omega⟩ X HX k23 hk23 _ _ _ _ _ hf)
          · refine wk_iconst X dL_law_974 ic_0 ?_
            exact nomatch hf
      · refine wk_iconst X dL_law_957 ic_0 ?_
        exact nomatch hf
    refine wk_ts_in X 979 13 dL_law_40 (by decide) (by decide) (by decide) rfl (by decide) hf (fun hf => ?_) (fun n13 hf => ?_)
    · refine wk_aload_n X dL_law_979 1 rfl ?_
      refine wk_aload_nS X dL_law_980 0 rfl ?_
      refine wk_iload X dL_law_981 4 rfl ?_
      refine wk_iconst X dL_law_983 ic_1 ?_
      refine wk_iadd X dL_law_984 ?_
      refine wk_sld X HX.1 dL_law_985 hf (fun v92 hf => ?_)
      refine wk_aload_nS X dL_law_986 0 rfl ?_
      refine wk_iload X dL_law_987 4 rfl ?_
      refine wk_iconst X dL_law_989 ic_2 ?_
      refine wk_iadd X dL_law_990 ?_
      refine wk_sld X HX.1 dL_law_991 hf (fun v93 hf => ?_)
      refine wk_aload_n X dL_law_992 3 rfl ?_
      refine wl_callH X [.ref x1, .int v92, .int v93, .ref x3] [] dL_law_993 rfl so_L_183 rfl (by decide) (Nat.le_of_ble_eq_true rfl) ⟨by omega, by omega⟩ hf (ce_L_honour l hl _ _ _ _ _) (c_L_honour l _ _ _ _ _) (fun r94 hf => ?_)
      refine wk_istore (lv' := [(5, .int r94.1), (0, .float 97), (1, .ref x1), (2, .ref x2), (3, .ref x3), (4, .int x4)]) X dL_law_996 (by decide) rfl ?_
      refine wk_aload_n X dL_law_998 3 rfl ?_
      refine wk_aload_nS X dL_law_999 1 rfl ?_
      refine wk_iload X dL_law_1000 5 rfl ?_
      refine wk_iconst X dL_law_1002 ic_1 ?_
      refine wk_iadd X dL_law_1003 ?_
      refine wk_sld X HX.1 dL_law_1004 hf (fun v95 hf => ?_)
      refine wk_aload_nS X dL_law_1005 1 rfl ?_
      refine wk_iload X dL_law_1006 5 rfl ?_
      refine wk_iconst X dL_law_1008 ic_2 ?_
      refine wk_iadd X dL_law_1009 ?_
      refine wk_sld X HX.1 dL_law_1010 hf (fun v96 hf => ?_)
      refine wl_callVi X [.int v95, .int v96] [] dL_law_1011 rfl vo_L_185 rfl (by decide) (Nat.le_of_ble_eq_true rfl) ⟨by omega, by omega⟩ hf (c_X11_honour l _ _ _ _) (fun r97 hf => ?_)
      refine wk_istore (lv' := [(6, .int r97.1), (5, .int r94.1), (0, .float 97), (1, .ref x1), (2, .ref x2), (3, .ref x3), (4, .int x4)]) X dL_law_1014 (by decide) rfl ?_
      refine wk_aload_n X dL_law_1016 4 rfl ?_
      refine wl_callVi X [] [] dL_law_1017 rfl vo_L_141 rfl (by decide) (Nat.le_of_ble_eq_true rfl) ⟨by omega, by omega⟩ hf (c_X11_thrown l _ _) (fun r98 hf => ?_)
      refine wk_iload X dL_law_1020 1 rfl ?_
      refine wk_icmp_eq X 1027 dL_law_1022 (by decide) hf (fun hf => ?_) (fun hf => ?_)
      · refine wk_iload X dL_law_1027 1 rfl ?_
        refine wk_if_ne X 1044 dL_law_1029 (by decide) hf (fun hf => ?_) (fun hf => ?_)
        · exact wq_sub [2, 3, 4, 5, 6] rfl (w_L_law_1044 (n := n) ⟨by omega, by omega⟩ X HX k23 hk23 _ _ _ _ _ hf)
        · refine wk_aload_n X dL_law_1032 5 rfl ?_
          refine wk_iconst X dL_law_1033 ic_0 ?_
          refine wk_lald X dL_law_1034 hf (fun v99 hf => ?_)
          refine wk_iload X dL_law_1035 0 rfl ?_
          refine wk_i2l X dL_law_1037 ?_
          refine wk_lcmp X dL_law_1038 ?_
          refine wk_if_eq X 1044 dL_law_1039 (by decide) hf (fun hf => ?_) (fun hf => ?_)
          · exact wq_sub [2, 3, 4, 5, 6] rfl (w_L_law_1044 (n := n) ⟨by omega, by omega⟩ X HX k23 hk23 _ _ _ _ _ hf)
          · refine wk_iconst X dL_law_1042 ic_0 ?_
            exact nomatch hf
      · refine wk_iconst X dL_law_1025 ic_0 ?_
        exact nomatch hf
    refine wk_ts_in X 1047 14 dL_law_40 (by decide) (by decide) (by decide) rfl (by decide) hf (fun hf => ?_) (fun n14 hf => ?_)
    · refine wk_aload_n X dL_law_1047 1 rfl ?_
      refine wk_aload_nS X dL_law_1048 0 rfl ?_
      refine wk_iload X dL_law_1049 4 rfl ?_
      refine wk_iconst X dL_law_1051 ic_1 ?_
      refine wk_iadd X dL_law_1052 ?_
      refine wk_sld X HX.1 dL_law_1053 hf (fun v100 hf => ?_)
      refine wk_aload_n X dL_law_1054 3 rfl ?_
      refine wl_callH X [.ref x1, .int v100, .ref x3] [] dL_law_1055 rfl so_L_186 rfl (by decide) (Nat.le_of_ble_eq_true rfl) ⟨by omega, by omega⟩ hf (ce_L_first l hl _ _ _ _) (c_L_first l _ _ _ _) (fun r101 hf => ?_)
      refine wk_istore (lv' := [(5, .int r101.1), (0, .float 97), (1, .ref x1), (2, .ref x2), (3, .ref x3), (4, .int x4)]) X dL_law_1058 (by decide) rfl ?_
      refine wk_aload_n X dL_law_1060 3 rfl ?_
      refine wk_aload_nS X dL_law_1061 1 rfl ?_
      refine wk_iload X dL_law_1062 5 rfl ?_
      refine wk_iconst X dL_law_1064 ic_1 ?_
      refine wk_iadd X dL_law_1065 ?_
      refine wk_sld X HX.1 dL_law_1066 hf (fun v102 hf => ?_)
      refine wl_callVi X [.int v102] [] dL_law_1067 rfl vo_L_188 rfl (by decide) (Nat.le_of_ble_eq_true rfl) ⟨by omega, by omega⟩ hf (c_X11_first l _ _ _) (fun r103 hf => ?_)
      refine wk_istore (lv' := [(6, .int r103.1), (5, .int r101.1), (0, .float 97), (1, .ref x1), (2, .ref x2), (3, .ref x3), (4, .int x4)]) X dL_law_1070 (by decide) rfl ?_
      refine wk_aload_n X dL_law_1072 4 rfl ?_
      refine wl_callVi X [] [] dL_law_1073 rfl vo_L_141 rfl (by decide) (Nat.le_of_ble_eq_true rfl) ⟨by omega, by omega⟩ hf (c_X11_thrown l _ _) (fun r104 hf => ?_)
      refine wk_iload X dL_law_1076 1 rfl ?_
      refine wk_icmp_eq X 1083 dL_law_1078 (by decide) hf (fun hf => ?_) (fun hf => ?_)
      · refine wk_iload X dL_law_1083 1 rfl ?_
        refine wk_if_ne X 1100 dL_law_1085 (by decide) hf (fun hf => ?_) (fun hf => ?_)
        · exact wq_sub [2, 3, 4, 5, 6] rfl (w_L_law_1100 (n := n) ⟨by omega, by omega⟩ X HX k23 hk23 _ _ _ _ _ hf)
        · refine wk_aload_n X dL_law_1088 5 rfl ?_
          refine wk_iconst X dL_law_1089 ic_0 ?_
          refine wk_lald X dL_law_1090 hf (fun v105 hf => ?_)
          refine wk_iload X dL_law_1091 0 rfl ?_
          refine wk_i2l X dL_law_1093 ?_
          refine wk_lcmp X dL_law_1094 ?_
          refine wk_if_eq X 1100 dL_law_1095 (by decide) hf (fun hf => ?_) (fun hf => ?_)
          · exact wq_sub [2, 3, 4, 5, 6] rfl (w_L_law_1100 (n := n) ⟨by omega, by omega⟩ X HX k23 hk23 _ _ _ _ _ hf)
          · refine wk_iconst X dL_law_1098 ic_0 ?_
            exact nomatch hf
      · refine wk_iconst X dL_law_1081 ic_0 ?_
        exact nomatch hf
    refine wk_ts_in X 1103 15 dL_law_40 (by decide) (by decide) (by decide) rfl (by decide) hf (fun hf => ?_) (fun n15 hf => ?_)
    · refine wk_aload_n X dL_law_1103 1 rfl ?_
      refine wk_aload_nS X dL_law_1104 0 rfl ?_
      refine wk_iload X dL_law_1105 4 rfl ?_
      refine wk_iconst X dL_law_1107 ic_1 ?_
      refine wk_iadd X dL_law_1108 ?_
      refine wk_sld X HX.1 dL_law_1109 hf (fun v106 hf => ?_)
      refine wk_aload_n X dL_law_1110 3 rfl ?_
      refine wl_callH X [.ref x1, .int v106, .ref x3] [] dL_law_1111 rfl so_L_189 rfl (by decide) (Nat.le_of_ble_eq_true rfl) ⟨by omega, by omega⟩ hf (ce_L_mistaken l hl _ _ _ _) (c_L_mistaken l _ _ _ _) (fun r107 hf => ?_)
      refine wk_istore (lv' := [(5, .int r107.1), (0, .float 97), (1, .ref x1), (2, .ref x2), (3, .ref x3), (4, .int x4)]) X dL_law_1114 (by decide) rfl ?_
      refine wk_aload_n X dL_law_1116 3 rfl ?_
      refine wk_aload_nS X dL_law_1117 1 rfl ?_
      refine wk_iload X dL_law_1118 5 rfl ?_
      refine wk_iconst X dL_law_1120 ic_1 ?_
      refine wk_iadd X dL_law_1121 ?_
      refine wk_sld X HX.1 dL_law_1122 hf (fun v108 hf => ?_)
      refine wl_callVi X [.int v108] [] dL_law_1123 rfl vo_L_191 rfl (by decide) (Nat.le_of_ble_eq_true rfl) ⟨by omega, by omega⟩ hf (c_X11_mistaken l _ _ _) (fun r109 hf => ?_)
      refine wk_istore (lv' := [(6, .int r109.1), (5, .int r107.1), (0, .float 97), (1, .ref x1), (2, .ref x2), (3, .ref x3), (4, .int x4)]) X dL_law_1126 (by decide) rfl ?_
      refine wk_aload_n X dL_law_1128 4 rfl ?_
      refine wl_callVi X [] [] dL_law_1129 rfl vo_L_141 rfl (by decide) (Nat.le_of_ble_eq_true rfl) ⟨by omega, by omega⟩ hf (c_X11_thrown l _ _) (fun r110 hf => ?_)
      refine wk_iload X dL_law_1132 1 rfl ?_
      refine wk_icmp_eq X 1139 dL_law_1134 (by decide) hf (fun hf => ?_) (fun hf => ?_)
      · refine wk_iload X dL_law_1139 1 rfl ?_
        refine wk_if_ne X 1156 dL_law_1141 (by decide) hf (fun hf => ?_) (fun hf => ?_)
        · exact wq_sub [2, 3, 4, 5, 6] rfl (w_L_law_1156 (n := n) ⟨by omega, by omega⟩ X HX k23 hk23 _ _ _ _ _ hf)
        · refine wk_aload_n X dL_law_1144 5 rfl ?_
          refine wk_iconst X dL_law_1145 ic_0 ?_
          refine wk_lald X dL_law_1146 hf (fun v111 hf => ?_)
          refine wk_iload X dL_law_1147 0 rfl ?_
          refine wk_i2l X dL_law_1149 ?_
          refine wk_lcmp X dL_law_1150 ?_
          refine wk_if_eq X 1156 dL_law_1151 (by decide) hf (fun hf => ?_) (fun hf => ?_)
          · exact wq_sub [2, 3, 4, 5, 6] rfl (w_L_law_1156 (n := n) ⟨by omega, by omega⟩ X HX k23 hk23 _ _ _ _ _ hf)
          · refine wk_iconst X dL_law_1154 ic_0 ?_
            exact nomatch hf
      · refine wk_iconst X dL_law_1137 ic_0 ?_
        exact nomatch hf
    refine wk_ts_in X 1159 16 dL_law_40 (by decide) (by decide) (by decide) rfl (by decide) hf (fun hf => ?_) (fun n16 hf => ?_)
    · refine wk_aload_n X dL_law_1159 1 rfl ?_
      refine wk_aload_nS X dL_law_1160 0 rfl ?_
      refine wk_iload X dL_law_1161 4 rfl ?_
      refine wk_iconst X dL_law_1163 ic_1 ?_
      refine wk_iadd X dL_law_1164 ?_
      refine wk_sld X HX.1 dL_law_1165 hf (fun v112 hf => ?_)
      refine wk_aload_n X dL_law_1166 3 rfl ?_
      refine wl_callH X [.ref x1, .int v112, .ref x3] [] dL_law_1167 rfl so_L_192 rfl (by decide) (Nat.le_of_ble_eq_true rfl) ⟨by omega, by omega⟩ hf (ce_L_unsung l hl _ _ _ _) (c_L_unsung l _ _ _ _) (fun r113 hf => ?_)
      refine wk_istore (lv' := [(5, .int r113.1), (0, .float 97), (1, .ref x1), (2, .ref x2), (3, .ref x3), (4, .int x4)]) X dL_law_1170 (by decide) rfl ?_
      refine wk_aload_n X dL_law_1172 3 rfl ?_
      refine wk_aload_nS X dL_law_1173 1 rfl ?_
      refine wk_iload X dL_law_1174 5 rfl ?_
      refine wk_iconst X dL_law_1176 ic_1 ?_
      refine wk_iadd X dL_law_1177 ?_
      refine wk_sld X HX.1 dL_law_1178 hf (fun v114 hf => ?_)
      refine wl_callVi X [.int v114] [] dL_law_1179 rfl vo_L_194 rfl (by decide) (Nat.le_of_ble_eq_true rfl) ⟨by omega, by omega⟩ hf (c_X11_unsung l _ _ _) (fun r115 hf => ?_)
      refine wk_istore (lv' := [(6, .int r115.1), (5, .int r113.1), (0, .float 97), (1, .ref x1), (2, .ref x2), (3, .ref x3), (4, .int x4)]) X dL_law_1182 (by decide) rfl ?_
      refine wk_aload_n X dL_law_1184 4 rfl ?_
      refine wl_callVi X [] [] dL_law_1185 rfl vo_L_141 rfl (by decide) (Nat.le_of_ble_eq_true rfl) ⟨by omega, by omega⟩ hf (c_X11_thrown l _ _) (fun r116 hf => ?_)
      refine wk_iload X dL_law_1188 1 rfl ?_
      refine wk_icmp_eq X 1195 dL_law_1190 (by decide) hf (fun hf => ?_) (fun hf => ?_)
      · refine wk_iload X dL_law_1195 1 rfl ?_
        refine wk_if_ne X 1212 dL_law_1197 (by decide) hf (fun hf => ?_) (fun hf => ?_)
        · exact wq_sub [2, 3, 4, 5, 6] rfl (w_L_law_1212 (n := n) ⟨by omega, by omega⟩ X HX k23 hk23 _ _ _ _ _ hf)
        · refine wk_aload_n X dL_law_1200 5 rfl ?_
          refine wk_iconst X dL_law_1201 ic_0 ?_
          refine wk_lald X dL_law_1202 hf (fun v117 hf => ?_)
          refine wk_iload X dL_law_1203 0 rfl ?_
          refine wk_i2l X dL_law_1205 ?_
          refine wk_lcmp X dL_law_1206 ?_
          refine wk_if_eq X 1212 dL_law_1207 (by decide) hf (fun hf => ?_) (fun hf => ?_)
          · exact wq_sub [2, 3, 4, 5, 6] rfl (w_L_law_1212 (n := n) ⟨by omega, by omega⟩ X HX k23 hk23 _ _ _ _ _ hf)
          · refine wk_iconst X dL_law_1210 ic_0 ?_
            exact nomatch hf
      · refine wk_iconst X dL_law_1193 ic_0 ?_
        exact nomatch hf
    refine wk_ts_in X 1215 17 dL_law_40 (by decide) (by decide) (by decide) rfl (by decide) hf (fun hf => ?_) (fun n17 hf => ?_)
    · refine wk_aload_n X dL_law_1215 1 rfl ?_
      refine wk_aload_nS X dL_law_1216 0 rfl ?_
      refine wk_iload X dL_law_1217 4 rfl ?_
      refine wk_iconst X dL_law_1219 ic_1 ?_
      refine wk_iadd X dL_law_1220 ?_
      refine wk_sld X HX.1 dL_law_1221 hf (fun v118 hf => ?_)
      refine wk_aload_nS X dL_law_1222 0 rfl ?_
      refine wk_iload X dL_law_1223 4 rfl ?_
      refine wk_iconst X dL_law_1225 ic_2 ?_
      refine wk_iadd X dL_law_1226 ?_
      refine wk_sld X HX.1 dL_law_1227 hf (fun v119 hf => ?_)
      refine wk_aload_n X dL_law_1228 3 rfl ?_
      refine wl_callH X [.ref x1, .int v118, .int v119, .ref x3] [] dL_law_1229 rfl so_L_195 rfl (by decide) (Nat.le_of_ble_eq_true rfl) ⟨by omega, by omega⟩ hf (ce_L_far l hl _ _ _ _ _) (c_L_far l _ _ _ _ _) (fun r120 hf => ?_)
      refine wk_istore (lv' := [(5, .int r120.1), (0, .float 97), (1, .ref x1), (2, .ref x2), (3, .ref x3), (4, .int x4)]) X dL_law_1232 (by decide) rfl ?_
      refine wk_aload_n X dL_law_1234 3 rfl ?_
      refine wk_aload_nS X dL_law_1235 1 rfl ?_
      refine wk_iload X dL_law_1236 5 rfl ?_
      refine wk_iconst X dL_law_1238 ic_1 ?_
      refine wk_iadd X dL_law_1239 ?_
      refine wk_sld X HX.1 dL_law_1240 hf (fun v121 hf => ?_)
      refine wk_aload_nS X dL_law_1241 1 rfl ?_
      refine wk_iload X dL_law_1242 5 rfl ?_
      refine wk_iconst X dL_law_1244 ic_2 ?_
      refine wk_iadd X dL_law_1245 ?_
      refine wk_sld X HX.1 dL_law_1246 hf (fun v122 hf => ?_)
      refine wl_callVi X [.int v121, .int v122] [] dL_law_1247 rfl vo_L_197 rfl (by decide) (Nat.le_of_ble_eq_true rfl) ⟨by omega, by omega⟩ hf (c_X11_far l _ _ _ _) (fun r123 hf => ?_)
      refine wk_istore (lv' := [(6, .int r123.1), (5, .int r120.1), (0, .float 97), (1, .ref x1), (2, .ref x2), (3, .ref x3), (4, .int x4)]) X dL_law_1250 (by decide) rfl ?_
      refine wk_aload_n X dL_law_1252 4 rfl ?_
      refine wl_callVi X [] [] dL_law_1253 rfl vo_L_141 rfl (by decide) (Nat.le_of_ble_eq_true rfl) ⟨by omega, by omega⟩ hf (c_X11_thrown l _ _) (fun r124 hf => ?_)
      refine wk_iload X dL_law_1256 1 rfl ?_
      refine wk_icmp_eq X 1263 dL_law_1258 (by decide) hf (fun hf => ?_) (fun hf => ?_)
      · refine wk_iload X dL_law_1263 1 rfl ?_
        refine wk_if_ne X 1280 dL_law_1265 (by decide) hf (fun hf => ?_) (fun hf => ?_)
        · exact wq_sub [2, 3, 4, 5, 6] rfl (w_L_law_1280 (n := n) ⟨by omega, by omega⟩ X HX k23 hk23 _ _ _ _ _ hf)
        · refine wk_aload_n X dL_law_1268 5 rfl ?_
          refine wk_iconst X dL_law_1269 ic_0 ?_
          refine wk_lald X dL_law_1270 hf (fun v125 hf => ?_)
          refine wk_iload X dL_law_1271 0 rfl ?_
          refine wk_i2l X dL_law_1273 ?_
          refine wk_lcmp X dL_law_1274 ?_
          refine wk_if_eq X 1280 dL_law_1275 (by decide) hf (fun hf => ?_) (fun hf => ?_)
          · exact wq_sub [2, 3, 4, 5, 6] rfl (w_L_law_1280 (n := n) ⟨by omega, by omega⟩ X HX k23 hk23 _ _ _ _ _ hf)
          · refine wk_iconst X dL_law_1278 ic_0 ?_
            exact nomatch hf
      · refine wk_iconst X dL_law_1261 ic_0 ?_
        exact nomatch hf
    refine wk_ts_in X 1283 18 dL_law_40 (by decide) (by decide) (by decide) rfl (by decide) hf (fun hf => ?_) (fun n18 hf => ?_)
    · refine wk_aload_n X dL_law_1283 1 rfl ?_
      refine wl_callVi X [] [] dL_law_1284 rfl vo_L_198 rfl (by decide) (Nat.le_of_ble_eq_true rfl) ⟨by omega, by omega⟩ hf (c_X10_nearest l _ _) (fun r126 hf => ?_)
      refine wk_aload_n X dL_law_1287 2 rfl ?_
      refine wl_callVi X [] [.int r126.1] dL_law_1288 rfl vo_L_201 rfl (by decide) (Nat.le_of_ble_eq_true rfl) ⟨by omega, by omega⟩ hf (c_X11_nearest l _ _) (fun r127 hf => ?_)
      refine wk_icmp_eq X 2799 dL_law_1291 (by decide) hf (fun hf => ?_) (fun hf => ?_)
      · exact wq_sub [0, 1, 2, 3, 4] rfl (w_L_law_2799 (n := n) ⟨by omega, by omega⟩ X HX k23 hk23 _ _ _ _ _ hf)
      · refine wk_iconst X dL_law_1294 ic_0 ?_
        exact nomatch hf
    refine wk_ts_in X 1296 19 dL_law_40 (by decide) (by decide) (by decide) rfl (by decide) hf (fun hf => ?_) (fun n19 hf => ?_)
    · refine wk_aload_n X dL_law_1296 1 rfl ?_
      refine wk_aload_nS X dL_law_1297 0 rfl ?_
      refine wk_iload X dL_law_1298 4 rfl ?_
      refine wk_iconst X dL_law_1300 ic_1 ?_
      refine wk_iadd X dL_law_1301 ?_
      refine wk_sld X HX.1 dL_law_1302 hf (fun v128 hf => ?_)
      refine wk_aload_n X dL_law_1303 3 rfl ?_
      refine wl_callH X [.ref x1, .int v128, .ref x3] [] dL_law_1304 rfl so_L_202 rfl (by decide) (Nat.le_of_ble_eq_true rfl) ⟨by omega, by omega⟩ hf (ce_L_apart l hl _ _ _ _) (c_L_apart l _ _ _ _) (fun r129 hf => ?_)
      refine wk_istore (lv' := [(5, .int r129.1), (0, .float 97), (1, .ref x1), (2, .ref x2), (3, .ref x3), (4, .int x4)]) X dL_law_1307 (by decide) rfl ?_
      refine wk_aload_n X dL_law_1309 3 rfl ?_
      refine wk_aload_nS X dL_law_1310 1 rfl ?_
      refine wk_iload X dL_law_1311 5 rfl ?_
      refine wk_iconst X dL_law_1313 ic_1 ?_
      refine wk_iadd X dL_law_1314 ?_
      refine wk_sld X HX.1 dL_law_1315 hf (fun v130 hf => ?_)
      refine wl_callVi X [.int v130] [] dL_law_1316 rfl vo_L_204 rfl (by decide) (Nat.le_of_ble_eq_true rfl) ⟨by omega, by omega⟩ hf (c_X11_apart l _ _ _) (fun r131 hf => ?_)
      refine wk_istore (lv' := [(6, .int r131.1), (5, .int r129.1), (0, .float 97), (1, .ref x1), (2, .ref x2), (3, .ref x3), (4, .int x4)]) X dL_law_1319 (by decide) rfl ?_
      refine wk_aload_n X dL_law_1321 4 rfl ?_
      refine wl_callVi X [] [] dL_law_1322 rfl vo_L_141 rfl (by decide) (Nat.le_of_ble_eq_true rfl) ⟨by omega, by omega⟩ hf (c_X11_thrown l _ _) (fun r132 hf => ?_)
      refine wk_iload X dL_law_1325 1 rfl ?_
      refine wk_icmp_eq X 1332 dL_law_1327 (by decide) hf (fun hf => ?_) (fun hf => ?_)
      · refine wk_iload X dL_law_1332 1 rfl ?_
        refine wk_if_ne X 1349 dL_law_1334 (by decide) hf (fun hf => ?_) (fun hf => ?_)
        · exact wq_sub [2, 3, 4, 5, 6] rfl (w_L_law_1349 (n := n) ⟨by omega, by omega⟩ X HX k23 hk23 _ _ _ _ _ hf)
        · refine wk_aload_n X dL_law_1337 5 rfl ?_
          refine wk_iconst X dL_law_1338 ic_0 ?_
          refine wk_lald X dL_law_1339 hf (fun v133 hf => ?_)
          refine wk_iload X dL_law_1340 0 rfl ?_
          refine wk_i2l X dL_law_1342 ?_
          refine wk_lcmp X dL_law_1343 ?_
          refine wk_if_eq X 1349 dL_law_1344 (by decide) hf (fun hf => ?_) (fun hf => ?_)
          · exact wq_sub [2, 3, 4, 5, 6] rfl (w_L_law_1349 (n := n) ⟨by omega, by omega⟩ X HX k23 hk23 _ _ _ _ _ hf)
          · refine wk_iconst X dL_law_1347 ic_0 ?_
            exact nomatch hf
      · refine wk_iconst X dL_law_1330 ic_0 ?_
        exact nomatch hf
    refine wk_ts_in X 1352 20 dL_law_40 (by decide) (by decide) (by decide) rfl (by decide) hf (fun hf => ?_) (fun n20 hf => ?_)
    · refine wk_aload_n X dL_law_1352 1 rfl ?_
      refine wk_aload_nS X dL_law_1353 0 rfl ?_
      refine wk_iload X dL_law_1354 4 rfl ?_
      refine wk_iconst X dL_law_1356 ic_1 ?_
      refine wk_iadd X dL_law_1357 ?_
      refine wk_sld X HX.1 dL_law_1358 hf (fun v134 hf => ?_)
      refine wk_aload_n X dL_law_1359 3 rfl ?_
      refine wl_callH X [.ref x1, .int v134, .ref x3] [] dL_law_1360 rfl so_L_205 rfl (by decide) (Nat.le_of_ble_eq_true rfl) ⟨by omega, by omega⟩ hf (ce_L_tread l hl _ _ _ _) (c_L_tread l _ _ _ _) (fun r135 hf => ?_)
      refine wk_istore (lv' := [(5, .int r135.1), (0, .float 97), (1, .ref x1), (2, .ref x2), (3, .ref x3), (4, .int x4)]) X dL_law_1363 (by decide) rfl ?_
      refine wk_aload_n X dL_law_1365 3 rfl ?_
      refine wk_aload_nS X dL_law_1366 1 rfl ?_
      refine wk_iload X dL_law_1367 5 rfl ?_
      refine wk_iconst X dL_law_1369 ic_1 ?_
      refine wk_iadd X dL_law_1370 ?_
      refine wk_sld X HX.1 dL_law_1371 hf (fun v136 hf => ?_)
      refine wl_callVi X [.int v136] [] dL_law_1372 rfl vo_L_207 rfl (by decide) (Nat.le_of_ble_eq_true rfl) ⟨by omega, by omega⟩ hf (c_X11_tread l _ _ _) (fun r137 hf => ?_)
      refine wk_istore (lv' := [(6, .int r137.1), (5, .int r135.1), (0, .float 97), (1, .ref x1), (2, .ref x2), (3, .ref x3), (4, .int x4)]) X dL_law_1375 (by decide) rfl ?_
      refine wk_aload_n X dL_law_1377 4 rfl ?_
      refine wl_callVi X [] [] dL_law_1378 rfl vo_L_141 rfl (by decide) (Nat.le_of_ble_eq_true rfl) ⟨by omega, by omega⟩ hf (c_X11_thrown l _ _) (fun r138 hf => ?_)
      refine wk_iload X dL_law_1381 1 rfl ?_
      refine wk_icmp_eq X 1388 dL_law_1383 (by decide) hf (fun hf => ?_) (fun hf => ?_)
      · refine wk_iload X dL_law_1388 1 rfl ?_
        refine wk_if_ne X 1405 dL_law_1390 (by decide) hf (fun hf => ?_) (fun hf => ?_)
        · exact wq_sub [2, 3, 4, 5, 6] rfl (w_L_law_1405 (n := n) ⟨by omega, by omega⟩ X HX k23 hk23 _ _ _ _ _ hf)
        · refine wk_aload_n X dL_law_1393 5 rfl ?_
          refine wk_iconst X dL_law_1394 ic_0 ?_
          refine wk_lald X dL_law_1395 hf (fun v139 hf => ?_)
          refine wk_iload X dL_law_1396 0 rfl ?_
          refine wk_i2l X dL_law_1398 ?_
          refine wk_lcmp X dL_law_1399 ?_
          refine wk_if_eq X 1405 dL_law_1400 (by decide) hf (fun hf => ?_) (fun hf => ?_)
          · exact wq_sub [2, 3, 4, 5, 6] rfl (w_L_law_1405 (n := n) ⟨by omega, by omega⟩ X HX k23 hk23 _ _ _ _ _ hf)
          · refine wk_iconst X dL_law_1403 ic_0 ?_
            exact nomatch hf
      · refine wk_iconst X dL_law_1386 ic_0 ?_
        exact nomatch hf
    refine wk_ts_in X 1408 21 dL_law_40 (by decide) (by decide) (by decide) rfl (by decide) hf (fun hf => ?_) (fun n21 hf => ?_)
    · refine wk_aload_n X dL_law_1408 1 rfl ?_
      refine wk_aload_nS X dL_law_1409 0 rfl ?_
      refine wk_iload X dL_law_1410 4 rfl ?_
      refine wk_iconst X dL_law_1412 ic_1 ?_
      refine wk_iadd X dL_law_1413 ?_
      refine wk_sld X HX.1 dL_law_1414 hf (fun v140 hf => ?_)
      refine wk_aload_nS X dL_law_1415 0 rfl ?_
      refine wk_iload X dL_law_1416 4 rfl ?_
      refine wk_iconst X dL_law_1418 ic_2 ?_
      refine wk_iadd X dL_law_1419 ?_
      refine wk_sld X HX.1 dL_law_1420 hf (fun v141 hf => ?_)
      refine wk_aload_n X dL_law_1421 3 rfl ?_
      refine wl_callH X [.ref x1, .int v140, .int v141, .ref x3] [] dL_law_1422 rfl so_L_208 rfl (by decide) (Nat.le_of_ble_eq_true rfl) ⟨by omega, by omega⟩ hf (ce_L_passes l hl _ _ _ _ _) (c_L_passes l _ _ _ _ _) (fun r142 hf => ?_)
      refine wk_istore (lv' := [(5, .int r142.1), (0, .float 97), (1, .ref x1), (2, .ref x2), (3, .ref x3), (4, .int x4)]) X dL_law_1425 (by decide) rfl ?_
      refine wk_aload_n X dL_law_1427 3 rfl ?_
      refine wk_aload_nS X dL_law_1428 1 rfl ?_
      refine wk_iload X dL_law_1429 5 rfl ?_
      refine wk_iconst X dL_law_1431 ic_1 ?_
      refine wk_iadd X dL_law_1432 ?_
      refine wk_sld X HX.1 dL_law_1433 hf (fun v143 hf => ?_)
      refine wk_aload_nS X dL_law_1434 1 rfl ?_
      refine wk_iload X dL_law_1435 5 rfl ?_
      refine wk_iconst X dL_law_1437 ic_2 ?_
      refine wk_iadd X dL_law_1438 ?_
      refine wk_sld X HX.1 dL_law_1439 hf (fun v144 hf => ?_)
      refine wl_callVi X [.int v143, .int v144] [] dL_law_1440 rfl vo_L_210 rfl (by decide) (Nat.le_of_ble_eq_true rfl) ⟨by omega, by omega⟩ hf (c_X11_passes l _ _ _ _) (fun r145 hf => ?_)
      refine wk_istore (lv' := [(6, .int r145.1), (5, .int r142.1), (0, .float 97), (1, .ref x1), (2, .ref x2), (3, .ref x3), (4, .int x4)]) X dL_law_1443 (by decide) rfl ?_
      refine wk_aload_n X dL_law_1445 4 rfl ?_
      refine wl_callVi X [] [] dL_law_1446 rfl vo_L_141 rfl (by decide) (Nat.le_of_ble_eq_true rfl) ⟨by omega, by omega⟩ hf (c_X11_thrown l _ _) (fun r146 hf => ?_)
      refine wk_iload X dL_law_1449 1 rfl ?_
      refine wk_icmp_eq X 1456 dL_law_1451 (by decide) hf (fun hf => ?_) (fun hf => ?_)
      · refine wk_iload X dL_law_1456 1 rfl ?_
        refine wk_if_ne X 1473 dL_law_1458 (by decide) hf (fun hf => ?_) (fun hf => ?_)
        · exact wq_sub [2, 3, 4, 5, 6] rfl (w_L_law_1473 (n := n) ⟨by omega, by omega⟩ X HX k23 hk23 _ _ _ _ _ hf)
        · refine wk_aload_n X dL_law_1461 5 rfl ?_
          refine wk_iconst X dL_law_1462 ic_0 ?_
          refine wk_lald X dL_law_1463 hf (fun v147 hf => ?_)
          refine wk_iload X dL_law_1464 0 rfl ?_
          refine wk_i2l X dL_law_1466 ?_
          refine wk_lcmp X dL_law_1467 ?_
          refine wk_if_eq X 1473 dL_law_1468 (by decide) hf (fun hf => ?_) (fun hf => ?_)
          · exact wq_sub [2, 3, 4, 5, 6] rfl (w_L_law_1473 (n := n) ⟨by omega, by omega⟩ X HX k23 hk23 _ _ _ _ _ hf)
          · refine wk_iconst X dL_law_1471 ic_0 ?_
            exact nomatch hf
      · refine wk_iconst X dL_law_1454 ic_0 ?_
        exact nomatch hf
    refine wk_ts_in X 1476 22 dL_law_40 (by decide) (by decide) (by decide) rfl (by decide) hf (fun hf => ?_) (fun n22 hf => ?_)
    · refine wk_aload_n X dL_law_1476 1 rfl ?_
      refine wk_aload_nS X dL_law_1477 0 rfl ?_
      refine wk_iload X dL_law_1478 4 rfl ?_
      refine wk_iconst X dL_law_1480 ic_1 ?_
      refine wk_iadd X dL_law_1481 ?_
      refine wk_sld X HX.1 dL_law_1482 hf (fun v148 hf => ?_)
      refine wk_aload_n X dL_law_1483 3 rfl ?_
      refine wl_callH X [.ref x1, .int v148, .ref x3] [] dL_law_1484 rfl so_L_211 rfl (by decide) (Nat.le_of_ble_eq_true rfl) ⟨by omega, by omega⟩ hf (ce_L_hidden l hl _ _ _ _) (c_L_hidden l _ _ _ _) (fun r149 hf => ?_)
      refine wk_istore (lv' := [(5, .int r149.1), (0, .float 97), (1, .ref x1), (2, .ref x2), (3, .ref x3), (4, .int x4)]) X dL_law_1487 (by decide) rfl ?_
      refine wk_aload_n X dL_law_1489 3 rfl ?_
      refine wk_aload_nS X dL_law_1490 1 rfl ?_
      refine wk_iload X dL_law_1491 5 rfl ?_
      refine wk_iconst X dL_law_1493 ic_1 ?_
      refine wk_iadd X dL_law_1494 ?_
      refine wk_sld X HX.1 dL_law_1495 hf (fun v150 hf => ?_)
      refine wl_callVi X [.int v150] [] dL_law_1496 rfl vo_L_213 rfl (by decide) (Nat.le_of_ble_eq_true rfl) ⟨by omega, by omega⟩ hf (c_X11_hidden l _ _ _) (fun r151 hf => ?_)
      refine wk_istore (lv' := [(6, .int r151.1), (5, .int r149.1), (0, .float 97), (1, .ref x1), (2, .ref x2), (3, .ref x3), (4, .int x4)]) X dL_law_1499 (by decide) rfl ?_
      refine wk_aload_n X dL_law_1501 4 rfl ?_
      refine wl_callVi X [] [] dL_law_1502 rfl vo_L_141 rfl (by decide) (Nat.le_of_ble_eq_true rfl) ⟨by omega, by omega⟩ hf (c_X11_thrown l _ _) (fun r152 hf => ?_)
      refine wk_iload X dL_law_1505 1 rfl ?_
      refine wk_icmp_eq X 1512 dL_law_1507 (by decide) hf (fun hf => ?_) (fun hf => ?_)
      · refine wk_iload X dL_law_1512 1 rfl ?_
        refine wk_if_ne X 1529 dL_law_1514 (by decide) hf (fun hf => ?_) (fun hf => ?_)
        · exact wq_sub [2, 3, 4, 5, 6] rfl (w_L_law_1529 (n := n) ⟨by omega, by omega⟩ X HX k23 hk23 _ _ _ _ _ hf)
        · refine wk_aload_n X dL_law_1517 5 rfl ?_
          refine wk_iconst X dL_law_1518 ic_0 ?_
          refine wk_lald X dL_law_1519 hf (fun v153 hf => ?_)
          refine wk_iload X dL_law_1520 0 rfl ?_
          refine wk_i2l X dL_law_1522 ?_
          refine wk_lcmp X dL_law_1523 ?_
          refine wk_if_eq X 1529 dL_law_1524 (by decide) hf (fun hf => ?_) (fun hf => ?_)
          · exact wq_sub [2, 3, 4, 5, 6] rfl (w_L_law_1529 (n := n) ⟨by omega, by omega⟩ X HX k23 hk23 _ _ _ _ _ hf)
          · refine wk_iconst X dL_law_1527 ic_0 ?_
            exact nomatch hf
      · refine wk_iconst X dL_law_1510 ic_0 ?_
        exact nomatch hf
    refine wk_ts_in X 1532 23 dL_law_40 (by decide) (by decide) (by decide) rfl (by decide) hf (fun hf => ?_) (fun n23 hf => ?_)
    · refine wk_aload_n X dL_law_1532 1 rfl ?_
      refine wk_aload_nS X dL_law_1533 0 rfl ?_
      refine wk_iload X dL_law_1534 4 rfl ?_
      refine wk_iconst X dL_law_1536 ic_1 ?_
      refine wk_iadd X dL_law_1537 ?_
      refine wk_sld X HX.1 dL_law_1538 hf (fun v154 hf => ?_)
      refine wk_aload_n X dL_law_1539 3 rfl ?_
      refine wl_callH X [.ref x1, .int v154, .ref x3] [] dL_law_1540 rfl so_L_214 rfl (by decide) (Nat.le_of_ble_eq_true rfl) ⟨by omega, by omega⟩ hf (ce_L_toSock l hl _ _ _ _) (c_L_toSock l _ _ _ _) (fun r155 hf => ?_)
      refine wk_istore (lv' := [(5, .int r155.1), (0, .float 97), (1, .ref x1), (2, .ref x2), (3, .ref x3), (4, .int x4)]) X dL_law_1543 (by decide) rfl ?_
      refine wk_aload_n X dL_law_1545 3 rfl ?_
      refine wk_aload_nS X dL_law_1546 1 rfl ?_
      refine wk_iload X dL_law_1547 5 rfl ?_
      refine wk_iconst X dL_law_1549 ic_1 ?_
      refine wk_iadd X dL_law_1550 ?_
      refine wk_sld X HX.1 dL_law_1551 hf (fun v156 hf => ?_)
      refine wl_callVi X [.int v156] [] dL_law_1552 rfl vo_L_216 rfl (by decide) (Nat.le_of_ble_eq_true rfl) ⟨by omega, by omega⟩ hf (c_X11_toSock l _ _ _) (fun r157 hf => ?_)
      refine wk_istore (lv' := [(6, .int r157.1), (5, .int r155.1), (0, .float 97), (1, .ref x1), (2, .ref x2), (3, .ref x3), (4, .int x4)]) X dL_law_1555 (by decide) rfl ?_
      refine wk_aload_n X dL_law_1557 4 rfl ?_
      refine wl_callVi X [] [] dL_law_1558 rfl vo_L_141 rfl (by decide) (Nat.le_of_ble_eq_true rfl) ⟨by omega, by omega⟩ hf (c_X11_thrown l _ _) (fun r158 hf => ?_)
      refine wk_iload X dL_law_1561 1 rfl ?_
      refine wk_icmp_eq X 1568 dL_law_1563 (by decide) hf (fun hf => ?_) (fun hf => ?_)
      · refine wk_iload X dL_law_1568 1 rfl ?_
        refine wk_if_ne X 1585 dL_law_1570 (by decide) hf (fun hf => ?_) (fun hf => ?_)
        · exact wq_sub [2, 3, 4, 5, 6] rfl (w_L_law_1585 (n := n) ⟨by omega, by omega⟩ X HX k23 hk23 _ _ _ _ _ hf)
        · refine wk_aload_n X dL_law_1573 5 rfl ?_
          refine wk_iconst X dL_law_1574 ic_0 ?_
          refine wk_lald X dL_law_1575 hf (fun v159 hf => ?_)
          refine wk_iload X dL_law_1576 0 rfl ?_
          refine wk_i2l X dL_law_1578 ?_
          refine wk_lcmp X dL_law_1579 ?_
          refine wk_if_eq X 1585 dL_law_1580 (by decide) hf (fun hf => ?_) (fun hf => ?_)
          · exact wq_sub [2, 3, 4, 5, 6] rfl (w_L_law_1585 (n := n) ⟨by omega, by omega⟩ X HX k23 hk23 _ _ _ _ _ hf)
          · refine wk_iconst X dL_law_1583 ic_0 ?_
            exact nomatch hf
      · refine wk_iconst X dL_law_1566 ic_0 ?_
        exact nomatch hf
    refine wk_ts_in X 1588 24 dL_law_40 (by decide) (by decide) (by decide) rfl (by decide) hf (fun hf => ?_) (fun n24 hf => ?_)
    · refine wk_aload_n X dL_law_1588 1 rfl ?_
      refine wk_aload_nS X dL_law_1589 0 rfl ?_
      refine wk_iload X dL_law_1590 4 rfl ?_
      refine wk_iconst X dL_law_1592 ic_1 ?_
      refine wk_iadd X dL_law_1593 ?_
      refine wk_sld X HX.1 dL_law_1594 hf (fun v160 hf => ?_)
      refine wk_aload_n X dL_law_1595 3 rfl ?_
      refine wl_callH X [.ref x1, .int v160, .ref x3] [] dL_law_1596 rfl so_L_217 rfl (by decide) (Nat.le_of_ble_eq_true rfl) ⟨by omega, by omega⟩ hf (ce_L_review l hl _ _ _ _) (c_L_review l _ _ _ _) (fun r161 hf => ?_)
      refine wk_istore (lv' := [(5, .int r161.1), (0, .float 97), (1, .ref x1), (2, .ref x2), (3, .ref x3), (4, .int x4)]) X dL_law_1599 (by decide) rfl ?_
      refine wk_aload_n X dL_law_1601 3 rfl ?_
      refine wk_aload_nS X dL_law_1602 1 rfl ?_
      refine wk_iload X dL_law_1603 5 rfl ?_
      refine wk_iconst X dL_law_1605 ic_1 ?_
      refine wk_iadd X dL_law_1606 ?_
      refine wk_sld X HX.1 dL_law_1607 hf (fun v162 hf => ?_)
      refine wl_callVi X [.int v162] [] dL_law_1608 rfl vo_L_219 rfl (by decide) (Nat.le_of_ble_eq_true rfl) ⟨by omega, by omega⟩ hf (c_X11_review l _ _ _) (fun r163 hf => ?_)
      refine wk_istore (lv' := [(6, .int r163.1), (5, .int r161.1), (0, .float 97), (1, .ref x1), (2, .ref x2), (3, .ref x3), (4, .int x4)]) X dL_law_1611 (by decide) rfl ?_
      refine wk_aload_n X dL_law_1613 4 rfl ?_
      refine wl_callVi X [] [] dL_law_1614 rfl vo_L_141 rfl (by decide) (Nat.le_of_ble_eq_true rfl) ⟨by omega, by omega⟩ hf (c_X11_thrown l _ _) (fun r164 hf => ?_)
      refine wk_iload X dL_law_1617 1 rfl ?_
      refine wk_icmp_eq X 1624 dL_law_1619 (by decide) hf (fun hf => ?_) (fun hf => ?_)
      · refine wk_iload X dL_law_1624 1 rfl ?_
        refine wk_if_ne X 1641 dL_law_1626 (by decide) hf (fun hf => ?_) (fun hf => ?_)
        · exact wq_sub [2, 3, 4, 5, 6] rfl (w_L_law_1641 (n := n) ⟨by omega, by omega⟩ X HX k23 hk23 _ _ _ _ _ hf)
        · refine wk_aload_n X dL_law_1629 5 rfl ?_
          refine wk_iconst X dL_law_1630 ic_0 ?_
          refine wk_lald X dL_law_1631 hf (fun v165 hf => ?_)
          refine wk_iload X dL_law_1632 0 rfl ?_
          refine wk_i2l X dL_law_1634 ?_
          refine wk_lcmp X dL_law_1635 ?_
          refine wk_if_eq X 1641 dL_law_1636 (by decide) hf (fun hf => ?_) (fun hf => ?_)
          · exact wq_sub [2, 3, 4, 5, 6] rfl (w_L_law_1641 (n := n) ⟨by omega, by omega⟩ X HX k23 hk23 _ _ _ _ _ hf)
          · refine wk_iconst X dL_law_1639 ic_0 ?_
            exact nomatch hf
      · refine wk_iconst X dL_law_1622 ic_0 ?_
        exact nomatch hf
    refine wk_ts_in X 1644 25 dL_law_40 (by decide) (by decide) (by decide) rfl (by decide) hf (fun hf => ?_) (fun n25 hf => ?_)
    · refine wk_aload_n X dL_law_1644 1 rfl ?_
      refine wk_aload_nS X dL_law_1645 0 rfl ?_
      refine wk_iload X dL_law_1646 4 rfl ?_
      refine wk_iconst X dL_law_1648 ic_1 ?_
      refine wk_iadd X dL_law_1649 ?_
      refine wk_sld X HX.1 dL_law_1650 hf (fun v166 hf => ?_)
      refine wk_aload_nS X dL_law_1651 0 rfl ?_
      refine wk_iload X dL_law_1652 4 rfl ?_
      refine wk_iconst X dL_law_1654 ic_2 ?_
      refine wk_iadd X dL_law_1655 ?_
      refine wk_sld X HX.1 dL_law_1656 hf (fun v167 hf => ?_)
      refine wk_aload_nS X dL_law_1657 0 rfl ?_
      refine wk_iload X dL_law_1658 4 rfl ?_
      refine wk_iconst X dL_law_1660 ic_3 ?_
      refine wk_iadd X dL_law_1661 ?_
      refine wk_sld X HX.1 dL_law_1662 hf (fun v168 hf => ?_)
      refine wk_aload_nS X dL_law_1663 0 rfl ?_
      refine wk_iload X dL_law_1664 4 rfl ?_
      refine wk_iconst X dL_law_1666 ic_4 ?_
      refine wk_iadd X dL_law_1667 ?_
      refine wk_sld X HX.1 dL_law_1668 hf (fun v169 hf => ?_)
      refine wk_if_eq X 1676 dL_law_1669 (by decide) hf (fun hf => ?_) (fun hf => ?_)
      · refine wk_iconst X dL_law_1676 ic_0 ?_
        exact wq_sub [0, 1, 2, 3, 4] rfl (w_L_law_1677 (n := n) ⟨by omega, by omega⟩ hl X HX k23 hk23 _ _ _ _ _ _ _ _ _ _ hf)
      · refine wk_iconst X dL_law_1672 ic_1 ?_
        refine wk_goto X 1677 dL_law_1673 (by decide) ?_
        exact wq_sub [0, 1, 2, 3, 4] rfl (w_L_law_1677 (n := n) ⟨by omega, by omega⟩ hl X HX k23 hk23 _ _ _ _ _ _ _ _ _ _ hf)
    refine wk_ts_in X 1752 26 dL_law_40 (by decide) (by decide) (by decide) rfl (by decide) hf (fun hf => ?_) (fun n26 hf => ?_)
    · refine wk_aload_n X dL_law_1752 1 rfl ?_
      refine wl_callVv X [] [] dL_law_1753 rfl vo_L_224 rfl (by decide) (Nat.le_of_ble_eq_true rfl) ⟨by omega, by omega⟩ hf (c_X10_forget l _ _) (fun r170 hf => ?_)
      refine wk_aload_n X dL_law_1756 2 rfl ?_
      refine wl_callVv X [] [] dL_law_1757 rfl vo_L_227 rfl (by decide) (Nat.le_of_ble_eq_true rfl) ⟨by omega, by omega⟩ hf (c_X11_forget l _ _) (fun r171 hf => ?_)
      refine wk_goto X 2799 dL_law_1760 (by decide) ?_
      exact wq_sub [0, 1, 2, 3, 4] rfl (w_L_law_2799 (n := n) ⟨by omega, by omega⟩ X HX k23 hk23 _ _ _ _ _ hf)
    refine wk_ts_in X 1763 27 dL_law_40 (by decide) (by decide) (by decide) rfl (by decide) hf (fun hf => ?_) (fun n27 hf => ?_)
    · refine wk_aload_n X dL_law_1763 1 rfl ?_
      refine wk_aload_nS X dL_law_1764 0 rfl ?_
      refine wk_iload X dL_law_1765 4 rfl ?_
      refine wk_iconst X dL_law_1767 ic_1 ?_
      refine wk_iadd X dL_law_1768 ?_
      refine wk_sld X HX.1 dL_law_1769 hf (fun v172 hf => ?_)
      refine wk_aload_n X dL_law_1770 3 rfl ?_
      refine wl_callH X [.ref x1, .int v172, .ref x3] [] dL_law_1771 rfl so_L_228 rfl (by decide) (Nat.le_of_ble_eq_true rfl) ⟨by omega, by omega⟩ hf (ce_L_limped l hl _ _ _ _) (c_L_limped l _ _ _ _) (fun r173 hf => ?_)
      refine wk_istore (lv' := [(5, .int r173.1), (0, .float 97), (1, .ref x1), (2, .ref x2), (3, .ref x3), (4, .int x4)]) X dL_law_1774 (by decide) rfl ?_
      refine wk_aload_n X dL_law_1776 3 rfl ?_
      refine wk_aload_nS X dL_law_1777 1 rfl ?_
      refine wk_iload X dL_law_1778 5 rfl ?_
      refine wk_iconst X dL_law_1780 ic_1 ?_
      refine wk_iadd X dL_law_1781 ?_
      refine wk_sld X HX.1 dL_law_1782 hf (fun v174 hf => ?_)
      refine wl_callVi X [.int v174] [] dL_law_1783 rfl vo_L_230 rfl (by decide) (Nat.le_of_ble_eq_true rfl) ⟨by omega, by omega⟩ hf (c_X11_limped l _ _ _) (fun r175 hf => ?_)
      refine wk_istore (lv' := [(6, .int r175.1), (5, .int r173.1), (0, .float 97), (1, .ref x1), (2, .ref x2), (3, .ref x3), (4, .int x4)]) X dL_law_1786 (by decide) rfl ?_
      refine wk_aload_n X dL_law_1788 4 rfl ?_
      refine wl_callVi X [] [] dL_law_1789 rfl vo_L_141 rfl (by decide) (Nat.le_of_ble_eq_true rfl) ⟨by omega, by omega⟩ hf (c_X11_thrown l _ _) (fun r176 hf => ?_)
      refine wk_iload X dL_law_1792 1 rfl ?_
      refine wk_icmp_eq X 1799 dL_law_1794 (by decide) hf (fun hf => ?_) (fun hf => ?_)
      · refine wk_iload X dL_law_1799 1 rfl ?_
        refine wk_if_ne X 1816 dL_law_1801 (by decide) hf (fun hf => ?_) (fun hf => ?_)
        · exact wq_sub [2, 3, 4, 5, 6] rfl (w_L_law_1816 (n := n) ⟨by omega, by omega⟩ X HX k23 hk23 _ _ _ _ _ hf)
        · refine wk_aload_n X dL_law_1804 5 rfl ?_
          refine wk_iconst X dL_law_1805 ic_0 ?_
          refine wk_lald X dL_law_1806 hf (fun v177 hf => ?_)
          refine wk_iload X dL_law_1807 0 rfl ?_
          refine wk_i2l X dL_law_1809 ?_
          refine wk_lcmp X dL_law_1810 ?_
          refine wk_if_eq X 1816 dL_law_1811 (by decide) hf (fun hf => ?_) (fun hf => ?_)
          · exact wq_sub [2, 3, 4, 5, 6] rfl (w_L_law_1816 (n := n) ⟨by omega, by omega⟩ X HX k23 hk23 _ _ _ _ _ hf)
          · refine wk_iconst X dL_law_1814 ic_0 ?_
            exact nomatch hf
      · refine wk_iconst X dL_law_1797 ic_0 ?_
        exact nomatch hf
    refine wk_ts_in X 1819 28 dL_law_40 (by decide) (by decide) (by decide) rfl (by decide) hf (fun hf => ?_) (fun n28 hf => ?_)
    · refine wk_aload_n X dL_law_1819 1 rfl ?_
      refine wk_aload_nS X dL_law_1820 0 rfl ?_
      refine wk_iload X dL_law_1821 4 rfl ?_
      refine wk_iconst X dL_law_1823 ic_1 ?_
      refine wk_iadd X dL_law_1824 ?_
      refine wk_sld X HX.1 dL_law_1825 hf (fun v178 hf => ?_)
      refine wk_aload_n X dL_law_1826 3 rfl ?_
      refine wl_callH X [.ref x1, .int v178, .ref x3] [] dL_law_1827 rfl so_L_231 rfl (by decide) (Nat.le_of_ble_eq_true rfl) ⟨by omega, by omega⟩ hf (ce_L_next l hl _ _ _ _) (c_L_next l _ _ _ _) (fun r179 hf => ?_)
      refine wk_istore (lv' := [(5, .int r179.1), (0, .float 97), (1, .ref x1), (2, .ref x2), (3, .ref x3), (4, .int x4)]) X dL_law_1830 (by decide) rfl ?_
      refine wk_aload_n X dL_law_1832 3 rfl ?_
      refine wk_aload_nS X dL_law_1833 1 rfl ?_
      refine wk_iload X dL_law_1834 5 rfl ?_
      refine wk_iconst X dL_law_1836 ic_1 ?_
      refine wk_iadd X dL_law_1837 ?_
      refine wk_sld X HX.1 dL_law_1838 hf (fun v180 hf => ?_)
      refine wl_callVi X [.int v180] [] dL_law_1839 rfl vo_L_233 rfl (by decide) (Nat.le_of_ble_eq_true rfl) ⟨by omega, by omega⟩ hf (c_X11_next l _ _ _) (fun r181 hf => ?_)
      refine wk_istore (lv' := [(6, .int r181.1), (5, .int r179.1), (0, .float 97), (1, .ref x1), (2, .ref x2), (3, .ref x3), (4, .int x4)]) X dL_law_1842 (by decide) rfl ?_
      refine wk_aload_n X dL_law_1844 4 rfl ?_
      refine wl_callVi X [] [] dL_law_1845 rfl vo_L_141 rfl (by decide) (Nat.le_of_ble_eq_true rfl) ⟨by omega, by omega⟩ hf (c_X11_thrown l _ _) (fun r182 hf => ?_)
      refine wk_iload X dL_law_1848 1 rfl ?_
      refine wk_icmp_eq X 1855 dL_law_1850 (by decide) hf (fun hf => ?_) (fun hf => ?_)
      · refine wk_iload X dL_law_1855 1 rfl ?_
        refine wk_if_ne X 1872 dL_law_1857 (by decide) hf (fun hf => ?_) (fun hf => ?_)
        · exact wq_sub [2, 3, 4, 5, 6] rfl (w_L_law_1872 (n := n) ⟨by omega, by omega⟩ X HX k23 hk23 _ _ _ _ _ hf)
        · refine wk_aload_n X dL_law_1860 5 rfl ?_
          refine wk_iconst X dL_law_1861 ic_0 ?_
          refine wk_lald X dL_law_1862 hf (fun v183 hf => ?_)
          refine wk_iload X dL_law_1863 0 rfl ?_
          refine wk_i2l X dL_law_1865 ?_
          refine wk_lcmp X dL_law_1866 ?_
          refine wk_if_eq X 1872 dL_law_1867 (by decide) hf (fun hf => ?_) (fun hf => ?_)
          · exact wq_sub [2, 3, 4, 5, 6] rfl (w_L_law_1872 (n := n) ⟨by omega, by omega⟩ X HX k23 hk23 _ _ _ _ _ hf)
          · refine wk_iconst X dL_law_1870 ic_0 ?_
            exact nomatch hf
      · refine wk_iconst X dL_law_1853 ic_0 ?_
        exact nomatch hf
    refine wk_ts_in X 1875 29 dL_law_40 (by decide) (by decide) (by decide) rfl (by decide) hf (fun hf => ?_) (fun n29 hf => ?_)
    · refine wk_aload_n X dL_law_1875 1 rfl ?_
      refine wk_aload_nS X dL_law_1876 0 rfl ?_
      refine wk_iload X dL_law_1877 4 rfl ?_
      refine wk_iconst X dL_law_1879 ic_1 ?_
      refine wk_iadd X dL_law_1880 ?_
      refine wk_sld X HX.1 dL_law_1881 hf (fun v184 hf => ?_)
      refine wk_aload_nS X dL_law_1882 0 rfl ?_
      refine wk_iload X dL_law_1883 4 rfl ?_
      refine wk_iconst X dL_law_1885 ic_2 ?_
      refine wk_iadd X dL_law_1886 ?_
      refine wk_sld X HX.1 dL_law_1887 hf (fun v185 hf => ?_)
      refine wk_aload_nS X dL_law_1888 0 rfl ?_
      refine wk_iload X dL_law_1889 4 rfl ?_
      refine wk_iconst X dL_law_1891 ic_3 ?_
      refine wk_iadd X dL_law_1892 ?_
      refine wk_sld X HX.1 dL_law_1893 hf (fun v186 hf => ?_)
      refine wk_aload_n X dL_law_1894 3 rfl ?_
      refine wl_callH X [.ref x1, .int v184, .int v185, .int v186, .ref x3] [] dL_law_1895 rfl so_L_234 rfl (by decide) (Nat.le_of_ble_eq_true rfl) ⟨by omega, by omega⟩ hf (ce_L_byMud l hl _ _ _ _ _ _) (c_L_byMud l _ _ _ _ _ _) (fun r187 hf => ?_)
      refine wk_istore (lv' := [(5, .int r187.1), (0, .float 97), (1, .ref x1), (2, .ref x2), (3, .ref x3), (4, .int x4)]) X dL_law_1898 (by decide) rfl ?_
      refine wk_aload_n X dL_law_1900 3 rfl ?_
      refine wk_aload_nS X dL_law_1901 1 rfl ?_
      refine wk_iload X dL_law_1902 5 rfl ?_
      refine wk_iconst X dL_law_1904 ic_1 ?_
      refine wk_iadd X dL_law_1905 ?_
      refine wk_sld X HX.1 dL_law_1906 hf (fun v188 hf => ?_)
      refine wk_aload_nS X dL_law_1907 1 rfl ?_
      refine wk_iload X dL_law_1908 5 rfl ?_
      refine wk_iconst X dL_law_1910 ic_2 ?_
      refine wk_iadd X dL_law_1911 ?_
      refine wk_sld X HX.1 dL_law_1912 hf (fun v189 hf => ?_)
      refine wk_aload_nS X dL_law_1913 1 rfl ?_
      refine wk_iload X dL_law_1914 5 rfl ?_
      refine wk_iconst X dL_law_1916 ic_3 ?_
      refine wk_iadd X dL_law_1917 ?_
      refine wk_sld X HX.1 dL_law_1918 hf (fun v190 hf => ?_)
      refine wl_callVi X [.int v188, .int v189, .int v190] [] dL_law_1919 rfl vo_L_236 rfl (by decide) (Nat.le_of_ble_eq_true rfl) ⟨by omega, by omega⟩ hf (c_X11_byMud l _ _ _ _ _) (fun r191 hf => ?_)
      refine wk_istore (lv' := [(6, .int r191.1), (5, .int r187.1), (0, .float 97), (1, .ref x1), (2, .ref x2), (3, .ref x3), (4, .int x4)]) X dL_law_1922 (by decide) rfl ?_
      refine wk_aload_n X dL_law_1924 4 rfl ?_
      refine wl_callVi X [] [] dL_law_1925 rfl vo_L_141 rfl (by decide) (Nat.le_of_ble_eq_true rfl) ⟨by omega, by omega⟩ hf (c_X11_thrown l _ _) (fun r192 hf => ?_)
      refine wk_iload X dL_law_1928 1 rfl ?_
      refine wk_icmp_eq X 1935 dL_law_1930 (by decide) hf (fun hf => ?_) (fun hf => ?_)
      · refine wk_iload X dL_law_1935 1 rfl ?_
        refine wk_if_ne X 1952 dL_law_1937 (by decide) hf (fun hf => ?_) (fun hf => ?_)
        · exact wq_sub [2, 3, 4, 5, 6] rfl (w_L_law_1952 (n := n) ⟨by omega, by omega⟩ X HX k23 hk23 _ _ _ _ _ hf)
        · refine wk_aload_n X dL_law_1940 5 rfl ?_
          refine wk_iconst X dL_law_1941 ic_0 ?_
          refine wk_lald X dL_law_1942 hf (fun v193 hf => ?_)
          refine wk_iload X dL_law_1943 0 rfl ?_
          refine wk_i2l X dL_law_1945 ?_
          refine wk_lcmp X dL_law_1946 ?_
          refine wk_if_eq X 1952 dL_law_1947 (by decide) hf (fun hf => ?_) (fun hf => ?_)
          · exact wq_sub [2, 3, 4, 5, 6] rfl (w_L_law_1952 (n := n) ⟨by omega, by omega⟩ X HX k23 hk23 _ _ _ _ _ hf)
          · refine wk_iconst X dL_law_1950 ic_0 ?_
            exact nomatch hf
      · refine wk_iconst X dL_law_1933 ic_0 ?_
        exact nomatch hf
    refine wk_ts_in X 1955 30 dL_law_40 (by decide) (by decide) (by decide) rfl (by decide) hf (fun hf => ?_) (fun n30 hf => ?_)
    · refine wk_aload_n X dL_law_1955 1 rfl ?_
      refine wk_aload_nS X dL_law_1956 0 rfl ?_
      refine wk_iload X dL_law_1957 4 rfl ?_
      refine wk_iconst X dL_law_1959 ic_1 ?_
      refine wk_iadd X dL_law_1960 ?_
      refine wk_sld X HX.1 dL_law_1961 hf (fun v194 hf => ?_)
      refine wk_aload_nS X dL_law_1962 0 rfl ?_
      refine wk_iload X dL_law_1963 4 rfl ?_
      refine wk_iconst X dL_law_1965 ic_2 ?_
      refine wk_iadd X dL_law_1966 ?_
      refine wk_sld X HX.1 dL_law_1967 hf (fun v195 hf => ?_)
      refine wk_aload_nS X dL_law_1968 0 rfl ?_
      refine wk_iload X dL_law_1969 4 rfl ?_
      refine wk_iconst X dL_law_1971 ic_3 ?_
      refine wk_iadd X dL_law_1972 ?_
      refine wk_sld X HX.1 dL_law_1973 hf (fun v196 hf => ?_)
      refine wk_aload_n X dL_law_1974 3 rfl ?_
      refine wl_callH X [.ref x1, .int v194, .int v195, .int v196, .ref x3] [] dL_law_1975 rfl so_L_237 rfl (by decide) (Nat.le_of_ble_eq_true rfl) ⟨by omega, by omega⟩ hf (ce_L_game l hl _ _ _ _ _ _) (c_L_game l _ _ _ _ _ _) (fun r197 hf => ?_)
      refine wk_istore (lv' := [(5, .int r197.1), (0, .float 97), (1, .ref x1), (2, .ref x2), (3, .ref x3), (4, .int x4)]) X dL_law_1978 (by decide) rfl ?_
      refine wk_aload_n X dL_law_1980 3 rfl ?_
      refine wk_aload_nS X dL_law_1981 1 rfl ?_
      refine wk_iload X dL_law_1982 5 rfl ?_
      refine wk_iconst X dL_law_1984 ic_1 ?_
      refine wk_iadd X dL_law_1985 ?_
      refine wk_sld X HX.1 dL_law_1986 hf (fun v198 hf => ?_)
      refine wk_aload_nS X dL_law_1987 1 rfl ?_
      refine wk_iload X dL_law_1988 5 rfl ?_
      refine wk_iconst X dL_law_1990 ic_2 ?_
      refine wk_iadd X dL_law_1991 ?_
      refine wk_sld X HX.1 dL_law_1992 hf (fun v199 hf => ?_)
      refine wk_aload_nS X dL_law_1993 1 rfl ?_
      refine wk_iload X dL_law_1994 5 rfl ?_
      refine wk_iconst X dL_law_1996 ic_3 ?_
      refine wk_iadd X dL_law_1997 ?_
      refine wk_sld X HX.1 dL_law_1998 hf (fun v200 hf => ?_)
      refine wl_callVi X [.int v198, .int v199, .int v200] [] dL_law_1999 rfl vo_L_239 rfl (by decide) (Nat.le_of_ble_eq_true rfl) ⟨by omega, by omega⟩ hf (c_X11_game l _ _ _ _ _) (fun r201 hf => ?_)
      refine wk_istore (lv' := [(6, .int r201.1), (5, .int r197.1), (0, .float 97), (1, .ref x1), (2, .ref x2), (3, .ref x3), (4, .int x4)]) X dL_law_2002 (by decide) rfl ?_
      refine wk_aload_n X dL_law_2004 4 rfl ?_
      refine wl_callVi X [] [] dL_law_2005 rfl vo_L_141 rfl (by decide) (Nat.le_of_ble_eq_true rfl) ⟨by omega, by omega⟩ hf (c_X11_thrown l _ _) (fun r202 hf => ?_)
      refine wk_iload X dL_law_2008 1 rfl ?_
      refine wk_icmp_eq X 2015 dL_law_2010 (by decide) hf (fun hf => ?_) (fun hf => ?_)
      · refine wk_iload X dL_law_2015 1 rfl ?_
        refine wk_if_ne X 2032 dL_law_2017 (by decide) hf (fun hf => ?_) (fun hf => ?_)
        · exact wq_sub [2, 3, 4, 5, 6] rfl (w_L_law_2032 (n := n) ⟨by omega, by omega⟩ X HX k23 hk23 _ _ _ _ _ hf)
        · refine wk_aload_n X dL_law_2020 5 rfl ?_
          refine wk_iconst X dL_law_2021 ic_0 ?_
          refine wk_lald X dL_law_2022 hf (fun v203 hf => ?_)
          refine wk_iload X dL_law_2023 0 rfl ?_
          refine wk_i2l X dL_law_2025 ?_
          refine wk_lcmp X dL_law_2026 ?_
          refine wk_if_eq X 2032 dL_law_2027 (by decide) hf (fun hf => ?_) (fun hf => ?_)
          · exact wq_sub [2, 3, 4, 5, 6] rfl (w_L_law_2032 (n := n) ⟨by omega, by omega⟩ X HX k23 hk23 _ _ _ _ _ hf)
          · refine wk_iconst X dL_law_2030 ic_0 ?_
            exact nomatch hf
      · refine wk_iconst X dL_law_2013 ic_0 ?_
        exact nomatch hf
    refine wk_ts_in X 2035 31 dL_law_40 (by decide) (by decide) (by decide) rfl (by decide) hf (fun hf => ?_) (fun n31 hf => ?_)
    · refine wk_aload_n X dL_law_2035 1 rfl ?_
      refine wk_aload_nS X dL_law_2036 0 rfl ?_
      refine wk_iload X dL_law_2037 4 rfl ?_
      refine wk_iconst X dL_law_2039 ic_1 ?_
      refine wk_iadd X dL_law_2040 ?_
      refine wk_sld X HX.1 dL_law_2041 hf (fun v204 hf => ?_)
      refine wk_aload_nS X dL_law_2042 0 rfl ?_
      refine wk_iload X dL_law_2043 4 rfl ?_
      refine wk_iconst X dL_law_2045 ic_2 ?_
      refine wk_iadd X dL_law_2046 ?_
      refine wk_sld X HX.1 dL_law_2047 hf (fun v205 hf => ?_)
      refine wk_aload_nS X dL_law_2048 0 rfl ?_
      refine wk_iload X dL_law_2049 4 rfl ?_
      refine wk_iconst X dL_law_2051 ic_3 ?_
      refine wk_iadd X dL_law_2052 ?_
      refine wk_sld X HX.1 dL_law_2053 hf (fun v206 hf => ?_)
      refine wk_aload_n X dL_law_2054 3 rfl ?_
      refine wl_callH X [.ref x1, .int v204, .int v205, .int v206, .ref x3] [] dL_law_2055 rfl so_L_240 rfl (by decide) (Nat.le_of_ble_eq_true rfl) ⟨by omega, by omega⟩ hf (ce_L_reviews l hl _ _ _ _ _ _) (c_L_reviews l _ _ _ _ _ _) (fun r207 hf => ?_)
      refine wk_istore (lv' := [(5, .int r207.1), (0, .float 97), (1, .ref x1), (2, .ref x2), (3, .ref x3), (4, .int x4)]) X dL_law_2058 (by decide) rfl ?_
      refine wk_aload_n X dL_law_2060 3 rfl ?_
      refine wk_aload_nS X dL_law_2061 1 rfl ?_
      refine wk_iload X dL_law_2062 5 rfl ?_
      refine wk_iconst X dL_law_2064 ic_1 ?_
      refine wk_iadd X dL_law_2065 ?_
      refine wk_sld X HX.1 dL_law_2066 hf (fun v208 hf => ?_)
      refine wk_aload_nS X dL_law_2067 1 rfl ?_
      refine wk_iload X dL_law_2068 5 rfl ?_
      refine wk_iconst X dL_law_2070 ic_2 ?_
      refine wk_iadd X dL_law_2071 ?_
      refine wk_sld X HX.1 dL_law_2072 hf (fun v209 hf => ?_)
      refine wk_aload_nS X dL_law_2073 1 rfl ?_
      refine wk_iload X dL_law_2074 5 rfl ?_
      refine wk_iconst X dL_law_2076 ic_3 ?_
      refine wk_iadd X dL_law_2077 ?_
      refine wk_sld X HX.1 dL_law_2078 hf (fun v210 hf => ?_)
      refine wl_callVi X [.int v208, .int v209, .int v210] [] dL_law_2079 rfl vo_L_242 rfl (by decide) (Nat.le_of_ble_eq_true rfl) ⟨by omega, by omega⟩ hf (c_X11_reviews l _ _ _ _ _) (fun r211 hf => ?_)
      refine wk_istore (lv' := [(6, .int r211.1), (5, .int r207.1), (0, .float 97), (1, .ref x1), (2, .ref x2), (3, .ref x3), (4, .int x4)]) X dL_law_2082 (by decide) rfl ?_
      refine wk_aload_n X dL_law_2084 4 rfl ?_
      refine wl_callVi X [] [] dL_law_2085 rfl vo_L_141 rfl (by decide) (Nat.le_of_ble_eq_true rfl) ⟨by omega, by omega⟩ hf (c_X11_thrown l _ _) (fun r212 hf => ?_)
      refine wk_iload X dL_law_2088 1 rfl ?_
      refine wk_icmp_eq X 2095 dL_law_2090 (by decide) hf (fun hf => ?_) (fun hf => ?_)
      · refine wk_iload X dL_law_2095 1 rfl ?_
        refine wk_if_ne X 2112 dL_law_2097 (by decide) hf (fun hf => ?_) (fun hf => ?_)
        · exact wq_sub [2, 3, 4, 5, 6] rfl (w_L_law_2112 (n := n) ⟨by omega, by omega⟩ X HX k23 hk23 _ _ _ _ _ hf)
        · refine wk_aload_n X dL_law_2100 5 rfl ?_
          refine wk_iconst X dL_law_2101 ic_0 ?_
          refine wk_lald X dL_law_2102 hf (fun v213 hf => ?_)
          refine wk_iload X dL_law_2103 0 rfl ?_
          refine wk_i2l X dL_law_2105 ?_
          refine wk_lcmp X dL_law_2106 ?_
          refine wk_if_eq X 2112 dL_law_2107 (by decide) hf (fun hf => ?_) (fun hf => ?_)
          · exact wq_sub [2, 3, 4, 5, 6] rfl (w_L_law_2112 (n := n) ⟨by omega, by omega⟩ X HX k23 hk23 _ _ _ _ _ hf)
          · refine wk_iconst X dL_law_2110 ic_0 ?_
            exact nomatch hf
      · refine wk_iconst X dL_law_2093 ic_0 ?_
        exact nomatch hf
    refine wk_ts_in X 2115 32 dL_law_40 (by decide) (by decide) (by decide) rfl (by decide) hf (fun hf => ?_) (fun n32 hf => ?_)
    · refine wk_aload_n X dL_law_2115 1 rfl ?_
      refine wk_aload_nS X dL_law_2116 0 rfl ?_
      refine wk_iload X dL_law_2117 4 rfl ?_
      refine wk_iconst X dL_law_2119 ic_1 ?_
      refine wk_iadd X dL_law_2120 ?_
      refine wk_sld X HX.1 dL_law_2121 hf (fun v214 hf => ?_)
      refine wk_aload_n X dL_law_2122 3 rfl ?_
      refine wl_callH X [.ref x1, .int v214, .ref x3] [] dL_law_2123 rfl so_L_243 rfl (by decide) (Nat.le_of_ble_eq_true rfl) ⟨by omega, by omega⟩ hf (ce_L_nextTo l hl _ _ _ _) (c_L_nextTo l _ _ _ _) (fun r215 hf => ?_)
      refine wk_istore (lv' := [(5, .int r215.1), (0, .float 97), (1, .ref x1), (2, .ref x2), (3, .ref x3), (4, .int x4)]) X dL_law_2126 (by decide) rfl ?_
      refine wk_aload_n X dL_law_2128 3 rfl ?_
      refine wk_aload_nS X dL_law_2129 1 rfl ?_
      refine wk_iload X dL_law_2130 5 rfl ?_
      refine wk_iconst X dL_law_2132 ic_1 ?_
      refine wk_iadd X dL_law_2133 ?_
      refine wk_sld X HX.1 dL_law_2134 hf (fun v216 hf => ?_)
      refine wl_callVi X [.int v216] [] dL_law_2135 rfl vo_L_245 rfl (by decide) (Nat.le_of_ble_eq_true rfl) ⟨by omega, by omega⟩ hf (c_X11_nextTo l _ _ _) (fun r217 hf => ?_)
      refine wk_istore (lv' := [(6, .int r217.1), (5, .int r215.1), (0, .float 97), (1, .ref x1), (2, .ref x2), (3, .ref x3), (4, .int x4)]) X dL_law_2138 (by decide) rfl ?_
      refine wk_aload_n X dL_law_2140 4 rfl ?_
      refine wl_callVi X [] [] dL_law_2141 rfl vo_L_141 rfl (by decide) (Nat.le_of_ble_eq_true rfl) ⟨by omega, by omega⟩ hf (c_X11_thrown l _ _) (fun r218 hf => ?_)
      refine wk_iload X dL_law_2144 1 rfl ?_
      refine wk_icmp_eq X 2151 dL_law_2146 (by decide) hf (fun hf => ?_) (fun hf => ?_)
      · refine wk_iload X dL_law_2151 1 rfl ?_
        refine wk_if_ne X 2168 dL_law_2153 (by decide) hf (fun hf => ?_) (fun hf => ?_)
        · exact wq_sub [2, 3, 4, 5, 6] rfl (w_L_law_2168 (n := n) ⟨by omega, by omega⟩ X HX k23 hk23 _ _ _ _ _ hf)
        · refine wk_aload_n X dL_law_2156 5 rfl ?_
          refine wk_iconst X dL_law_2157 ic_0 ?_
          refine wk_lald X dL_law_2158 hf (fun v219 hf => ?_)
          refine wk_iload X dL_law_2159 0 rfl ?_
          refine wk_i2l X dL_law_2161 ?_
          refine wk_lcmp X dL_law_2162 ?_
          refine wk_if_eq X 2168 dL_law_2163 (by decide) hf (fun hf => ?_) (fun hf => ?_)
          · exact wq_sub [2, 3, 4, 5, 6] rfl (w_L_law_2168 (n := n) ⟨by omega, by omega⟩ X HX k23 hk23 _ _ _ _ _ hf)
          · refine wk_iconst X dL_law_2166 ic_0 ?_
            exact nomatch hf
      · refine wk_iconst X dL_law_2149 ic_0 ?_
        exact nomatch hf
    refine wk_ts_in X 2171 33 dL_law_40 (by decide) (by decide) (by decide) rfl (by decide) hf (fun hf => ?_) (fun n33 hf => ?_)
    · refine wk_aload_n X dL_law_2171 1 rfl ?_
      refine wk_aload_nS X dL_law_2172 0 rfl ?_
      refine wk_iload X dL_law_2173 4 rfl ?_
      refine wk_iconst X dL_law_2175 ic_1 ?_
      refine wk_iadd X dL_law_2176 ?_
      refine wk_sld X HX.1 dL_law_2177 hf (fun v220 hf => ?_)
      refine wk_aload_n X dL_law_2178 3 rfl ?_
      refine wl_callH X [.ref x1, .int v220, .ref x3] [] dL_law_2179 rfl so_L_246 rfl (by decide) (Nat.le_of_ble_eq_true rfl) ⟨by omega, by omega⟩ hf (ce_L_alike l hl _ _ _ _) (c_L_alike l _ _ _ _) (fun r221 hf => ?_)
      refine wk_istore (lv' := [(5, .int r221.1), (0, .float 97), (1, .ref x1), (2, .ref x2), (3, .ref x3), (4, .int x4)]) X dL_law_2182 (by decide) rfl ?_
      refine wk_aload_n X dL_law_2184 3 rfl ?_
      refine wk_aload_nS X dL_law_2185 1 rfl ?_
      refine wk_iload X dL_law_2186 5 rfl ?_
      refine wk_iconst X dL_law_2188 ic_1 ?_
      refine wk_iadd X dL_law_2189 ?_
      refine wk_sld X HX.1 dL_law_2190 hf (fun v222 hf => ?_)
      refine wl_callVi X [.int v222] [] dL_law_2191 rfl vo_L_248 rfl (by decide) (Nat.le_of_ble_eq_true rfl) ⟨by omega, by omega⟩ hf (c_X11_alike l _ _ _) (fun r223 hf => ?_)
      refine wk_istore (lv' := [(6, .int r223.1), (5, .int r221.1), (0, .float 97), (1, .ref x1), (2, .ref x2), (3, .ref x3), (4, .int x4)]) X dL_law_2194 (by decide) rfl ?_
      refine wk_aload_n X dL_law_2196 4 rfl ?_
      refine wl_callVi X [] [] dL_law_2197 rfl vo_L_141 rfl (by decide) (Nat.le_of_ble_eq_true rfl) ⟨by omega, by omega⟩ hf (c_X11_thrown l _ _) (fun r224 hf => ?_)
      refine wk_iload X dL_law_2200 1 rfl ?_
      refine wk_icmp_eq X 2207 dL_law_2202 (by decide) hf (fun hf => ?_) (fun hf => ?_)
      · refine wk_iload X dL_law_2207 1 rfl ?_
        refine wk_if_ne X 2224 dL_law_2209 (by decide) hf (fun hf => ?_) (fun hf => ?_)
        · exact wq_sub [2, 3, 4, 5, 6] rfl (w_L_law_2224 (n := n) ⟨by omega, by omega⟩ X HX k23 hk23 _ _ _ _ _ hf)
        · refine wk_aload_n X dL_law_2212 5 rfl ?_
          refine wk_iconst X dL_law_2213 ic_0 ?_
          refine wk_lald X dL_law_2214 hf (fun v225 hf => ?_)
          refine wk_iload X dL_law_2215 0 rfl ?_
          refine wk_i2l X dL_law_2217 ?_
          refine wk_lcmp X dL_law_2218 ?_
          refine wk_if_eq X 2224 dL_law_2219 (by decide) hf (fun hf => ?_) (fun hf => ?_)
          · exact wq_sub [2, 3, 4, 5, 6] rfl (w_L_law_2224 (n := n) ⟨by omega, by omega⟩ X HX k23 hk23 _ _ _ _ _ hf)
          · refine wk_iconst X dL_law_2222 ic_0 ?_
            exact nomatch hf
      · refine wk_iconst X dL_law_2205 ic_0 ?_
        exact nomatch hf
    refine wk_ts_in X 2227 34 dL_law_40 (by decide) (by decide) (by decide) rfl (by decide) hf (fun hf => ?_) (fun n34 hf => ?_)
    · refine wk_aload_n X dL_law_2227 1 rfl ?_
      refine wk_aload_nS X dL_law_2228 0 rfl ?_
      refine wk_iload X dL_law_2229 4 rfl ?_
      refine wk_iconst X dL_law_2231 ic_1 ?_
      refine wk_iadd X dL_law_2232 ?_
      refine wk_sld X HX.1 dL_law_2233 hf (fun v226 hf => ?_)
      refine wk_aload_n X dL_law_2234 3 rfl ?_
      refine wl_callH X [.ref x1, .int v226, .ref x3] [] dL_law_2235 rfl so_L_249 rfl (by decide) (Nat.le_of_ble_eq_true rfl) ⟨by omega, by omega⟩ hf (ce_L_lost l hl _ _ _ _) (c_L_lost l _ _ _ _) (fun r227 hf => ?_)
      refine wk_istore (lv' := [(5, .int r227.1), (0, .float 97), (1, .ref x1), (2, .ref x2), (3, .ref x3), (4, .int x4)]) X dL_law_2238 (by decide) rfl ?_
      refine wk_aload_n X dL_law_2240 3 rfl ?_
      refine wk_aload_nS X dL_law_2241 1 rfl ?_
      refine wk_iload X dL_law_2242 5 rfl ?_
      refine wk_iconst X dL_law_2244 ic_1 ?_
      refine wk_iadd X dL_law_2245 ?_
      refine wk_sld X HX.1 dL_law_2246 hf (fun v228 hf => ?_)
      refine wl_callVi X [.int v228] [] dL_law_2247 rfl vo_L_251 rfl (by decide) (Nat.le_of_ble_eq_true rfl) ⟨by omega, by omega⟩ hf (c_X11_lost l _ _ _) (fun r229 hf => ?_)
      refine wk_istore (lv' := [(6, .int r229.1), (5, .int r227.1), (0, .float 97), (1, .ref x1), (2, .ref x2), (3, .ref x3), (4, .int x4)]) X dL_law_2250 (by decide) rfl ?_
      refine wk_aload_n X dL_law_2252 4 rfl ?_
      refine wl_callVi X [] [] dL_law_2253 rfl vo_L_141 rfl (by decide) (Nat.le_of_ble_eq_true rfl) ⟨by omega, by omega⟩ hf (c_X11_thrown l _ _) (fun r230 hf => ?_)
      refine wk_iload X dL_law_2256 1 rfl ?_
      refine wk_icmp_eq X 2263 dL_law_2258 (by decide) hf (fun hf => ?_) (fun hf => ?_)
      · refine wk_iload X dL_law_2263 1 rfl ?_
        refine wk_if_ne X 2280 dL_law_2265 (by decide) hf (fun hf => ?_) (fun hf => ?_)
        · exact wq_sub [2, 3, 4, 5, 6] rfl (w_L_law_2280 (n := n) ⟨by omega, by omega⟩ X HX k23 hk23 _ _ _ _ _ hf)
        · refine wk_aload_n X dL_law_2268 5 rfl ?_
          refine wk_iconst X dL_law_2269 ic_0 ?_
          refine wk_lald X dL_law_2270 hf (fun v231 hf => ?_)
          refine wk_iload X dL_law_2271 0 rfl ?_
          refine wk_i2l X dL_law_2273 ?_
          refine wk_lcmp X dL_law_2274 ?_
          refine wk_if_eq X 2280 dL_law_2275 (by decide) hf (fun hf => ?_) (fun hf => ?_)
          · exact wq_sub [2, 3, 4, 5, 6] rfl (w_L_law_2280 (n := n) ⟨by omega, by omega⟩ X HX k23 hk23 _ _ _ _ _ hf)
          · refine wk_iconst X dL_law_2278 ic_0 ?_
            exact nomatch hf
      · refine wk_iconst X dL_law_2261 ic_0 ?_
        exact nomatch hf
    refine wk_ts_in X 2283 35 dL_law_40 (by decide) (by decide) (by decide) rfl (by decide) hf (fun hf => ?_) (fun n35 hf => ?_)
    · refine wk_aload_n X dL_law_2283 1 rfl ?_
      refine wk_aload_nS X dL_law_2284 0 rfl ?_
      refine wk_iload X dL_law_2285 4 rfl ?_
      refine wk_iconst X dL_law_2287 ic_1 ?_
      refine wk_iadd X dL_law_2288 ?_
      refine wk_sld X HX.1 dL_law_2289 hf (fun v232 hf => ?_)
      refine wk_aload_n X dL_law_2290 3 rfl ?_
      refine wl_callH X [.ref x1, .int v232, .ref x3] [] dL_law_2291 rfl so_L_252 rfl (by decide) (Nat.le_of_ble_eq_true rfl) ⟨by omega, by omega⟩ hf (ce_L_mates l hl _ _ _ _) (c_L_mates l _ _ _ _) (fun r233 hf => ?_)
      refine wk_istore (lv' := [(5, .int r233.1), (0, .float 97), (1, .ref x1), (2, .ref x2), (3, .ref x3), (4, .int x4)]) X dL_law_2294 (by decide) rfl ?_
      refine wk_aload_n X dL_law_2296 3 rfl ?_
      refine wk_aload_nS X dL_law_2297 1 rfl ?_
      refine wk_iload X dL_law_2298 5 rfl ?_
      refine wk_iconst X dL_law_2300 ic_1 ?_
      refine wk_iadd X dL_law_2301 ?_
      refine wk_sld X HX.1 dL_law_2302 hf (fun v234 hf => ?_)
      refine wl_callVi X [.int v234] [] dL_law_2303 rfl vo_L_254 rfl (by decide) (Nat.le_of_ble_eq_true rfl) ⟨by omega, by omega⟩ hf (c_X11_mates l _ _ _) (fun r235 hf => ?_)
      refine wk_istore (lv' := [(6, .int r235.1), (5, .int r233.1), (0, .float 97), (1, .ref x1), (2, .ref x2), (3, .ref x3), (4, .int x4)]) X dL_law_2306 (by decide) rfl ?_
      refine wk_aload_n X dL_law_2308 4 rfl ?_
      refine wl_callVi X [] [] dL_law_2309 rfl vo_L_141 rfl (by decide) (Nat.le_of_ble_eq_true rfl) ⟨by omega, by omega⟩ hf (c_X11_thrown l _ _) (fun r236 hf => ?_)
      refine wk_iload X dL_law_2312 1 rfl ?_
      refine wk_icmp_eq X 2319 dL_law_2314 (by decide) hf (fun hf => ?_) (fun hf => ?_)
      · refine wk_iload X dL_law_2319 1 rfl ?_
        refine wk_if_ne X 2336 dL_law_2321 (by decide) hf (fun hf => ?_) (fun hf => ?_)
        · exact wq_sub [2, 3, 4, 5, 6] rfl (w_L_law_2336 (n := n) ⟨by omega, by omega⟩ X HX k23 hk23 _ _ _ _ _ hf)
        · refine wk_aload_n X dL_law_2324 5 rfl ?_
          refine wk_iconst X dL_law_2325 ic_0 ?_
          refine wk_lald X dL_law_2326 hf (fun v237 hf => ?_)
          refine wk_iload X dL_law_2327 0 rfl ?_
          refine wk_i2l X dL_law_2329 ?_
          refine wk_lcmp X dL_law_2330 ?_
          refine wk_if_eq X 2336 dL_law_2331 (by decide) hf (fun hf => ?_) (fun hf => ?_)
          · exact wq_sub [2, 3, 4, 5, 6] rfl (w_L_law_2336 (n := n) ⟨by omega, by omega⟩ X HX k23 hk23 _ _ _ _ _ hf)
          · refine wk_iconst X dL_law_2334 ic_0 ?_
            exact nomatch hf
      · refine wk_iconst X dL_law_2317 ic_0 ?_
        exact nomatch hf
    refine wk_ts_in X 2339 36 dL_law_40 (by decide) (by decide) (by decide) rfl (by decide) hf (fun hf => ?_) (fun n36 hf => ?_)
    · refine wk_aload_n X dL_law_2339 1 rfl ?_
      refine wl_callVi X [] [] dL_law_2340 rfl vo_L_255 rfl (by decide) (Nat.le_of_ble_eq_true rfl) ⟨by omega, by omega⟩ hf (c_X10_step l _ _) (fun r238 hf => ?_)
      refine wk_aload_n X dL_law_2343 2 rfl ?_
      refine wl_callVi X [] [.int r238.1] dL_law_2344 rfl vo_L_258 rfl (by decide) (Nat.le_of_ble_eq_true rfl) ⟨by omega, by omega⟩ hf (c_X11_step l _ _) (fun r239 hf => ?_)
      refine wk_icmp_eq X 2799 dL_law_2347 (by decide) hf (fun hf => ?_) (fun hf => ?_)
      · exact wq_sub [0, 1, 2, 3, 4] rfl (w_L_law_2799 (n := n) ⟨by omega, by omega⟩ X HX k23 hk23 _ _ _ _ _ hf)
      · refine wk_iconst X dL_law_2350 ic_0 ?_
        exact nomatch hf
    refine wk_ts_in X 2352 37 dL_law_40 (by decide) (by decide) (by decide) rfl (by decide) hf (fun hf => ?_) (fun n37 hf => ?_)
    · refine wk_aload_n X dL_law_2352 1 rfl ?_
      refine wk_aload_nS X dL_law_2353 0 rfl ?_
      refine wk_iload X dL_law_2354 4 rfl ?_
      refine wk_iconst X dL_law_2356 ic_1 ?_
      refine wk_iadd X dL_law_2357 ?_
      refine wk_sld X HX.1 dL_law_2358 hf (fun v240 hf => ?_)
      refine wk_aload_nS X dL_law_2359 0 rfl ?_
      refine wk_iload X dL_law_2360 4 rfl ?_
      refine wk_iconst X dL_law_2362 ic_2 ?_
      refine wk_iadd X dL_law_2363 ?_
      refine wk_sld X HX.1 dL_law_2364 hf (fun v241 hf => ?_)
      refine wk_aload_nS X dL_law_2365 0 rfl ?_
      refine wk_iload X dL_law_2366 4 rfl ?_
      refine wk_iconst X dL_law_2368 ic_3 ?_
      refine wk_iadd X dL_law_2369 ?_
      refine wk_sld X HX.1 dL_law_2370 hf (fun v242 hf => ?_)
      refine wk_aload_n X dL_law_2371 3 rfl ?_
      refine wl_callH X [.ref x1, .int v240, .int v241, .int v242, .ref x3] [] dL_law_2372 rfl so_L_259 rfl (by decide) (Nat.le_of_ble_eq_true rfl) ⟨by omega, by omega⟩ hf (ce_L_chain l hl _ _ _ _ _ _) (c_L_chain l _ _ _ _ _ _) (fun r243 hf => ?_)
      refine wk_istore (lv' := [(5, .int r243.1), (0, .float 97), (1, .ref x1), (2, .ref x2), (3, .ref x3), (4, .int x4)]) X dL_law_2375 (by decide) rfl ?_
      refine wk_aload_n X dL_law_2377 3 rfl ?_
      refine wk_aload_nS X dL_law_2378 1 rfl ?_
      refine wk_iload X dL_law_2379 5 rfl ?_
      refine wk_iconst X dL_law_2381 ic_1 ?_
      refine wk_iadd X dL_law_2382 ?_
      refine wk_sld X HX.1 dL_law_2383 hf (fun v244 hf => ?_)
      refine wk_aload_nS X dL_law_2384 1 rfl ?_
      refine wk_iload X dL_law_2385 5 rfl ?_
      refine wk_iconst X dL_law_2387 ic_2 ?_
      refine wk_iadd X dL_law_2388 ?_
      refine wk_sld X HX.1 dL_law_2389 hf (fun v245 hf => ?_)
      refine wk_aload_nS X dL_law_2390 1 rfl ?_
      refine wk_iload X dL_law_2391 5 rfl ?_
      refine wk_iconst X dL_law_2393 ic_3 ?_
      refine wk_iadd X dL_law_2394 ?_
      refine wk_sld X HX.1 dL_law_2395 hf (fun v246 hf => ?_)
      refine wl_callVi X [.int v244, .int v245, .int v246] [] dL_law_2396 rfl vo_L_261 rfl (by decide) (Nat.le_of_ble_eq_true rfl) ⟨by omega, by omega⟩ hf (c_X11_chain l _ _ _ _ _) (fun r247 hf => ?_)
      refine wk_istore (lv' := [(6, .int r247.1), (5, .int r243.1), (0, .float 97), (1, .ref x1), (2, .ref x2), (3, .ref x3), (4, .int x4)]) X dL_law_2399 (by decide) rfl ?_
      refine wk_aload_n X dL_law_2401 4 rfl ?_
      refine wl_callVi X [] [] dL_law_2402 rfl vo_L_141 rfl (by decide) (Nat.le_of_ble_eq_true rfl) ⟨by omega, by omega⟩ hf (c_X11_thrown l _ _) (fun r248 hf => ?_)
      refine wk_iload X dL_law_2405 1 rfl ?_
      refine wk_icmp_eq X 2412 dL_law_2407 (by decide) hf (fun hf => ?_) (fun hf => ?_)
      · refine wk_iload X dL_law_2412 1 rfl ?_
        refine wk_if_ne X 2429 dL_law_2414 (by decide) hf (fun hf => ?_) (fun hf => ?_)
        · exact wq_sub [2, 3, 4, 5, 6] rfl (w_L_law_2429 (n := n) ⟨by omega, by omega⟩ X HX k23 hk23 _ _ _ _ _ hf)
        · refine wk_aload_n X dL_law_2417 5 rfl ?_
          refine wk_iconst X dL_law_2418 ic_0 ?_
          refine wk_lald X dL_law_2419 hf (fun v249 hf => ?_)
          refine wk_iload X dL_law_2420 0 rfl ?_
          refine wk_i2l X dL_law_2422 ?_
          refine wk_lcmp X dL_law_2423 ?_
          refine wk_if_eq X 2429 dL_law_2424 (by decide) hf (fun hf => ?_) (fun hf => ?_)
          · exact wq_sub [2, 3, 4, 5, 6] rfl (w_L_law_2429 (n := n) ⟨by omega, by omega⟩ X HX k23 hk23 _ _ _ _ _ hf)
          · refine wk_iconst X dL_law_2427 ic_0 ?_
            exact nomatch hf
      · refine wk_iconst X dL_law_2410 ic_0 ?_
        exact nomatch hf
    refine wk_ts_in X 2432 38 dL_law_40 (by decide) (by decide) (by decide) rfl (by decide) hf (fun hf => ?_) (fun n38 hf => ?_)
    · refine wk_aload_n X dL_law_2432 1 rfl ?_
      refine wk_aload_nS X dL_law_2433 0 rfl ?_
      refine wk_iload X dL_law_2434 4 rfl ?_
      refine wk_iconst X dL_law_2436 ic_1 ?_
      refine wk_iadd X dL_law_2437 ?_
      refine wk_sld X HX.1 dL_law_2438 hf (fun v250 hf => ?_)
      refine wk_aload_n X dL_law_2439 3 rfl ?_
      refine wl_callH X [.ref x1, .int v250, .ref x3] [] dL_law_2440 rfl so_L_262 rfl (by decide) (Nat.le_of_ble_eq_true rfl) ⟨by omega, by omega⟩ hf (ce_L_most l hl _ _ _ _) (c_L_most l _ _ _ _) (fun r251 hf => ?_)
      refine wk_istore (lv' := [(5, .int r251.1), (0, .float 97), (1, .ref x1), (2, .ref x2), (3, .ref x3), (4, .int x4)]) X dL_law_2443 (by decide) rfl ?_
      refine wk_aload_n X dL_law_2445 3 rfl ?_
      refine wk_aload_nS X dL_law_2446 1 rfl ?_
      refine wk_iload X dL_law_2447 5 rfl ?_
      refine wk_iconst X dL_law_2449 ic_1 ?_
      refine wk_iadd X dL_law_2450 ?_
      refine wk_sld X HX.1 dL_law_2451 hf (fun v252 hf => ?_)
      refine wl_callVi X [.int v252] [] dL_law_2452 rfl vo_L_264 rfl (by decide) (Nat.le_of_ble_eq_true rfl) ⟨by omega, by omega⟩ hf (c_X11_most l _ _ _) (fun r253 hf => ?_)
      refine wk_istore (lv' := [(6, .int r253.1), (5, .int r251.1), (0, .float 97), (1, .ref x1), (2, .ref x2), (3, .ref x3), (4, .int x4)]) X dL_law_2455 (by decide) rfl ?_
      refine wk_aload_n X dL_law_2457 4 rfl ?_
      refine wl_callVi X [] [] dL_law_2458 rfl vo_L_141 rfl (by decide) (Nat.le_of_ble_eq_true rfl) ⟨by omega, by omega⟩ hf (c_X11_thrown l _ _) (fun r254 hf => ?_)
      refine wk_iload X dL_law_2461 1 rfl ?_
      refine wk_icmp_eq X 2468 dL_law_2463 (by decide) hf (fun hf => ?_) (fun hf => ?_)
      · refine wk_iload X dL_law_2468 1 rfl ?_
        refine wk_if_ne X 2485 dL_law_2470 (by decide) hf (fun hf => ?_) (fun hf => ?_)
        · exact wq_sub [2, 3, 4, 5, 6] rfl (w_L_law_2485 (n := n) ⟨by omega, by omega⟩ X HX k23 hk23 _ _ _ _ _ hf)
        · refine wk_aload_n X dL_law_2473 5 rfl ?_
          refine wk_iconst X dL_law_2474 ic_0 ?_
          refine wk_lald X dL_law_2475 hf (fun v255 hf => ?_)
          refine wk_iload X dL_law_2476 0 rfl ?_
          refine wk_i2l X dL_law_2478 ?_
          refine wk_lcmp X dL_law_2479 ?_
          refine wk_if_eq X 2485 dL_law_2480 (by decide) hf (fun hf => ?_) (fun hf => ?_)
          · exact wq_sub [2, 3, 4, 5, 6] rfl (w_L_law_2485 (n := n) ⟨by omega, by omega⟩ X HX k23 hk23 _ _ _ _ _ hf)
          · refine wk_iconst X dL_law_2483 ic_0 ?_
            exact nomatch hf
      · refine wk_iconst X dL_law_2466 ic_0 ?_
        exact nomatch hf
    refine wk_ts_in X 2488 39 dL_law_40 (by decide) (by decide) (by decide) rfl (by decide) hf (fun hf => ?_) (fun n39 hf => ?_)
    · refine wk_aload_n X dL_law_2488 1 rfl ?_
      refine wk_aload_nS X dL_law_2489 0 rfl ?_
      refine wk_iload X dL_law_2490 4 rfl ?_
      refine wk_iconst X dL_law_2492 ic_1 ?_
      refine wk_iadd X dL_law_2493 ?_
      refine wk_sld X HX.1 dL_law_2494 hf (fun v256 hf => ?_)
      refine wk_aload_nS X dL_law_2495 0 rfl ?_
      refine wk_iload X dL_law_2496 4 rfl ?_
      refine wk_iconst X dL_law_2498 ic_2 ?_
      refine wk_iadd X dL_law_2499 ?_
      refine wk_sld X HX.1 dL_law_2500 hf (fun v257 hf => ?_)
      refine wk_aload_n X dL_law_2501 3 rfl ?_
      refine wl_callH X [.ref x1, .int v256, .int v257, .ref x3] [] dL_law_2502 rfl so_L_265 rfl (by decide) (Nat.le_of_ble_eq_true rfl) ⟨by omega, by omega⟩ hf (ce_L_often l hl _ _ _ _ _) (c_L_often l _ _ _ _ _) (fun r258 hf => ?_)
      refine wk_istore (lv' := [(5, .int r258.1), (0, .float 97), (1, .ref x1), (2, .ref x2), (3, .ref x3), (4, .int x4)]) X dL_law_2505 (by decide) rfl ?_
      refine wk_aload_n X dL_law_2507 3 rfl ?_
      refine wk_aload_nS X dL_law_2508 1 rfl ?_
      refine wk_iload X dL_law_2509 5 rfl ?_
      refine wk_iconst X dL_law_2511 ic_1 ?_
      refine wk_iadd X dL_law_2512 ?_
      refine wk_sld X HX.1 dL_law_2513 hf (fun v259 hf => ?_)
      refine wk_aload_nS X dL_law_2514 1 rfl ?_
      refine wk_iload X dL_law_2515 5 rfl ?_
      refine wk_iconst X dL_law_2517 ic_2 ?_
      refine wk_iadd X dL_law_2518 ?_
      refine wk_sld X HX.1 dL_law_2519 hf (fun v260 hf => ?_)
      refine wl_callVi X [.int v259, .int v260] [] dL_law_2520 rfl vo_L_267 rfl (by decide) (Nat.le_of_ble_eq_true rfl) ⟨by omega, by omega⟩ hf (c_X11_often l _ _ _ _) (fun r261 hf => ?_)
      refine wk_istore (lv' := [(6, .int r261.1), (5, .int r258.1), (0, .float 97), (1, .ref x1), (2, .ref x2), (3, .ref x3), (4, .int x4)]) X dL_law_2523 (by decide) rfl ?_
      refine wk_aload_n X dL_law_2525 4 rfl ?_
      refine wl_callVi X [] [] dL_law_2526 rfl vo_L_141 rfl (by decide) (Nat.le_of_ble_eq_true rfl) ⟨by omega, by omega⟩ hf (c_X11_thrown l _ _) (fun r262 hf => ?_)
      refine wk_iload X dL_law_2529 1 rfl ?_
      refine wk_icmp_eq X 2536 dL_law_2531 (by decide) hf (fun hf => ?_) (fun hf => ?_)
      · refine wk_iload X dL_law_2536 1 rfl ?_
        refine wk_if_ne X 2553 dL_law_2538 (by decide) hf (fun hf => ?_) (fun hf => ?_)
        · exact wq_sub [2, 3, 4, 5, 6] rfl (w_L_law_2553 (n := n) ⟨by omega, by omega⟩ X HX k23 hk23 _ _ _ _ _ hf)
        · refine wk_aload_n X dL_law_2541 5 rfl ?_
          refine wk_iconst X dL_law_2542 ic_0 ?_
          refine wk_lald X dL_law_2543 hf (fun v263 hf => ?_)
          refine wk_iload X dL_law_2544 0 rfl ?_
          refine wk_i2l X dL_law_2546 ?_
          refine wk_lcmp X dL_law_2547 ?_
          refine wk_if_eq X 2553 dL_law_2548 (by decide) hf (fun hf => ?_) (fun hf => ?_)
          · exact wq_sub [2, 3, 4, 5, 6] rfl (w_L_law_2553 (n := n) ⟨by omega, by omega⟩ X HX k23 hk23 _ _ _ _ _ hf)
          · refine wk_iconst X dL_law_2551 ic_0 ?_
            exact nomatch hf
      · refine wk_iconst X dL_law_2534 ic_0 ?_
        exact nomatch hf
    refine wk_ts_in X 2556 40 dL_law_40 (by decide) (by decide) (by decide) rfl (by decide) hf (fun hf => ?_) (fun n40 hf => ?_)
    · refine wk_aload_n X dL_law_2556 1 rfl ?_
      refine wk_aload_nS X dL_law_2557 0 rfl ?_
      refine wk_iload X dL_law_2558 4 rfl ?_
      refine wk_iconst X dL_law_2560 ic_1 ?_
      refine wk_iadd X dL_law_2561 ?_
      refine wk_sld X HX.1 dL_law_2562 hf (fun v264 hf => ?_)
      refine wk_aload_n X dL_law_2563 3 rfl ?_
      refine wl_callH X [.ref x1, .int v264, .ref x3] [] dL_law_2564 rfl so_L_268 rfl (by decide) (Nat.le_of_ble_eq_true rfl) ⟨by omega, by omega⟩ hf (ce_L_spoilt l hl _ _ _ _) (c_L_spoilt l _ _ _ _) (fun r265 hf => ?_)
      refine wk_istore (lv' := [(5, .int r265.1), (0, .float 97), (1, .ref x1), (2, .ref x2), (3, .ref x3), (4, .int x4)]) X dL_law_2567 (by decide) rfl ?_
      refine wk_aload_n X dL_law_2569 3 rfl ?_
      refine wk_aload_nS X dL_law_2570 1 rfl ?_
      refine wk_iload X dL_law_2571 5 rfl ?_
      refine wk_iconst X dL_law_2573 ic_1 ?_
      refine wk_iadd X dL_law_2574 ?_
      refine wk_sld X HX.1 dL_law_2575 hf (fun v266 hf => ?_)
      refine wl_callVi X [.int v266] [] dL_law_2576 rfl vo_L_270 rfl (by decide) (Nat.le_of_ble_eq_true rfl) ⟨by omega, by omega⟩ hf (c_X11_spoilt l _ _ _) (fun r267 hf => ?_)
      refine wk_istore (lv' := [(6, .int r267.1), (5, .int r265.1), (0, .float 97), (1, .ref x1), (2, .ref x2), (3, .ref x3), (4, .int x4)]) X dL_law_2579 (by decide) rfl ?_
      refine wk_aload_n X dL_law_2581 4 rfl ?_
      refine wl_callVi X [] [] dL_law_2582 rfl vo_L_141 rfl (by decide) (Nat.le_of_ble_eq_true rfl) ⟨by omega, by omega⟩ hf (c_X11_thrown l _ _) (fun r268 hf => ?_)
      refine wk_iload X dL_law_2585 1 rfl ?_
      refine wk_icmp_eq X 2592 dL_law_2587 (by decide) hf (fun hf => ?_) (fun hf => ?_)
      · refine wk_iload X dL_law_2592 1 rfl ?_
        refine wk_if_ne X 2609 dL_law_2594 (by decide) hf (fun hf => ?_) (fun hf => ?_)
        · exact wq_sub [2, 3, 4, 5, 6] rfl (w_L_law_2609 (n := n) ⟨by omega, by omega⟩ X HX k23 hk23 _ _ _ _ _ hf)
        · refine wk_aload_n X dL_law_2597 5 rfl ?_
          refine wk_iconst X dL_law_2598 ic_0 ?_
          refine wk_lald X dL_law_2599 hf (fun v269 hf => ?_)
          refine wk_iload X dL_law_2600 0 rfl ?_
          refine wk_i2l X dL_law_2602 ?_
          refine wk_lcmp X dL_law_2603 ?_
          refine wk_if_eq X 2609 dL_law_2604 (by decide) hf (fun hf => ?_) (fun hf => ?_)
          · exact wq_sub [2, 3, 4, 5, 6] rfl (w_L_law_2609 (n := n) ⟨by omega, by omega⟩ X HX k23 hk23 _ _ _ _ _ hf)
          · refine wk_iconst X dL_law_2607 ic_0 ?_
            exact nomatch hf
      · refine wk_iconst X dL_law_2590 ic_0 ?_
        exact nomatch hf
    refine wk_ts_in X 2612 41 dL_law_40 (by decide) (by decide) (by decide) rfl (by decide) hf (fun hf => ?_) (fun n41 hf => ?_)
    · refine wk_aload_n X dL_law_2612 1 rfl ?_
      refine wk_aload_nS X dL_law_2613 0 rfl ?_
      refine wk_iload X dL_law_2614 4 rfl ?_
      refine wk_iconst X dL_law_2616 ic_1 ?_
      refine wk_iadd X dL_law_2617 ?_
      refine wk_sld X HX.1 dL_law_2618 hf (fun v270 hf => ?_)
      refine wk_aload_nS X dL_law_2619 0 rfl ?_
      refine wk_iload X dL_law_2620 4 rfl ?_
      refine wk_iconst X dL_law_2622 ic_2 ?_
      refine wk_iadd X dL_law_2623 ?_
      refine wk_sld X HX.1 dL_law_2624 hf (fun v271 hf => ?_)
      refine wk_aload_n X dL_law_2625 3 rfl ?_
      refine wl_callH X [.ref x1, .int v270, .int v271, .ref x3] [] dL_law_2626 rfl so_L_271 rfl (by decide) (Nat.le_of_ble_eq_true rfl) ⟨by omega, by omega⟩ hf (ce_L_reform l hl _ _ _ _ _) (c_L_reform l _ _ _ _ _) (fun r272 hf => ?_)
      refine wk_istore (lv' := [(5, .int r272.1), (0, .float 97), (1, .ref x1), (2, .ref x2), (3, .ref x3), (4, .int x4)]) X dL_law_2629 (by decide) rfl ?_
      refine wk_aload_n X dL_law_2631 3 rfl ?_
      refine wk_aload_nS X dL_law_2632 1 rfl ?_
      refine wk_iload X dL_law_2633 5 rfl ?_
      refine wk_iconst X dL_law_2635 ic_1 ?_
      refine wk_iadd X dL_law_2636 ?_
      refine wk_sld X HX.1 dL_law_2637 hf (fun v273 hf => ?_)
      refine wk_aload_nS X dL_law_2638 1 rfl ?_
      refine wk_iload X dL_law_2639 5 rfl ?_
      refine wk_iconst X dL_law_2641 ic_2 ?_
      refine wk_iadd X dL_law_2642 ?_
      refine wk_sld X HX.1 dL_law_2643 hf (fun v274 hf => ?_)
      refine wl_callVi X [.int v273, .int v274] [] dL_law_2644 rfl vo_L_273 rfl (by decide) (Nat.le_of_ble_eq_true rfl) ⟨by omega, by omega⟩ hf (c_X11_reform l _ _ _ _) (fun r275 hf => ?_)
      refine wk_istore (lv' := [(6, .int r275.1), (5, .int r272.1), (0, .float 97), (1, .ref x1), (2, .ref x2), (3, .ref x3), (4, .int x4)]) X dL_law_2647 (by decide) rfl ?_
      refine wk_aload_n X dL_law_2649 4 rfl ?_
      refine wl_callVi X [] [] dL_law_2650 rfl vo_L_141 rfl (by decide) (Nat.le_of_ble_eq_true rfl) ⟨by omega, by omega⟩ hf (c_X11_thrown l _ _) (fun r276 hf => ?_)
      refine wk_iload X dL_law_2653 1 rfl ?_
      refine wk_icmp_eq X 2660 dL_law_2655 (by decide) hf (fun hf => ?_) (fun hf => ?_)
      · refine wk_iload X dL_law_2660 1 rfl ?_
        refine wk_if_ne X 2677 dL_law_2662 (by decide) hf (fun hf => ?_) (fun hf => ?_)
        · exact wq_sub [2, 3, 4, 5, 6] rfl (w_L_law_2677 (n := n) ⟨by omega, by omega⟩ X HX k23 hk23 _ _ _ _ _ hf)
        · refine wk_aload_n X dL_law_2665 5 rfl ?_
          refine wk_iconst X dL_law_2666 ic_0 ?_
          refine wk_lald X dL_law_2667 hf (fun v277 hf => ?_)
          refine wk_iload X dL_law_2668 0 rfl ?_
          refine wk_i2l X dL_law_2670 ?_
          refine wk_lcmp X dL_law_2671 ?_
          refine wk_if_eq X 2677 dL_law_2672 (by decide) hf (fun hf => ?_) (fun hf => ?_)
          · exact wq_sub [2, 3, 4, 5, 6] rfl (w_L_law_2677 (n := n) ⟨by omega, by omega⟩ X HX k23 hk23 _ _ _ _ _ hf)
          · refine wk_iconst X dL_law_2675 ic_0 ?_
            exact nomatch hf
      · refine wk_iconst X dL_law_2658 ic_0 ?_
        exact nomatch hf
    refine wk_ts_in X 2680 42 dL_law_40 (by decide) (by decide) (by decide) rfl (by decide) hf (fun hf => ?_) (fun n42 hf => ?_)
    · refine wk_aload_n X dL_law_2680 1 rfl ?_
      refine wl_callVi X [] [] dL_law_2681 rfl vo_L_274 rfl (by decide) (Nat.le_of_ble_eq_true rfl) ⟨by omega, by omega⟩ hf (c_X10_swap l _ _) (fun r278 hf => ?_)
      refine wk_aload_n X dL_law_2684 2 rfl ?_
      refine wl_callVi X [] [.int r278.1] dL_law_2685 rfl vo_L_277 rfl (by decide) (Nat.le_of_ble_eq_true rfl) ⟨by omega, by omega⟩ hf (c_X11_swap l _ _) (fun r279 hf => ?_)
      refine wk_icmp_eq X 2799 dL_law_2688 (by decide) hf (fun hf => ?_) (fun hf => ?_)
      · exact wq_sub [0, 1, 2, 3, 4] rfl (w_L_law_2799 (n := n) ⟨by omega, by omega⟩ X HX k23 hk23 _ _ _ _ _ hf)
      · refine wk_iconst X dL_law_2691 ic_0 ?_
        exact nomatch hf
    refine wk_ts_in X 2693 43 dL_law_40 (by decide) (by decide) (by decide) rfl (by decide) hf (fun hf => ?_) (fun n43 hf => ?_)
    · refine wk_aload_n X dL_law_2693 1 rfl ?_
      refine wl_callVi X [] [] dL_law_2694 rfl vo_L_278 rfl (by decide) (Nat.le_of_ble_eq_true rfl) ⟨by omega, by omega⟩ hf (c_X10_loudest l _ _) (fun r280 hf => ?_)
      refine wk_aload_n X dL_law_2697 2 rfl ?_
      refine wl_callVi X [] [.int r280.1] dL_law_2698 rfl vo_L_281 rfl (by decide) (Nat.le_of_ble_eq_true rfl) ⟨by omega, by omega⟩ hf (c_X11_loudest l _ _) (fun r281 hf => ?_)
      refine wk_icmp_eq X 2799 dL_law_2701 (by decide) hf (fun hf => ?_) (fun hf => ?_)
      · exact wq_sub [0, 1, 2, 3, 4] rfl (w_L_law_2799 (n := n) ⟨by omega, by omega⟩ X HX k23 hk23 _ _ _ _ _ hf)
      · refine wk_iconst X dL_law_2704 ic_0 ?_
        exact nomatch hf
    refine wk_ts_in X 2706 44 dL_law_40 (by decide) (by decide) (by decide) rfl (by decide) hf (fun hf => ?_) (fun n44 hf => ?_)
    · refine wk_aload_n X dL_law_2706 1 rfl ?_
      refine wk_aload_nS X dL_law_2707 0 rfl ?_
      refine wk_iload X dL_law_2708 4 rfl ?_
      refine wk_iconst X dL_law_2710 ic_1 ?_
      refine wk_iadd X dL_law_2711 ?_
      refine wk_sld X HX.1 dL_law_2712 hf (fun v282 hf => ?_)
      refine wk_aload_n X dL_law_2713 3 rfl ?_
      refine wl_callH X [.ref x1, .int v282, .ref x3] [] dL_law_2714 rfl so_L_282 rfl (by decide) (Nat.le_of_ble_eq_true rfl) ⟨by omega, by omega⟩ hf (ce_L_run l hl _ _ _ _) (c_L_run l _ _ _ _) (fun r283 hf => ?_)
      refine wk_istore (lv' := [(5, .int r283.1), (0, .float 97), (1, .ref x1), (2, .ref x2), (3, .ref x3), (4, .int x4)]) X dL_law_2717 (by decide) rfl ?_
      refine wk_aload_n X dL_law_2719 3 rfl ?_
      refine wk_aload_nS X dL_law_2720 1 rfl ?_
      refine wk_iload X dL_law_2721 5 rfl ?_
      refine wk_iconst X dL_law_2723 ic_1 ?_
      refine wk_iadd X dL_law_2724 ?_
      refine wk_sld X HX.1 dL_law_2725 hf (fun v284 hf => ?_)
      refine wl_callVi X [.int v284] [] dL_law_2726 rfl vo_L_284 rfl (by decide) (Nat.le_of_ble_eq_true rfl) ⟨by omega, by omega⟩ hf (c_X11_run l _ _ _) (fun r285 hf => ?_)
      refine wk_istore (lv' := [(6, .int r285.1), (5, .int r283.1), (0, .float 97), (1, .ref x1), (2, .ref x2), (3, .ref x3), (4, .int x4)]) X dL_law_2729 (by decide) rfl ?_
      refine wk_aload_n X dL_law_2731 4 rfl ?_
      refine wl_callVi X [] [] dL_law_2732 rfl vo_L_141 rfl (by decide) (Nat.le_of_ble_eq_true rfl) ⟨by omega, by omega⟩ hf (c_X11_thrown l _ _) (fun r286 hf => ?_)
      refine wk_iload X dL_law_2735 1 rfl ?_
      refine wk_icmp_eq X 2742 dL_law_2737 (by decide) hf (fun hf => ?_) (fun hf => ?_)
      · refine wk_iload X dL_law_2742 1 rfl ?_
        refine wk_if_ne X 2759 dL_law_2744 (by decide) hf (fun hf => ?_) (fun hf => ?_)
        · exact wq_sub [2, 3, 4, 5, 6] rfl (w_L_law_2759 (n := n) ⟨by omega, by omega⟩ X HX k23 hk23 _ _ _ _ _ hf)
        · refine wk_aload_n X dL_law_2747 5 rfl ?_
          refine wk_iconst X dL_law_2748 ic_0 ?_
          refine wk_lald X dL_law_2749 hf (fun v287 hf => ?_)
          refine wk_iload X dL_law_2750 0 rfl ?_
          refine wk_i2l X dL_law_2752 ?_
          refine wk_lcmp X dL_law_2753 ?_
          refine wk_if_eq X 2759 dL_law_2754 (by decide) hf (fun hf => ?_) (fun hf => ?_)
          · exact wq_sub [2, 3, 4, 5, 6] rfl (w_L_law_2759 (n := n) ⟨by omega, by omega⟩ X HX k23 hk23 _ _ _ _ _ hf)
          · refine wk_iconst X dL_law_2757 ic_0 ?_
            exact nomatch hf
      · refine wk_iconst X dL_law_2740 ic_0 ?_
        exact nomatch hf
    refine wk_ts_in X 2762 45 dL_law_40 (by decide) (by decide) (by decide) rfl (by decide) hf (fun hf => ?_) (fun n45 hf => ?_)
    · refine wk_aload_n X dL_law_2762 1 rfl ?_
      refine wl_callVi X [] [] dL_law_2763 rfl vo_L_285 rfl (by decide) (Nat.le_of_ble_eq_true rfl) ⟨by omega, by omega⟩ hf (c_X10_rarest l _ _) (fun r288 hf => ?_)
      refine wk_aload_n X dL_law_2766 2 rfl ?_
      refine wl_callVi X [] [.int r288.1] dL_law_2767 rfl vo_L_288 rfl (by decide) (Nat.le_of_ble_eq_true rfl) ⟨by omega, by omega⟩ hf (c_X11_rarest l _ _) (fun r289 hf => ?_)
      refine wk_icmp_eq X 2799 dL_law_2770 (by decide) hf (fun hf => ?_) (fun hf => ?_)
      · exact wq_sub [0, 1, 2, 3, 4] rfl (w_L_law_2799 (n := n) ⟨by omega, by omega⟩ X HX k23 hk23 _ _ _ _ _ hf)
      · refine wk_iconst X dL_law_2773 ic_0 ?_
        exact nomatch hf
    refine wk_ts_in X 2775 46 dL_law_40 (by decide) (by decide) (by decide) rfl (by decide) hf (fun hf => ?_) (fun n46 hf => ?_)
    · refine wk_aload_n X dL_law_2775 1 rfl ?_
      refine wl_callVv X [] [] dL_law_2776 rfl vo_L_289 rfl (by decide) (Nat.le_of_ble_eq_true rfl) ⟨by omega, by omega⟩ hf (c_X10_image l _ _) (fun r290 hf => ?_)
      refine wk_aload_n X dL_law_2779 2 rfl ?_
      refine wl_callVv X [] [] dL_law_2780 rfl vo_L_292 rfl (by decide) (Nat.le_of_ble_eq_true rfl) ⟨by omega, by omega⟩ hf (c_X11_image l _ _) (fun r291 hf => ?_)
      refine wk_goto X 2799 dL_law_2783 (by decide) ?_
      exact wq_sub [0, 1, 2, 3, 4] rfl (w_L_law_2799 (n := n) ⟨by omega, by omega⟩ X HX k23 hk23 _ _ _ _ _ hf)
    refine wk_ts_in X 2786 47 dL_law_40 (by decide) (by decide) (by decide) rfl (by decide) hf (fun hf => ?_) (fun n47 hf => ?_)
    · refine wk_aload_n X dL_law_2786 1 rfl ?_
      refine wl_callVi X [] [] dL_law_2787 rfl vo_L_293 rfl (by decide) (Nat.le_of_ble_eq_true rfl) ⟨by omega, by omega⟩ hf (c_X10_restore l _ _) (fun r292 hf => ?_)
      refine wk_aload_n X dL_law_2790 2 rfl ?_
      refine wl_callVi X [] [.int r292.1] dL_law_2791 rfl vo_L_297 rfl (by decide) (Nat.le_of_ble_eq_true rfl) ⟨by omega, by omega⟩ hf (c_X11_restore l _ _) (fun r293 hf => ?_)
      refine wk_icmp_eq X 2799 dL_law_2794 (by decide) hf (fun hf => ?_) (fun hf => ?_)
      · exact wq_sub [0, 1, 2, 3, 4] rfl (w_L_law_2799 (n := n) ⟨by omega, by omega⟩ X HX k23 hk23 _ _ _ _ _ hf)
      · refine wk_iconst X dL_law_2797 ic_0 ?_
        exact nomatch hf
    refine wk_ts_out X 2799 dL_law_40 (fc_c n0 (fc_c n1 (fc_c n2 (fc_c n3 (fc_c n4 (fc_c n5 (fc_c n6 (fc_c n7 (fc_c n8 (fc_c n9 (fc_c n10 (fc_c n11 (fc_c n12 (fc_c n13 (fc_c n14 (fc_c n15 (fc_c n16 (fc_c n17 (fc_c n18 (fc_c n19 (fc_c n20 (fc_c n21 (fc_c n22 (fc_c n23 (fc_c n24 (fc_c n25 (fc_c n26 (fc_c n27 (fc_c n28 (fc_c n29 (fc_c n30 (fc_c n31 (fc_c n32 (fc_c n33 (fc_c n34 (fc_c n35 (fc_c n36 (fc_c n37 (fc_c n38 (fc_c n39 (fc_c n40 (fc_c n41 (fc_c n42 (fc_c n43 (fc_c n44 (fc_c n45 (fc_c n46 (fc_c n47 fc_n)))))))))))))))))))))))))))))))))))))))))))))))) (by decide) (by decide) (by decide) ?_
    exact wq_sub [0, 1, 2, 3, 4] rfl (w_L_law_2799 (n := n) ⟨by omega, by omega⟩ X HX k23 hk23 _ _ _ _ _ hf)
def l_L_law_23 (L : Nat) (xs : Nat → Int32) (x1 : Nat) (x2 : Nat) (x3 : Nat) (x4 : Int32) (h : hp_H) : Option hp_H := lp (fun k (s : Nat × Nat × Nat × Int32 × hp_H) => f_L_law_23 L xs (fun a0 a1 a2 a3 a4 => k (a0, a1, a2, a3, a4)) s.1 s.2.1 s.2.2.1 s.2.2.2.1 s.2.2.2.2) 1000 (x1, x2, x3, x4, h)
theorem wl_L_law_23 (hb : kc + 1000 ≤ 601024 ∧ ks + 6 * 1000 ≤ 7293034) (hl : l.stackTraces = false) (X : wx G p s m #[Value.ref b] meth c cL_law 7 RL (some .boolean)) (HX : wsc G s L xs ∧ G.1 = s.heap.size) (x1 : Nat) (x2 : Nat) (x3 : Nat) (x4 : Int32) (h : hp_H) (hf : l_L_law_23 L xs x1 x2 x3 x4 h = some o) : wq p l e (mt_R 1750 601024 7293034) s m #[Value.ref b] below meth c (lw_Z below #[Value.ref b] s) G 7 kc ks 23 [(0, .float 97), (1, .ref x1), (2, .ref x2), (3, .ref x3), (4, .int x4)] [] h :=
  lp_indN (P := fun (n : Nat) (s_ : Nat × Nat × Nat × Int32 × hp_H) => ∀ kc ks : Nat, kc + n ≤ 601024 ∧ ks + 6 * n ≤ 7293034 → wq p l e (mt_R 1750 601024 7293034) s m #[Value.ref b] below meth c (lw_Z below #[Value.ref b] s) G 7 kc ks 23 [(0, .float 97), (1, .ref s_.1), (2, .ref s_.2.1), (3, .ref s_.2.2.1), (4, .int s_.2.2.2.1)] [] s_.2.2.2.2) (fun n k s hk hf kc ks hb => w_L_law_23 hb hl X HX (fun a0 a1 a2 a3 a4 => k (a0, a1, a2, a3, a4)) (fun a0 a1 a2 a3 a4 kc ks hb hf => hk (a0, a1, a2, a3, a4) hf kc ks hb) s.1 s.2.1 s.2.2.1 s.2.2.2.1 s.2.2.2.2 hf) 1000 (x1, x2, x3, x4, h) hf kc ks hb
end S_law
