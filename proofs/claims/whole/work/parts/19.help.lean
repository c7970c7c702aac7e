theorem vo_L_7 : vc_ok RL 7 yX10_army cX10_army 3 (some .int) 10 1 := ⟨RX10, TX10, 15, rfl, ⟨ml_L_7, mi_X10_army, mz_X10_army, mk_X10, mc_X10_army⟩, by decide, rfl, by decide +kernel, by decide +kernel, by decide +kernel⟩
theorem vo_L_15 : vc_ok RL 15 yX10_count cX10_count 2 (some .int) 10 1 := ⟨RX10, TX10, 15, rfl, ⟨ml_L_15, mi_X10_count, mz_X10_count, mk_X10, mc_X10_count⟩, by decide, rfl, by decide +kernel, by decide +kernel, by decide +kernel⟩
theorem vo_L_20 : vc_ok RL 20 yX10_man cX10_man 3 (some .int) 10 2 := ⟨RX10, TX10, 15, rfl, ⟨ml_L_20, mi_X10_man, mz_X10_man, mk_X10, mc_X10_man⟩, by decide, rfl, by decide +kernel, by decide +kernel, by decide +kernel⟩
theorem vo_L_24 : vc_ok RL 24 yX10_row cX10_row 3 (some .int) 10 2 := ⟨RX10, TX10, 15, rfl, ⟨ml_L_24, mi_X10_row, mz_X10_row, mk_X10, mc_X10_row⟩, by decide, rfl, by decide +kernel, by decide +kernel, by decide +kernel⟩
theorem vo_L_27 : vc_ok RL 27 yX10_put cX10_put 4 (some .int) 10 2 := ⟨RX10, TX10, 15, rfl, ⟨ml_L_27, mi_X10_put, mz_X10_put, mk_X10, mc_X10_put⟩, by decide, rfl, by decide +kernel, by decide +kernel, by decide +kernel⟩
theorem vo_L_30 : vc_ok RL 30 yX10_heel cX10_heel 3 (some .int) 10 2 := ⟨RX10, TX10, 15, rfl, ⟨ml_L_30, mi_X10_heel, mz_X10_heel, mk_X10, mc_X10_heel⟩, by decide, rfl, by decide +kernel, by decide +kernel, by decide +kernel⟩
theorem vo_L_33 : vc_ok RL 33 yX10_loud cX10_loud 4 (some .int) 10 2 := ⟨RX10, TX10, 15, rfl, ⟨ml_L_33, mi_X10_loud, mz_X10_loud, mk_X10, mc_X10_loud⟩, by decide, rfl, by decide +kernel, by decide +kernel, by decide +kernel⟩
theorem vo_L_36 : vc_ok RL 36 yX10_change cX10_change 3 (some .boolean) 10 2 := ⟨RX10, TX10, 15, rfl, ⟨ml_L_36, mi_X10_change, mz_X10_change, mk_X10, mc_X10_change⟩, by decide, rfl, by decide +kernel, by decide +kernel, by decide +kernel⟩
theorem vo_L_40 : vc_ok RL 40 yX10_then cX10_then 4 (some .int) 10 3 := ⟨RX10, TX10, 15, rfl, ⟨ml_L_40, mi_X10_then, mz_X10_then, mk_X10, mc_X10_then⟩, by decide, rfl, by decide +kernel, by decide +kernel, by decide +kernel⟩
theorem vo_L_44 : vc_ok RL 44 yX10_honour cX10_honour 3 (some .int) 10 2 := ⟨RX10, TX10, 15, rfl, ⟨ml_L_44, mi_X10_honour, mz_X10_honour, mk_X10, mc_X10_honour⟩, by decide, rfl, by decide +kernel, by decide +kernel, by decide +kernel⟩
theorem vo_L_47 : vc_ok RL 47 yX10_first cX10_first 3 (some .int) 10 1 := ⟨RX10, TX10, 15, rfl, ⟨ml_L_47, mi_X10_first, mz_X10_first, mk_X10, mc_X10_first⟩, by decide, rfl, by decide +kernel, by decide +kernel, by decide +kernel⟩
theorem vo_L_50 : vc_ok RL 50 yX10_mistaken cX10_mistaken 6 (some .int) 10 1 := ⟨RX10, TX10, 15, rfl, ⟨ml_L_50, mi_X10_mistaken, mz_X10_mistaken, mk_X10, mc_X10_mistaken⟩, by decide, rfl, by decide +kernel, by decide +kernel, by decide +kernel⟩
theorem vo_L_53 : vc_ok RL 53 yX10_unsung cX10_unsung 4 (some .int) 10 1 := ⟨RX10, TX10, 15, rfl, ⟨ml_L_53, mi_X10_unsung, mz_X10_unsung, mk_X10, mc_X10_unsung⟩, by decide, rfl, by decide +kernel, by decide +kernel, by decide +kernel⟩
theorem vo_L_56 : vc_ok RL 56 yX10_far cX10_far 3 (some .int) 10 2 := ⟨RX10, TX10, 15, rfl, ⟨ml_L_56, mi_X10_far, mz_X10_far, mk_X10, mc_X10_far⟩, by decide, rfl, by decide +kernel, by decide +kernel, by decide +kernel⟩
theorem vo_L_59 : vc_ok RL 59 yX10_apart cX10_apart 4 (some .int) 10 1 := ⟨RX10, TX10, 15, rfl, ⟨ml_L_59, mi_X10_apart, mz_X10_apart, mk_X10, mc_X10_apart⟩, by decide, rfl, by decide +kernel, by decide +kernel, by decide +kernel⟩
theorem vo_L_62 : vc_ok RL 62 yX10_tread cX10_tread 6 (some .int) 10 1 := ⟨RX10, TX10, 15, rfl, ⟨ml_L_62, mi_X10_tread, mz_X10_tread, mk_X10, mc_X10_tread⟩, by decide, rfl, by decide +kernel, by decide +kernel, by decide +kernel⟩
theorem vo_L_65 : vc_ok RL 65 yX10_passes cX10_passes 4 (some .int) 10 2 := ⟨RX10, TX10, 15, rfl, ⟨ml_L_65, mi_X10_passes, mz_X10_passes, mk_X10, mc_X10_passes⟩, by decide, rfl, by decide +kernel, by decide +kernel, by decide +kernel⟩
theorem vo_L_68 : vc_ok RL 68 yX10_hidden cX10_hidden 4 (some .int) 10 1 := ⟨RX10, TX10, 15, rfl, ⟨ml_L_68, mi_X10_hidden, mz_X10_hidden, mk_X10, mc_X10_hidden⟩, by decide, rfl, by decide +kernel, by decide +kernel, by decide +kernel⟩
theorem vo_L_71 : vc_ok RL 71 yX10_toSock cX10_toSock 3 (some .int) 10 1 := ⟨RX10, TX10, 15, rfl, ⟨ml_L_71, mi_X10_toSock, mz_X10_toSock, mk_X10, mc_X10_toSock⟩, by decide, rfl, by decide +kernel, by decide +kernel, by decide +kernel⟩
theorem vo_L_74 : vc_ok RL 74 yX10_review cX10_review 2 (some .int) 10 1 := ⟨RX10, TX10, 15, rfl, ⟨ml_L_74, mi_X10_review, mz_X10_review, mk_X10, mc_X10_review⟩, by decide, rfl, by decide +kernel, by decide +kernel, by decide +kernel⟩
theorem vo_L_77 : vc_ok RL 77 yX10_see cX10_see 5 (some .int) 10 4 := ⟨RX10, TX10, 15, rfl, ⟨ml_L_77, mi_X10_see, mz_X10_see, mk_X10, mc_X10_see⟩, by decide, rfl, by decide +kernel, by decide +kernel, by decide +kernel⟩
theorem vo_L_81 : vc_ok RL 81 yX10_limped cX10_limped 2 (some .int) 10 1 := ⟨RX10, TX10, 15, rfl, ⟨ml_L_81, mi_X10_limped, mz_X10_limped, mk_X10, mc_X10_limped⟩, by decide, rfl, by decide +kernel, by decide +kernel, by decide +kernel⟩
theorem vo_L_84 : vc_ok RL 84 yX10_next cX10_next 6 (some .int) 10 1 := ⟨RX10, TX10, 15, rfl, ⟨ml_L_84, mi_X10_next, mz_X10_next, mk_X10, mc_X10_next⟩, by decide, rfl, by decide +kernel, by decide +kernel, by decide +kernel⟩
theorem vo_L_87 : vc_ok RL 87 yX10_byMud cX10_byMud 7 (some .int) 10 3 := ⟨RX10, TX10, 15, rfl, ⟨ml_L_87, mi_X10_byMud, mz_X10_byMud, mk_X10, mc_X10_byMud⟩, by decide, rfl, by decide +kernel, by decide +kernel, by decide +kernel⟩
theorem vo_L_90 : vc_ok RL 90 yX10_game cX10_game 7 (some .int) 10 3 := ⟨RX10, TX10, 15, rfl, ⟨ml_L_90, mi_X10_game, mz_X10_game, mk_X10, mc_X10_game⟩, by decide, rfl, by decide +kernel, by decide +kernel, by decide +kernel⟩
theorem vo_L_93 : vc_ok RL 93 yX10_reviews cX10_reviews 7 (some .int) 10 3 := ⟨RX10, TX10, 15, rfl, ⟨ml_L_93, mi_X10_reviews, mz_X10_reviews, mk_X10, mc_X10_reviews⟩, by decide, rfl, by decide +kernel, by decide +kernel, by decide +kernel⟩
theorem vo_L_96 : vc_ok RL 96 yX10_nextTo cX10_nextTo 2 (some .int) 10 1 := ⟨RX10, TX10, 15, rfl, ⟨ml_L_96, mi_X10_nextTo, mz_X10_nextTo, mk_X10, mc_X10_nextTo⟩, by decide, rfl, by decide +kernel, by decide +kernel, by decide +kernel⟩
theorem vo_L_99 : vc_ok RL 99 yX10_alike cX10_alike 5 (some .int) 10 1 := ⟨RX10, TX10, 15, rfl, ⟨ml_L_99, mi_X10_alike, mz_X10_alike, mk_X10, mc_X10_alike⟩, by decide, rfl, by decide +kernel, by decide +kernel, by decide +kernel⟩
theorem vo_L_102 : vc_ok RL 102 yX10_lost cX10_lost 4 (some .int) 10 1 := ⟨RX10, TX10, 15, rfl, ⟨ml_L_102, mi_X10_lost, mz_X10_lost, mk_X10, mc_X10_lost⟩, by decide, rfl, by decide +kernel, by decide +kernel, by decide +kernel⟩
theorem vo_L_105 : vc_ok RL 105 yX10_mates cX10_mates 3 (some .int) 10 1 := ⟨RX10, TX10, 15, rfl, ⟨ml_L_105, mi_X10_mates, mz_X10_mates, mk_X10, mc_X10_mates⟩, by decide, rfl, by decide +kernel, by decide +kernel, by decide +kernel⟩
theorem vo_L_108 : vc_ok RL 108 yX10_chain cX10_chain 6 (some .int) 10 3 := ⟨RX10, TX10, 15, rfl, ⟨ml_L_108, mi_X10_chain, mz_X10_chain, mk_X10, mc_X10_chain⟩, by decide, rfl, by decide +kernel, by decide +kernel, by decide +kernel⟩
theorem vo_L_111 : vc_ok RL 111 yX10_most cX10_most 3 (some .int) 10 1 := ⟨RX10, TX10, 15, rfl, ⟨ml_L_111, mi_X10_most, mz_X10_most, mk_X10, mc_X10_most⟩, by decide, rfl, by decide +kernel, by decide +kernel, by decide +kernel⟩
theorem vo_L_114 : vc_ok RL 114 yX10_often cX10_often 5 (some .int) 10 2 := ⟨RX10, TX10, 15, rfl, ⟨ml_L_114, mi_X10_often, mz_X10_often, mk_X10, mc_X10_often⟩, by decide, rfl, by decide +kernel, by decide +kernel, by decide +kernel⟩
theorem vo_L_117 : vc_ok RL 117 yX10_spoilt cX10_spoilt 2 (some .int) 10 1 := ⟨RX10, TX10, 15, rfl, ⟨ml_L_117, mi_X10_spoilt, mz_X10_spoilt, mk_X10, mc_X10_spoilt⟩, by decide, rfl, by decide +kernel, by decide +kernel, by decide +kernel⟩
theorem vo_L_120 : vc_ok RL 120 yX10_reform cX10_reform 9 (some .int) 10 2 := ⟨RX10, TX10, 15, rfl, ⟨ml_L_120, mi_X10_reform, mz_X10_reform, mk_X10, mc_X10_reform⟩, by decide, rfl, by decide +kernel, by decide +kernel, by decide +kernel⟩
theorem vo_L_123 : vc_ok RL 123 yX10_run cX10_run 5 (some .int) 10 1 := ⟨RX10, TX10, 15, rfl, ⟨ml_L_123, mi_X10_run, mz_X10_run, mk_X10, mc_X10_run⟩, by decide, rfl, by decide +kernel, by decide +kernel, by decide +kernel⟩
theorem vo_L_130 : vc_ok RL 130 yX10_feed cX10_feed 6 (some .int) 10 5 := ⟨RX10, TX10, 15, rfl, ⟨ml_L_130, mi_X10_feed, mz_X10_feed, mk_X10, mc_X10_feed⟩, by decide, rfl, by decide +kernel, by decide +kernel, by decide +kernel⟩
theorem vo_L_134 : vc_ok RL 134 yX11_feed cX11_feed 6 (some .int) 11 5 := ⟨RX11, TX11, 55, rfl, ⟨ml_L_134, mi_X11_feed, mz_X11_feed, mk_X11, mc_X11_feed⟩, by decide, rfl, by decide +kernel, by decide +kernel, by decide +kernel⟩
theorem vo_L_140 : vc_ok RL 140 yX11_army cX11_army 3 (some .int) 11 1 := ⟨RX11, TX11, 55, rfl, ⟨ml_L_140, mi_X11_army, mz_X11_army, mk_X11, mc_X11_army⟩, by decide, rfl, by decide +kernel, by decide +kernel, by decide +kernel⟩
theorem vo_L_141 : vc_ok RL 141 yX11_thrown cX11_thrown 1 (some .int) 11 0 := ⟨RX11, TX11, 55, rfl, ⟨ml_L_141, mi_X11_thrown, mz_X11_thrown, mk_X11, mc_X11_thrown⟩, by decide, rfl, by decide +kernel, by decide +kernel, by decide +kernel⟩
theorem vo_L_145 : vc_ok RL 145 yX10_fault cX10_fault 1 (some .int) 10 0 := ⟨RX10, TX10, 15, rfl, ⟨ml_L_145, mi_X10_fault, mz_X10_fault, mk_X10, mc_X10_fault⟩, by decide, rfl, by decide +kernel, by decide +kernel, by decide +kernel⟩
theorem vo_L_148 : vc_ok RL 148 yX11_fault cX11_fault 1 (some .int) 11 0 := ⟨RX11, TX11, 55, rfl, ⟨ml_L_148, mi_X11_fault, mz_X11_fault, mk_X11, mc_X11_fault⟩, by decide, rfl, by decide +kernel, by decide +kernel, by decide +kernel⟩
theorem vo_L_151 : vc_ok RL 151 yX11_count cX11_count 2 (some .int) 11 1 := ⟨RX11, TX11, 55, rfl, ⟨ml_L_151, mi_X11_count, mz_X11_count, mk_X11, mc_X11_count⟩, by decide, rfl, by decide +kernel, by decide +kernel, by decide +kernel⟩
theorem vo_L_155 : vc_ok RL 155 yX11_man cX11_man 3 (some .int) 11 2 := ⟨RX11, TX11, 55, rfl, ⟨ml_L_155, mi_X11_man, mz_X11_man, mk_X11, mc_X11_man⟩, by decide, rfl, by decide +kernel, by decide +kernel, by decide +kernel⟩
theorem vo_L_158 : vc_ok RL 158 yX11_row cX11_row 3 (some .int) 11 2 := ⟨RX11, TX11, 55, rfl, ⟨ml_L_158, mi_X11_row, mz_X11_row, mk_X11, mc_X11_row⟩, by decide, rfl, by decide +kernel, by decide +kernel, by decide +kernel⟩
theorem vo_L_159 : vc_ok RL 159 yX10_nights cX10_nights 3 (some .int) 10 1 := ⟨RX10, TX10, 15, rfl, ⟨ml_L_159, mi_X10_nights, mz_X10_nights, mk_X10, mc_X10_nights⟩, by decide, rfl, by decide +kernel, by decide +kernel, by decide +kernel⟩
theorem vo_L_162 : vc_ok RL 162 yX11_nights cX11_nights 3 (some .int) 11 1 := ⟨RX11, TX11, 55, rfl, ⟨ml_L_162, mi_X11_nights, mz_X11_nights, mk_X11, mc_X11_nights⟩, by decide, rfl, by decide +kernel, by decide +kernel, by decide +kernel⟩
theorem vo_L_165 : vc_ok RL 165 yX11_put cX11_put 4 (some .int) 11 2 := ⟨RX11, TX11, 55, rfl, ⟨ml_L_165, mi_X11_put, mz_X11_put, mk_X11, mc_X11_put⟩, by decide, rfl, by decide +kernel, by decide +kernel, by decide +kernel⟩
theorem vo_L_168 : vc_ok RL 168 yX11_heel cX11_heel 3 (some .int) 11 2 := ⟨RX11, TX11, 55, rfl, ⟨ml_L_168, mi_X11_heel, mz_X11_heel, mk_X11, mc_X11_heel⟩, by decide, rfl, by decide +kernel, by decide +kernel, by decide +kernel⟩
theorem vo_L_171 : vc_ok RL 171 yX11_loud cX11_loud 4 (some .int) 11 2 := ⟨RX11, TX11, 55, rfl, ⟨ml_L_171, mi_X11_loud, mz_X11_loud, mk_X11, mc_X11_loud⟩, by decide, rfl, by decide +kernel, by decide +kernel, by decide +kernel⟩
theorem vo_L_174 : vc_ok RL 174 yX11_change cX11_change 4 (some .boolean) 11 2 := ⟨RX11, TX11, 55, rfl, ⟨ml_L_174, mi_X11_change, mz_X11_change, mk_X11, mc_X11_change⟩, by decide, rfl, by decide +kernel, by decide +kernel, by decide +kernel⟩
theorem vo_L_175 : vc_ok RL 175 yX10_undo cX10_undo 1 (some .int) 10 0 := ⟨RX10, TX10, 15, rfl, ⟨ml_L_175, mi_X10_undo, mz_X10_undo, mk_X10, mc_X10_undo⟩, by decide, rfl, by decide +kernel, by decide +kernel, by decide +kernel⟩
theorem vo_L_178 : vc_ok RL 178 yX11_undo cX11_undo 2 (some .int) 11 0 := ⟨RX11, TX11, 55, rfl, ⟨ml_L_178, mi_X11_undo, mz_X11_undo, mk_X11, mc_X11_undo⟩, by decide, rfl, by decide +kernel, by decide +kernel, by decide +kernel⟩
theorem vo_L_182 : vc_ok RL 182 yX11_then cX11_then 4 (some .int) 11 3 := ⟨RX11, TX11, 55, rfl, ⟨ml_L_182, mi_X11_then, mz_X11_then, mk_X11, mc_X11_then⟩, by decide, rfl, by decide +kernel, by decide +kernel, by decide +kernel⟩
theorem vo_L_185 : vc_ok RL 185 yX11_honour cX11_honour 3 (some .int) 11 2 := ⟨RX11, TX11, 55, rfl, ⟨ml_L_185, mi_X11_honour, mz_X11_honour, mk_X11, mc_X11_honour⟩, by decide, rfl, by decide +kernel, by decide +kernel, by decide +kernel⟩
theorem vo_L_188 : vc_ok RL 188 yX11_first cX11_first 3 (some .int) 11 1 := ⟨RX11, TX11, 55, rfl, ⟨ml_L_188, mi_X11_first, mz_X11_first, mk_X11, mc_X11_first⟩, by decide, rfl, by decide +kernel, by decide +kernel, by decide +kernel⟩
theorem vo_L_191 : vc_ok RL 191 yX11_mistaken cX11_mistaken 2 (some .int) 11 1 := ⟨RX11, TX11, 55, rfl, ⟨ml_L_191, mi_X11_mistaken, mz_X11_mistaken, mk_X11, mc_X11_mistaken⟩, by decide, rfl, by decide +kernel, by decide +kernel, by decide +kernel⟩
theorem vo_L_194 : vc_ok RL 194 yX11_unsung cX11_unsung 4 (some .int) 11 1 := ⟨RX11, TX11, 55, rfl, ⟨ml_L_194, mi_X11_unsung, mz_X11_unsung, mk_X11, mc_X11_unsung⟩, by decide, rfl, by decide +kernel, by decide +kernel, by decide +kernel⟩
theorem vo_L_197 : vc_ok RL 197 yX11_far cX11_far 3 (some .int) 11 2 := ⟨RX11, TX11, 55, rfl, ⟨ml_L_197, mi_X11_far, mz_X11_far, mk_X11, mc_X11_far⟩, by decide, rfl, by decide +kernel, by decide +kernel, by decide +kernel⟩
theorem vo_L_198 : vc_ok RL 198 yX10_nearest cX10_nearest 6 (some .int) 10 0 := ⟨RX10, TX10, 15, rfl, ⟨ml_L_198, mi_X10_nearest, mz_X10_nearest, mk_X10, mc_X10_nearest⟩, by decide, rfl, by decide +kernel, by decide +kernel, by decide +kernel⟩
theorem vo_L_201 : vc_ok RL 201 yX11_nearest cX11_nearest 5 (some .int) 11 0 := ⟨RX11, TX11, 55, rfl, ⟨ml_L_201, mi_X11_nearest, mz_X11_nearest, mk_X11, mc_X11_nearest⟩, by decide, rfl, by decide +kernel, by decide +kernel, by decide +kernel⟩
theorem vo_L_204 : vc_ok RL 204 yX11_apart cX11_apart 7 (some .int) 11 1 := ⟨RX11, TX11, 55, rfl, ⟨ml_L_204, mi_X11_apart, mz_X11_apart, mk_X11, mc_X11_apart⟩, by decide, rfl, by decide +kernel, by decide +kernel, by decide +kernel⟩
theorem vo_L_207 : vc_ok RL 207 yX11_tread cX11_tread 7 (some .int) 11 1 := ⟨RX11, TX11, 55, rfl, ⟨ml_L_207, mi_X11_tread, mz_X11_tread, mk_X11, mc_X11_tread⟩, by decide, rfl, by decide +kernel, by decide +kernel, by decide +kernel⟩
theorem vo_L_210 : vc_ok RL 210 yX11_passes cX11_passes 4 (some .int) 11 2 := ⟨RX11, TX11, 55, rfl, ⟨ml_L_210, mi_X11_passes, mz_X11_passes, mk_X11, mc_X11_passes⟩, by decide, rfl, by decide +kernel, by decide +kernel, by decide +kernel⟩
theorem vo_L_213 : vc_ok RL 213 yX11_hidden cX11_hidden 4 (some .int) 11 1 := ⟨RX11, TX11, 55, rfl, ⟨ml_L_213, mi_X11_hidden, mz_X11_hidden, mk_X11, mc_X11_hidden⟩, by decide, rfl, by decide +kernel, by decide +kernel, by decide +kernel⟩
theorem vo_L_216 : vc_ok RL 216 yX11_toSock cX11_toSock 3 (some .int) 11 1 := ⟨RX11, TX11, 55, rfl, ⟨ml_L_216, mi_X11_toSock, mz_X11_toSock, mk_X11, mc_X11_toSock⟩, by decide, rfl, by decide +kernel, by decide +kernel, by decide +kernel⟩
theorem vo_L_219 : vc_ok RL 219 yX11_review cX11_review 6 (some .int) 11 1 := ⟨RX11, TX11, 55, rfl, ⟨ml_L_219, mi_X11_review, mz_X11_review, mk_X11, mc_X11_review⟩, by decide, rfl, by decide +kernel, by decide +kernel, by decide +kernel⟩
theorem vo_L_223 : vc_ok RL 223 yX11_see cX11_see 5 (some .int) 11 4 := ⟨RX11, TX11, 55, rfl, ⟨ml_L_223, mi_X11_see, mz_X11_see, mk_X11, mc_X11_see⟩, by decide, rfl, by decide +kernel, by decide +kernel, by decide +kernel⟩
theorem vo_L_224 : vc_ok RL 224 yX10_forget cX10_forget 1 none 10 0 := ⟨RX10, TX10, 15, rfl, ⟨ml_L_224, mi_X10_forget, mz_X10_forget, mk_X10, mc_X10_forget⟩, by decide, rfl, by decide +kernel, by decide +kernel, by decide +kernel⟩
theorem vo_L_227 : vc_ok RL 227 yX11_forget cX11_forget 1 none 11 0 := ⟨RX11, TX11, 55, rfl, ⟨ml_L_227, mi_X11_forget, mz_X11_forget, mk_X11, mc_X11_forget⟩, by decide, rfl, by decide +kernel, by decide +kernel, by decide +kernel⟩
theorem vo_L_230 : vc_ok RL 230 yX11_limped cX11_limped 5 (some .int) 11 1 := ⟨RX11, TX11, 55, rfl, ⟨ml_L_230, mi_X11_limped, mz_X11_limped, mk_X11, mc_X11_limped⟩, by decide, rfl, by decide +kernel, by decide +kernel, by decide +kernel⟩
theorem vo_L_233 : vc_ok RL 233 yX11_next cX11_next 10 (some .int) 11 1 := ⟨RX11, TX11, 55, rfl, ⟨ml_L_233, mi_X11_next, mz_X11_next, mk_X11, mc_X11_next⟩, by decide, rfl, by decide +kernel, by decide +kernel, by decide +kernel⟩
theorem vo_L_236 : vc_ok RL 236 yX11_byMud cX11_byMud 10 (some .int) 11 3 := ⟨RX11, TX11, 55, rfl, ⟨ml_L_236, mi_X11_byMud, mz_X11_byMud, mk_X11, mc_X11_byMud⟩, by decide, rfl, by decide +kernel, by decide +kernel, by decide +kernel⟩
theorem vo_L_239 : vc_ok RL 239 yX11_game cX11_game 9 (some .int) 11 3 := ⟨RX11, TX11, 55, rfl, ⟨ml_L_239, mi_X11_game, mz_X11_game, mk_X11, mc_X11_game⟩, by decide, rfl, by decide +kernel, by decide +kernel, by decide +kernel⟩
theorem vo_L_242 : vc_ok RL 242 yX11_reviews cX11_reviews 7 (some .int) 11 3 := ⟨RX11, TX11, 55, rfl, ⟨ml_L_242, mi_X11_reviews, mz_X11_reviews, mk_X11, mc_X11_reviews⟩, by decide, rfl, by decide +kernel, by decide +kernel, by decide +kernel⟩
theorem vo_L_245 : vc_ok RL 245 yX11_nextTo cX11_nextTo 2 (some .int) 11 1 := ⟨RX11, TX11, 55, rfl, ⟨ml_L_245, mi_X11_nextTo, mz_X11_nextTo, mk_X11, mc_X11_nextTo⟩, by decide, rfl, by decide +kernel, by decide +kernel, by decide +kernel⟩
theorem vo_L_248 : vc_ok RL 248 yX11_alike cX11_alike 6 (some .int) 11 1 := ⟨RX11, TX11, 55, rfl, ⟨ml_L_248, mi_X11_alike, mz_X11_alike, mk_X11, mc_X11_alike⟩, by decide, rfl, by decide +kernel, by decide +kernel, by decide +kernel⟩
theorem vo_L_251 : vc_ok RL 251 yX11_lost cX11_lost 3 (some .int) 11 1 := ⟨RX11, TX11, 55, rfl, ⟨ml_L_251, mi_X11_lost, mz_X11_lost, mk_X11, mc_X11_lost⟩, by decide, rfl, by decide +kernel, by decide +kernel, by decide +kernel⟩
theorem vo_L_254 : vc_ok RL 254 yX11_mates cX11_mates 3 (some .int) 11 1 := ⟨RX11, TX11, 55, rfl, ⟨ml_L_254, mi_X11_mates, mz_X11_mates, mk_X11, mc_X11_mates⟩, by decide, rfl, by decide +kernel, by decide +kernel, by decide +kernel⟩
theorem vo_L_255 : vc_ok RL 255 yX10_step cX10_step 4 (some .int) 10 0 := ⟨RX10, TX10, 15, rfl, ⟨ml_L_255, mi_X10_step, mz_X10_step, mk_X10, mc_X10_step⟩, by decide, rfl, by decide +kernel, by decide +kernel, by decide +kernel⟩
theorem vo_L_258 : vc_ok RL 258 yX11_step cX11_step 4 (some .int) 11 0 := ⟨RX11, TX11, 55, rfl, ⟨ml_L_258, mi_X11_step, mz_X11_step, mk_X11, mc_X11_step⟩, by decide, rfl, by decide +kernel, by decide +kernel, by decide +kernel⟩
theorem vo_L_261 : vc_ok RL 261 yX11_chain cX11_chain 9 (some .int) 11 3 := ⟨RX11, TX11, 55, rfl, ⟨ml_L_261, mi_X11_chain, mz_X11_chain, mk_X11, mc_X11_chain⟩, by decide, rfl, by decide +kernel, by decide +kernel, by decide +kernel⟩
theorem vo_L_264 : vc_ok RL 264 yX11_most cX11_most 4 (some .int) 11 1 := ⟨RX11, TX11, 55, rfl, ⟨ml_L_264, mi_X11_most, mz_X11_most, mk_X11, mc_X11_most⟩, by decide, rfl, by decide +kernel, by decide +kernel, by decide +kernel⟩
theorem vo_L_267 : vc_ok RL 267 yX11_often cX11_often 7 (some .int) 11 2 := ⟨RX11, TX11, 55, rfl, ⟨ml_L_267, mi_X11_often, mz_X11_often, mk_X11, mc_X11_often⟩, by decide, rfl, by decide +kernel, by decide +kernel, by decide +kernel⟩
theorem vo_L_270 : vc_ok RL 270 yX11_spoilt cX11_spoilt 3 (some .int) 11 1 := ⟨RX11, TX11, 55, rfl, ⟨ml_L_270, mi_X11_spoilt, mz_X11_spoilt, mk_X11, mc_X11_spoilt⟩, by decide, rfl, by decide +kernel, by decide +kernel, by decide +kernel⟩
theorem vo_L_273 : vc_ok RL 273 yX11_reform cX11_reform 8 (some .int) 11 2 := ⟨RX11, TX11, 55, rfl, ⟨ml_L_273, mi_X11_reform, mz_X11_reform, mk_X11, mc_X11_reform⟩, by decide, rfl, by decide +kernel, by decide +kernel, by decide +kernel⟩
theorem vo_L_274 : vc_ok RL 274 yX10_swap cX10_swap 6 (some .int) 10 0 := ⟨RX10, TX10, 15, rfl, ⟨ml_L_274, mi_X10_swap, mz_X10_swap, mk_X10, mc_X10_swap⟩, by decide, rfl, by decide +kernel, by decide +kernel, by decide +kernel⟩
theorem vo_L_277 : vc_ok RL 277 yX11_swap cX11_swap 6 (some .int) 11 0 := ⟨RX11, TX11, 55, rfl, ⟨ml_L_277, mi_X11_swap, mz_X11_swap, mk_X11, mc_X11_swap⟩, by decide, rfl, by decide +kernel, by decide +kernel, by decide +kernel⟩
theorem vo_L_278 : vc_ok RL 278 yX10_loudest cX10_loudest 5 (some .int) 10 0 := ⟨RX10, TX10, 15, rfl, ⟨ml_L_278, mi_X10_loudest, mz_X10_loudest, mk_X10, mc_X10_loudest⟩, by decide, rfl, by decide +kernel, by decide +kernel, by decide +kernel⟩
theorem vo_L_281 : vc_ok RL 281 yX11_loudest cX11_loudest 6 (some .int) 11 0 := ⟨RX11, TX11, 55, rfl, ⟨ml_L_281, mi_X11_loudest, mz_X11_loudest, mk_X11, mc_X11_loudest⟩, by decide, rfl, by decide +kernel, by decide +kernel, by decide +kernel⟩
theorem vo_L_284 : vc_ok RL 284 yX11_run cX11_run 5 (some .int) 11 1 := ⟨RX11, TX11, 55, rfl, ⟨ml_L_284, mi_X11_run, mz_X11_run, mk_X11, mc_X11_run⟩, by decide, rfl, by decide +kernel, by decide +kernel, by decide +kernel⟩
theorem vo_L_285 : vc_ok RL 285 yX10_rarest cX10_rarest 5 (some .int) 10 0 := ⟨RX10, TX10, 15, rfl, ⟨ml_L_285, mi_X10_rarest, mz_X10_rarest, mk_X10, mc_X10_rarest⟩, by decide, rfl, by decide +kernel, by decide +kernel, by decide +kernel⟩
theorem vo_L_288 : vc_ok RL 288 yX11_rarest cX11_rarest 6 (some .int) 11 0 := ⟨RX11, TX11, 55, rfl, ⟨ml_L_288, mi_X11_rarest, mz_X11_rarest, mk_X11, mc_X11_rarest⟩, by decide, rfl, by decide +kernel, by decide +kernel, by decide +kernel⟩
theorem vo_L_289 : vc_ok RL 289 yX10_image cX10_image 1 none 10 0 := ⟨RX10, TX10, 15, rfl, ⟨ml_L_289, mi_X10_image, mz_X10_image, mk_X10, mc_X10_image⟩, by decide, rfl, by decide +kernel, by decide +kernel, by decide +kernel⟩
theorem vo_L_292 : vc_ok RL 292 yX11_image cX11_image 2 none 11 0 := ⟨RX11, TX11, 55, rfl, ⟨ml_L_292, mi_X11_image, mz_X11_image, mk_X11, mc_X11_image⟩, by decide, rfl, by decide +kernel, by decide +kernel, by decide +kernel⟩
theorem vo_L_293 : vc_ok RL 293 yX10_restore cX10_restore 1 (some .boolean) 10 0 := ⟨RX10, TX10, 15, rfl, ⟨ml_L_293, mi_X10_restore, mz_X10_restore, mk_X10, mc_X10_restore⟩, by decide, rfl, by decide +kernel, by decide +kernel, by decide +kernel⟩
theorem vo_L_297 : vc_ok RL 297 yX11_restore cX11_restore 2 (some .boolean) 11 0 := ⟨RX11, TX11, 55, rfl, ⟨ml_L_297, mi_X11_restore, mz_X11_restore, mk_X11, mc_X11_restore⟩, by decide, rfl, by decide +kernel, by decide +kernel, by decide +kernel⟩
def hx_c (a b : Option Int32) (x : Nat × hp_H) : Option (Int32 × hp_H) := match x.1 with
  | 0 => a.map (fun v => (v, x.2))
  | _ + 1 => b.map (fun v => (v, x.2))
section Sf_L_alike
variable {p : Program} {l : Launch} {e : Env} {s : State} {m : MethodId} {args : Array Value} {below : List Frame} {meth : Method} {c : Code} {G : hp_G} {o : Int32 × hp_H}
end Sf_L_alike
def f_L_alike (x0 : Nat) (x1 : Int32) (x2 : Nat) (h : hp_H) : Option (Int32 × hp_H) := (f_X10_alike x0 x1 h).bind fun r1 => (wr_AJ r1.2 x2 0 (Int32.toInt64 r1.1)).bind fun h2 => some (0, h2)
set_option maxRecDepth 20000 in
theorem c_L_alike (l : Launch) (x0 : Nat) (x1 : Int32) (x2 : Nat) (h : hp_H) (r : Int32 × hp_H) (hf : f_L_alike x0 x1 x2 h = some r) : mw l 9 0 0 yL_alike cL_alike 4 (some .int) [(0, 9, 12, 13)] [.ref x0, .int x1, .ref x2] h (some (.int r.1)) r.2 := by
  unfold f_L_alike at hf
  refine mw_of (lv := [(0, .ref x0), (1, .int x1), (2, .ref x2)]) (by decide +kernel) (Nat.le_of_ble_eq_true rfl) rfl (fun p e s m args below meth c G _ X => ?_)
  refine wk_aload_n X dL_alike_0 2 rfl ?_
  refine wk_iconst X dL_alike_1 ic_0 ?_
  refine wk_aload_n X dL_alike_2 0 rfl ?_
  refine wk_iload_n X dL_alike_3 1 rfl ?_
  refine wk_callVi X [.int x1] [.int 0, .ref x2] dL_alike_4 rfl vo_L_99 rfl (by decide) (Nat.le_of_ble_eq_true rfl) hf (c_X10_alike l _ _ _) (fun r1 hf => ?_)
  refine wk_i2l X dL_alike_7 ?_
  refine wk_last X dL_alike_8 hf (fun h2 hf => ?_)
  refine wk_goto X 15 dL_alike_9 (by decide) ?_
  refine wk_iconst X dL_alike_15 ic_0 ?_
  exact wk_ireturn X dL_alike_16 hf
def e_L_alike (x0 : Nat) (x1 : Int32) (x2 : Nat) (h : hp_H) : Option (Int32 × hp_H) := (g_X10_alike x0 x1 h).bind (hx_c none (some 1))
set_option maxRecDepth 20000 in
theorem ce_L_alike (l : Launch) (hl : l.stackTraces = false) (x0 : Nat) (x1 : Int32) (x2 : Nat) (h : hp_H) (r : Int32 × hp_H) (hf : e_L_alike x0 x1 x2 h = some r) : mw l 9 1 6 yL_alike cL_alike 4 (some .int) [(0, 9, 12, 13)] [.ref x0, .int x1, .ref x2] h (some (.int r.1)) r.2 := by
  unfold e_L_alike at hf
  obtain ⟨⟨k, h'⟩, hg, hf⟩ := Option.bind_eq_some_iff.mp hf
  cases k with
  | zero =>
    exact nomatch (show (none : Option (Int32 × hp_H)) = some r from hf)
  | succ k =>
    have hf : some ((1 : Int32), h') = some r := hf
    cases hf
    refine mw_of (lv := [(0, .ref x0), (1, .int x1), (2, .ref x2)]) (by decide +kernel) (Nat.le_of_ble_eq_true rfl) rfl (fun p e s m args below meth c G hTb X => ?_)
    refine wk_aload_n X dL_alike_0 2 rfl ?_
    refine wk_iconst X dL_alike_1 ic_0 ?_
    refine wk_aload_n X dL_alike_2 0 rfl ?_
    refine wk_iload_n X dL_alike_3 1 rfl ?_
    exact wk_caught X [.int x1] [.int 0, .ref x2] dL_alike_4 rfl vo_L_99 rfl (by decide) (Nat.le_of_ble_eq_true rfl) (x_X10_alike l hl _ _ _ _ hg) [] ⟨0, 9, 12, 13⟩ [] (hTb.trans rfl) (fun z hz => nomatch hz) rfl (by decide) mq_L_13 (List.mem_cons_of_mem _ List.mem_cons_self) ⟨1, 3, 1, by decide, Or.inr ⟨⟨3, rfl, dL_alike_12⟩, rfl⟩, dL_alike_13, ic_1, dL_alike_14⟩
section Sf_L_apart
variable {p : Program} {l : Launch} {e : Env} {s : State} {m : MethodId} {args : Array Value} {below : List Frame} {meth : Method} {c : Code} {G : hp_G} {o : Int32 × hp_H}
end Sf_L_apart
def f_L_apart (x0 : Nat) (x1 : Int32) (x2 : Nat) (h : hp_H) : Option (Int32 × hp_H) := (f_X10_apart x0 x1 h).bind fun r1 => (wr_AJ r1.2 x2 0 (Int32.toInt64 r1.1)).bind fun h2 => some (0, h2)
set_option maxRecDepth 20000 in
theorem c_L_apart (l : Launch) (x0 : Nat) (x1 : Int32) (x2 : Nat) (h : hp_H) (r : Int32 × hp_H) (hf : f_L_apart x0 x1 x2 h = some r) : mw l 9 0 0 yL_apart cL_apart 4 (some .int) [(0, 9, 12, 13)] [.ref x0, .int x1, .ref x2] h (some (.int r.1)) r.2 := by
  unfold f_L_apart at hf
  refine mw_of (lv := [(0, .ref x0), (1, .int x1), (2, .ref x2)]) (by decide +kernel) (Nat.le_of_ble_eq_true rfl) rfl (fun p e s m args below meth c G _ X => ?_)
  refine wk_aload_n X dL_apart_0 2 rfl ?_
  refine wk_iconst X dL_apart_1 ic_0 ?_
  refine wk_aload_n X dL_apart_2 0 rfl ?_
  refine wk_iload_n X dL_apart_3 1 rfl ?_
  refine wk_callVi X [.int x1] [.int 0, .ref x2] dL_apart_4 rfl vo_L_59 rfl (by decide) (Nat.le_of_ble_eq_true rfl) hf (c_X10_apart l _ _ _) (fun r1 hf => ?_)
  refine wk_i2l X dL_apart_7 ?_
  refine wk_last X dL_apart_8 hf (fun h2 hf => ?_)
  refine wk_goto X 15 dL_apart_9 (by decide) ?_
  refine wk_iconst X dL_apart_15 ic_0 ?_
  exact wk_ireturn X dL_apart_16 hf
def e_L_apart (x0 : Nat) (x1 : Int32) (x2 : Nat) (h : hp_H) : Option (Int32 × hp_H) := (g_X10_apart x0 x1 h).bind (hx_c none (some 1))
set_option maxRecDepth 20000 in
theorem ce_L_apart (l : Launch) (hl : l.stackTraces = false) (x0 : Nat) (x1 : Int32) (x2 : Nat) (h : hp_H) (r : Int32 × hp_H) (hf : e_L_apart x0 x1 x2 h = some r) : mw l 9 1 6 yL_apart cL_apart 4 (some .int) [(0, 9, 12, 13)] [.ref x0, .int x1, .ref x2] h (some (.int r.1)) r.2 := by
  unfold e_L_apart at hf
  obtain ⟨⟨k, h'⟩, hg, hf⟩ := Option.bind_eq_some_iff.mp hf
  cases k with
  | zero =>
    exact nomatch (show (none : Option (Int32 × hp_H)) = some r from hf)
  | succ k =>
    have hf : some ((1 : Int32), h') = some r := hf
    cases hf
    refine mw_of (lv := [(0, .ref x0), (1, .int x1), (2, .ref x2)]) (by decide +kernel) (Nat.le_of_ble_eq_true rfl) rfl (fun p e s m args below meth c G hTb X => ?_)
    refine wk_aload_n X dL_apart_0 2 rfl ?_
    refine wk_iconst X dL_apart_1 ic_0 ?_
    refine wk_aload_n X dL_apart_2 0 rfl ?_
    refine wk_iload_n X dL_apart_3 1 rfl ?_
    exact wk_caught X [.int x1] [.int 0, .ref x2] dL_apart_4 rfl vo_L_59 rfl (by decide) (Nat.le_of_ble_eq_true rfl) (x_X10_apart l hl _ _ _ _ hg) [] ⟨0, 9, 12, 13⟩ [] (hTb.trans rfl) (fun z hz => nomatch hz) rfl (by decide) mq_L_13 (List.mem_cons_of_mem _ List.mem_cons_self) ⟨1, 3, 1, by decide, Or.inr ⟨⟨3, rfl, dL_apart_12⟩, rfl⟩, dL_apart_13, ic_1, dL_apart_14⟩
section Sf_L_army
variable {p : Program} {l : Launch} {e : Env} {s : State} {m : MethodId} {args : Array Value} {below : List Frame} {meth : Method} {c : Code} {G : hp_G} {o : Int32 × hp_H}
end Sf_L_army
def f_L_army (x0 : Nat) (x1 : Int32) (x2 : Nat) (h : hp_H) : Option (Int32 × hp_H) := (f_X10_army x0 x1 h).bind fun r1 => (wr_AJ r1.2 x2 0 (Int32.toInt64 r1.1)).bind fun h2 => some (0, h2)
set_option maxRecDepth 20000 in
theorem c_L_army (l : Launch) (x0 : Nat) (x1 : Int32) (x2 : Nat) (h : hp_H) (r : Int32 × hp_H) (hf : f_L_army x0 x1 x2 h = some r) : mw l 80 0 0 yL_army cL_army 4 (some .int) [(0, 9, 12, 13)] [.ref x0, .int x1, .ref x2] h (some (.int r.1)) r.2 := by
  unfold f_L_army at hf
  refine mw_of (lv := [(0, .ref x0), (1, .int x1), (2, .ref x2)]) (by decide +kernel) (Nat.le_of_ble_eq_true rfl) rfl (fun p e s m args below meth c G _ X => ?_)
  refine wk_aload_n X dL_army_0 2 rfl ?_
  refine wk_iconst X dL_army_1 ic_0 ?_
  refine wk_aload_n X dL_army_2 0 rfl ?_
  refine wk_iload_n X dL_army_3 1 rfl ?_
  refine wk_callVi X [.int x1] [.int 0, .ref x2] dL_army_4 rfl vo_L_7 rfl (by decide) (Nat.le_of_ble_eq_true rfl) hf (c_X10_army l _ _ _) (fun r1 hf => ?_)
  refine wk_i2l X dL_army_7 ?_
  refine wk_last X dL_army_8 hf (fun h2 hf => ?_)
  refine wk_goto X 15 dL_army_9 (by decide) ?_
  refine wk_iconst X dL_army_15 ic_0 ?_
  exact wk_ireturn X dL_army_16 hf
def e_L_army (x0 : Nat) (x1 : Int32) (x2 : Nat) (h : hp_H) : Option (Int32 × hp_H) := (g_X10_army x0 x1 h).bind (hx_c none (some 1))
set_option maxRecDepth 20000 in
theorem ce_L_army (l : Launch) (hl : l.stackTraces = false) (x0 : Nat) (x1 : Int32) (x2 : Nat) (h : hp_H) (r : Int32 × hp_H) (hf : e_L_army x0 x1 x2 h = some r) : mw l 80 1 6 yL_army cL_army 4 (some .int) [(0, 9, 12, 13)] [.ref x0, .int x1, .ref x2] h (some (.int r.1)) r.2 := by
  unfold e_L_army at hf
  obtain ⟨⟨k, h'⟩, hg, hf⟩ := Option.bind_eq_some_iff.mp hf
  cases k with
  | zero =>
    exact nomatch (show (none : Option (Int32 × hp_H)) = some r from hf)
  | succ k =>
    have hf : some ((1 : Int32), h') = some r := hf
    cases hf
    refine mw_of (lv := [(0, .ref x0), (1, .int x1), (2, .ref x2)]) (by decide +kernel) (Nat.le_of_ble_eq_true rfl) rfl (fun p e s m args below meth c G hTb X => ?_)
    refine wk_aload_n X dL_army_0 2 rfl ?_
    refine wk_iconst X dL_army_1 ic_0 ?_
    refine wk_aload_n X dL_army_2 0 rfl ?_
    refine wk_iload_n X dL_army_3 1 rfl ?_
    exact wk_caught X [.int x1] [.int 0, .ref x2] dL_army_4 rfl vo_L_7 rfl (by decide) (Nat.le_of_ble_eq_true rfl) (x_X10_army l hl _ _ _ _ hg) [] ⟨0, 9, 12, 13⟩ [] (hTb.trans rfl) (fun z hz => nomatch hz) rfl (by decide) mq_L_13 (List.mem_cons_of_mem _ List.mem_cons_self) ⟨1, 3, 1, by decide, Or.inr ⟨⟨3, rfl, dL_army_12⟩, rfl⟩, dL_army_13, ic_1, dL_army_14⟩
section Sf_L_byMud
variable {p : Program} {l : Launch} {e : Env} {s : State} {m : MethodId} {args : Array Value} {below : List Frame} {meth : Method} {c : Code} {G : hp_G} {o : Int32 × hp_H}
end Sf_L_byMud
def f_L_byMud (x0 : Nat) (x1 : Int32) (x2 : Int32) (x3 : Int32) (x4 : Nat) (h : hp_H) : Option (Int32 × hp_H) := (f_X10_byMud x0 x1 x2 x3 h).bind fun r1 => (wr_AJ r1.2 x4 0 (Int32.toInt64 r1.1)).bind fun h2 => some (0, h2)
set_option maxRecDepth 20000 in
theorem c_L_byMud (l : Launch) (x0 : Nat) (x1 : Int32) (x2 : Int32) (x3 : Int32) (x4 : Nat) (h : hp_H) (r : Int32 × hp_H) (hf : f_L_byMud x0 x1 x2 x3 x4 h = some r) : mw l 9 0 0 yL_byMud cL_byMud 6 (some .int) [(0, 12, 15, 18), (0, 12, 19, 13)] [.ref x0, .int x1, .int x2, .int x3, .ref x4] h (some (.int r.1)) r.2 := by
  unfold f_L_byMud at hf
  refine mw_of (lv := [(0, .ref x0), (1, .int x1), (2, .int x2), (3, .int x3), (4, .ref x4)]) (by decide +kernel) (Nat.le_of_ble_eq_true rfl) rfl (fun p e s m args below meth c G _ X => ?_)
  refine wk_aload X dL_byMud_0 4 rfl ?_
  refine wk_iconst X dL_byMud_2 ic_0 ?_
  refine wk_aload_n X dL_byMud_3 0 rfl ?_
  refine wk_iload_n X dL_byMud_4 1 rfl ?_
  refine wk_iload_n X dL_byMud_5 2 rfl ?_
  refine wk_iload_n X dL_byMud_6 3 rfl ?_
  refine wk_callVi X [.int x1, .int x2, .int x3] [.int 0, .ref x4] dL_byMud_7 rfl vo_L_87 rfl (by decide) (Nat.le_of_ble_eq_true rfl) hf (c_X10_byMud l _ _ _ _ _) (fun r1 hf => ?_)
  refine wk_i2l X dL_byMud_10 ?_
  refine wk_last X dL_byMud_11 hf (fun h2 hf => ?_)
  refine wk_goto X 23 dL_byMud_12 (by decide) ?_
  refine wk_iconst X dL_byMud_23 ic_0 ?_
  exact wk_ireturn X dL_byMud_24 hf
def e_L_byMud (x0 : Nat) (x1 : Int32) (x2 : Int32) (x3 : Int32) (x4 : Nat) (h : hp_H) : Option (Int32 × hp_H) := (g_X10_byMud x0 x1 x2 x3 h).bind (hx_c (some 1) (some 2))
set_option maxRecDepth 20000 in
theorem ce_L_byMud (l : Launch) (hl : l.stackTraces = false) (x0 : Nat) (x1 : Int32) (x2 : Int32) (x3 : Int32) (x4 : Nat) (h : hp_H) (r : Int32 × hp_H) (hf : e_L_byMud x0 x1 x2 x3 x4 h = some r) : mw l 9 1 6 yL_byMud cL_byMud 6 (some .int) [(0, 12, 15, 18), (0, 12, 19, 13)] [.ref x0, .int x1, .int x2, .int x3, .ref x4] h (some (.int r.1)) r.2 := by
  unfold e_L_byMud at hf
  obtain ⟨⟨k, h'⟩, hg, hf⟩ := Option.bind_eq_some_iff.mp hf
  cases k with
  | zero =>
    have hf : some ((1 : Int32), h') = some r := hf
    cases hf
    refine mw_of (lv := [(0, .ref x0), (1, .int x1), (2, .int x2), (3, .int x3), (4, .ref x4)]) (by decide +kernel) (Nat.le_of_ble_eq_true rfl) rfl (fun p e s m args below meth c G hTb X => ?_)
    refine wk_aload X dL_byMud_0 4 rfl ?_
    refine wk_iconst X dL_byMud_2 ic_0 ?_
    refine wk_aload_n X dL_byMud_3 0 rfl ?_
    refine wk_iload_n X dL_byMud_4 1 rfl ?_
    refine wk_iload_n X dL_byMud_5 2 rfl ?_
    refine wk_iload_n X dL_byMud_6 3 rfl ?_
    exact wk_caught X [.int x1, .int x2, .int x3] [.int 0, .ref x4] dL_byMud_7 rfl vo_L_87 rfl (by decide) (Nat.le_of_ble_eq_true rfl) (x_X10_byMud l hl _ _ _ _ _ _ hg) [] ⟨0, 12, 15, 18⟩ [⟨0, 12, 19, 13⟩] (hTb.trans rfl) (fun z hz => nomatch hz) rfl (by decide) mq_L_18 (List.mem_cons_self) ⟨1, 5, 2, by decide, Or.inl ⟨dL_byMud_15, rfl⟩, dL_byMud_17, ic_1, dL_byMud_18⟩
  | succ k =>
    have hf : some ((2 : Int32), h') = some r := hf
    cases hf
    refine mw_of (lv := [(0, .ref x0), (1, .int x1), (2, .int x2), (3, .int x3), (4, .ref x4)]) (by decide +kernel) (Nat.le_of_ble_eq_true rfl) rfl (fun p e s m args below meth c G hTb X => ?_)
    refine wk_aload X dL_byMud_0 4 rfl ?_
    refine wk_iconst X dL_byMud_2 ic_0 ?_
    refine wk_aload_n X dL_byMud_3 0 rfl ?_
    refine wk_iload_n X dL_byMud_4 1 rfl ?_
    refine wk_iload_n X dL_byMud_5 2 rfl ?_
    refine wk_iload_n X dL_byMud_6 3 rfl ?_
    exact wk_caught X [.int x1, .int x2, .int x3] [.int 0, .ref x4] dL_byMud_7 rfl vo_L_87 rfl (by decide) (Nat.le_of_ble_eq_true rfl) (x_X10_byMud l hl _ _ _ _ _ _ hg) [⟨0, 12, 15, 18⟩] ⟨0, 12, 19, 13⟩ [] (hTb.trans rfl) (fun z hz => by obtain rfl := List.mem_singleton.mp hz; exact ⟨by decide, mq_L_18, rfl⟩) rfl (by decide) mq_L_13 (List.mem_cons_of_mem _ List.mem_cons_self) ⟨2, 5, 2, by decide, Or.inl ⟨dL_byMud_19, rfl⟩, dL_byMud_21, ic_2, dL_byMud_22⟩
section Sf_L_chain
variable {p : Program} {l : Launch} {e : Env} {s : State} {m : MethodId} {args : Array Value} {below : List Frame} {meth : Method} {c : Code} {G : hp_G} {o : Int32 × hp_H}
end Sf_L_chain
def f_L_chain (x0 : Nat) (x1 : Int32) (x2 : Int32) (x3 : Int32) (x4 : Nat) (h : hp_H) : Option (Int32 × hp_H) := (f_X10_chain x0 x1 x2 x3 h).bind fun r1 => (wr_AJ r1.2 x4 0 (Int32.toInt64 r1.1)).bind fun h2 => some (0, h2)
set_option maxRecDepth 20000 in
theorem c_L_chain (l : Launch) (x0 : Nat) (x1 : Int32) (x2 : Int32) (x3 : Int32) (x4 : Nat) (h : hp_H) (r : Int32 × hp_H) (hf : f_L_chain x0 x1 x2 x3 x4 h = some r) : mw l 9 0 0 yL_chain cL_chain 6 (some .int) [(0, 12, 15, 18), (0, 12, 19, 13)] [.ref x0, .int x1, .int x2, .int x3, .ref x4] h (some (.int r.1)) r.2 := by
  unfold f_L_chain at hf
  refine mw_of (lv := [(0, .ref x0), (1, .int x1), (2, .int x2), (3, .int x3), (4, .ref x4)]) (by decide +kernel) (Nat.le_of_ble_eq_true rfl) rfl (fun p e s m args below meth c G _ X => ?_)
  refine wk_aload X dL_chain_0 4 rfl ?_
  refine wk_iconst X dL_chain_2 ic_0 ?_
  refine wk_aload_n X dL_chain_3 0 rfl ?_
  refine wk_iload_n X dL_chain_4 1 rfl ?_
  refine wk_iload_n X dL_chain_5 2 rfl ?_
  refine wk_iload_n X dL_chain_6 3 rfl ?_
  refine wk_callVi X [.int x1, .int x2, .int x3] [.int 0, .ref x4] dL_chain_7 rfl vo_L_108 rfl (by decide) (Nat.le_of_ble_eq_true rfl) hf (c_X10_chain l _ _ _ _ _) (fun r1 hf => ?_)
  refine wk_i2l X dL_chain_10 ?_
  refine wk_last X dL_chain_11 hf (fun h2 hf => ?_)
  refine wk_goto X 23 dL_chain_12 (by decide) ?_
  refine wk_iconst X dL_chain_23 ic_0 ?_
  exact wk_ireturn X dL_chain_24 hf
def e_L_chain (x0 : Nat) (x1 : Int32) (x2 : Int32) (x3 : Int32) (x4 : Nat) (h : hp_H) : Option (Int32 × hp_H) := (g_X10_chain x0 x1 x2 x3 h).bind (hx_c (some 1) (some 2))
set_option maxRecDepth 20000 in
theorem ce_L_chain (l : Launch) (hl : l.stackTraces = false) (x0 : Nat) (x1 : Int32) (x2 : Int32) (x3 : Int32) (x4 : Nat) (h : hp_H) (r : Int32 × hp_H) (hf : e_L_chain x0 x1 x2 x3 x4 h = some r) : mw l 9 1 6 yL_chain cL_chain 6 (some .int) [(0, 12, 15, 18), (0, 12, 19, 13)] [.ref x0, .int x1, .int x2, .int x3, .ref x4] h (some (.int r.1)) r.2 := by
  unfold e_L_chain at hf
  obtain ⟨⟨k, h'⟩, hg, hf⟩ := Option.bind_eq_some_iff.mp hf
  cases k with
  | zero =>
    have hf : some ((1 : Int32), h') = some r := hf
    cases hf
    refine mw_of (lv := [(0, .ref x0), (1, .int x1), (2, .int x2), (3, .int x3), (4, .ref x4)]) (by decide +kernel) (Nat.le_of_ble_eq_true rfl) rfl (fun p e s m args below meth c G hTb X => ?_)
    refine wk_aload X dL_chain_0 4 rfl ?_
    refine wk_iconst X dL_chain_2 ic_0 ?_
    refine wk_aload_n X dL_chain_3 0 rfl ?_
    refine wk_iload_n X dL_chain_4 1 rfl ?_
    refine wk_iload_n X dL_chain_5 2 rfl ?_
    refine wk_iload_n X dL_chain_6 3 rfl ?_
    exact wk_caught X [.int x1, .int x2, .int x3] [.int 0, .ref x4] dL_chain_7 rfl vo_L_108 rfl (by decide) (Nat.le_of_ble_eq_true rfl) (x_X10_chain l hl _ _ _ _ _ _ hg) [] ⟨0, 12, 15, 18⟩ [⟨0, 12, 19, 13⟩] (hTb.trans rfl) (fun z hz => nomatch hz) rfl (by decide) mq_L_18 (List.mem_cons_self) ⟨1, 5, 2, by decide, Or.inl ⟨dL_chain_15, rfl⟩, dL_chain_17, ic_1, dL_chain_18⟩
  | succ k =>
    have hf : some ((2 : Int32), h') = some r := hf
    cases hf
    refine mw_of (lv := [(0, .ref x0), (1, .int x1), (2, .int x2), (3, .int x3), (4, .ref x4)]) (by decide +kernel) (Nat.le_of_ble_eq_true rfl) rfl (fun p e s m args below meth c G hTb X => ?_)
    refine wk_aload X dL_chain_0 4 rfl ?_
    refine wk_iconst X dL_chain_2 ic_0 ?_
    refine wk_aload_n X dL_chain_3 0 rfl ?_
    refine wk_iload_n X dL_chain_4 1 rfl ?_
    refine wk_iload_n X dL_chain_5 2 rfl ?_
    refine wk_iload_n X dL_chain_6 3 rfl ?_
    exact wk_caught X [.int x1, .int x2, .int x3] [.int 0, .ref x4] dL_chain_7 rfl vo_L_108 rfl (by decide) (Nat.le_of_ble_eq_true rfl) (x_X10_chain l hl _ _ _ _ _ _ hg) [⟨0, 12, 15, 18⟩] ⟨0, 12, 19, 13⟩ [] (hTb.trans rfl) (fun z hz => by obtain rfl := List.mem_singleton.mp hz; exact ⟨by decide, mq_L_18, rfl⟩) rfl (by decide) mq_L_13 (List.mem_cons_of_mem _ List.mem_cons_self) ⟨2, 5, 2, by decide, Or.inl ⟨dL_chain_19, rfl⟩, dL_chain_21, ic_2, dL_chain_22⟩
section Sf_L_change
variable {p : Program} {l : Launch} {e : Env} {s : State} {m : MethodId} {args : Array Value} {below : List Frame} {meth : Method} {c : Code} {G : hp_G} {o : Int32 × hp_H}
def f_L_change_16 (t0 : Nat) (t1 : Int32) (t2 : Int64) (h : hp_H) : Option (Int32 × hp_H) := (wr_AJ h t0 t1 t2).bind fun h1 => some (0, h1)
set_option maxRecDepth 20000 in
theorem w_L_change_16 (X : wx G p s m args meth c cL_change 5 RL (some .int)) (t0 : Nat) (t1 : Int32) (t2 : Int64) (h : hp_H) (hf : f_L_change_16 t0 t1 t2 h = some o) : wq p l e (mt_R (9) 0 0) s m args below meth c (MQ below (mt_Q G (some (.int o.1)) o.2) args s 0 0 (hp_A G)) G 5 0 0 16 [] [.long t2, .int t1, .ref t0] h := by
  unfold f_L_change_16 at hf
  refine wk_last X dL_change_16 hf (fun h1 hf => ?_)
  refine wk_goto X 24 dL_change_17 (by decide) ?_
  refine wk_iconst X dL_change_24 ic_0 ?_
  exact wk_ireturn X dL_change_25 hf
end Sf_L_change
def f_L_change (x0 : Nat) (x1 : Int32) (x2 : Int32) (x3 : Nat) (h : hp_H) : Option (Int32 × hp_H) := (f_X10_change x0 x1 x2 h).bind fun r1 => if r1.1 = 0 then (f_L_change_16 x3 0 0 r1.2) else (f_L_change_16 x3 0 1 r1.2)
set_option maxRecDepth 20000 in
theorem c_L_change (l : Launch) (x0 : Nat) (x1 : Int32) (x2 : Int32) (x3 : Nat) (h : hp_H) (r : Int32 × hp_H) (hf : f_L_change x0 x1 x2 x3 h = some r) : mw l 9 0 0 yL_change cL_change 5 (some .int) [(0, 17, 20, 18)] [.ref x0, .int x1, .int x2, .ref x3] h (some (.int r.1)) r.2 := by
  unfold f_L_change at hf
  refine mw_of (lv := [(0, .ref x0), (1, .int x1), (2, .int x2), (3, .ref x3)]) (by decide +kernel) (Nat.le_of_ble_eq_true rfl) rfl (fun p e s m args below meth c G _ X => ?_)
  refine wk_aload_n X dL_change_0 3 rfl ?_
  refine wk_iconst X dL_change_1 ic_0 ?_
  refine wk_aload_n X dL_change_2 0 rfl ?_
  refine wk_iload_n X dL_change_3 1 rfl ?_
  refine wk_iload_n X dL_change_4 2 rfl ?_
  refine wk_callVi X [.int x1, .int x2] [.int 0, .ref x3] dL_change_5 rfl vo_L_36 rfl (by decide) (Nat.le_of_ble_eq_true rfl) hf (c_X10_change l _ _ _ _) (fun r1 hf => ?_)
  refine wk_if_eq X 15 dL_change_8 (by decide) hf (fun hf => ?_) (fun hf => ?_)
  · refine wk_lconst (v := 0) X dL_change_15 rfl ?_
    exact wq_sub [] rfl (w_L_change_16 X _ _ _ _ hf)
  · refine wk_lconst (v := 1) X dL_change_11 rfl ?_
    refine wk_goto X 16 dL_change_12 (by decide) ?_
    exact wq_sub [] rfl (w_L_change_16 X _ _ _ _ hf)
def e_L_change (x0 : Nat) (x1 : Int32) (x2 : Int32) (x3 : Nat) (h : hp_H) : Option (Int32 × hp_H) := (g_X10_change x0 x1 x2 h).bind (hx_c (some 1) none)
set_option maxRecDepth 20000 in
theorem ce_L_change (l : Launch) (hl : l.stackTraces = false) (x0 : Nat) (x1 : Int32) (x2 : Int32) (x3 : Nat) (h : hp_H) (r : Int32 × hp_H) (hf : e_L_change x0 x1 x2 x3 h = some r) : mw l 9 1 6 yL_change cL_change 5 (some .int) [(0, 17, 20, 18)] [.ref x0, .int x1, .int x2, .ref x3] h (some (.int r.1)) r.2 := by
  unfold e_L_change at hf
  obtain ⟨⟨k, h'⟩, hg, hf⟩ := Option.bind_eq_some_iff.mp hf
  cases k with
  | zero =>
    have hf : some ((1 : Int32), h') = some r := hf
    cases hf
    refine mw_of (lv := [(0, .ref x0), (1, .int x1), (2, .int x2), (3, .ref x3)]) (by decide +kernel) (Nat.le_of_ble_eq_true rfl) rfl (fun p e s m args below meth c G hTb X => ?_)
    refine wk_aload_n X dL_change_0 3 rfl ?_
    refine wk_iconst X dL_change_1 ic_0 ?_
    refine wk_aload_n X dL_change_2 0 rfl ?_
    refine wk_iload_n X dL_change_3 1 rfl ?_
    refine wk_iload_n X dL_change_4 2 rfl ?_
    exact wk_caught X [.int x1, .int x2] [.int 0, .ref x3] dL_change_5 rfl vo_L_36 rfl (by decide) (Nat.le_of_ble_eq_true rfl) (x_X10_change l hl _ _ _ _ _ hg) [] ⟨0, 17, 20, 18⟩ [] (hTb.trans rfl) (fun z hz => nomatch hz) rfl (by decide) mq_L_18 (List.mem_cons_self) ⟨1, 4, 2, by decide, Or.inl ⟨dL_change_20, rfl⟩, dL_change_22, ic_1, dL_change_23⟩
  | succ k =>
    exact nomatch (show (none : Option (Int32 × hp_H)) = some r from hf)
section Sf_L_count
variable {p : Program} {l : Launch} {e : Env} {s : State} {m : MethodId} {args : Array Value} {below : List Frame} {meth : Method} {c : Code} {G : hp_G} {o : Int32 × hp_H}
end Sf_L_count
def f_L_count (x0 : Nat) (x1 : Int32) (x2 : Nat) (h : hp_H) : Option (Int32 × hp_H) := (f_X10_count x0 x1 h).bind fun r1 => (wr_AJ r1.2 x2 0 (Int32.toInt64 r1.1)).bind fun h2 => some (0, h2)
set_option maxRecDepth 20000 in
theorem c_L_count (l : Launch) (x0 : Nat) (x1 : Int32) (x2 : Nat) (h : hp_H) (r : Int32 × hp_H) (hf : f_L_count x0 x1 x2 h = some r) : mw l 8 0 0 yL_count cL_count 4 (some .int) [(0, 9, 12, 18)] [.ref x0, .int x1, .ref x2] h (some (.int r.1)) r.2 := by
  unfold f_L_count at hf
  refine mw_of (lv := [(0, .ref x0), (1, .int x1), (2, .ref x2)]) (by decide +kernel) (Nat.le_of_ble_eq_true rfl) rfl (fun p e s m args below meth c G _ X => ?_)
  refine wk_aload_n X dL_count_0 2 rfl ?_
  refine wk_iconst X dL_count_1 ic_0 ?_
  refine wk_aload_n X dL_count_2 0 rfl ?_
  refine wk_iload_n X dL_count_3 1 rfl ?_
  refine wk_callVi X [.int x1] [.int 0, .ref x2] dL_count_4 rfl vo_L_15 rfl (by decide) (Nat.le_of_ble_eq_true rfl) hf (c_X10_count l _ _ _) (fun r1 hf => ?_)
  refine wk_i2l X dL_count_7 ?_
  refine wk_last X dL_count_8 hf (fun h2 hf => ?_)
  refine wk_goto X 15 dL_count_9 (by decide) ?_
  refine wk_iconst X dL_count_15 ic_0 ?_
  exact wk_ireturn X dL_count_16 hf
def e_L_count (x0 : Nat) (x1 : Int32) (x2 : Nat) (h : hp_H) : Option (Int32 × hp_H) := (g_X10_count x0 x1 h).bind (hx_c (some 1) none)
set_option maxRecDepth 20000 in
theorem ce_L_count (l : Launch) (hl : l.stackTraces = false) (x0 : Nat) (x1 : Int32) (x2 : Nat) (h : hp_H) (r : Int32 × hp_H) (hf : e_L_count x0 x1 x2 h = some r) : mw l 8 1 6 yL_count cL_count 4 (some .int) [(0, 9, 12, 18)] [.ref x0, .int x1, .ref x2] h (some (.int r.1)) r.2 := by
  unfold e_L_count at hf
  obtain ⟨⟨k, h'⟩, hg, hf⟩ := Option.bind_eq_some_iff.mp hf
  cases k with
  | zero =>
    have hf : some ((1 : Int32), h') = some r := hf
    cases hf
    refine mw_of (lv := [(0, .ref x0), (1, .int x1), (2, .ref x2)]) (by decide +kernel) (Nat.le_of_ble_eq_true rfl) rfl (fun p e s m args below meth c G hTb X => ?_)
    refine wk_aload_n X dL_count_0 2 rfl ?_
    refine wk_iconst X dL_count_1 ic_0 ?_
    refine wk_aload_n X dL_count_2 0 rfl ?_
    refine wk_iload_n X dL_count_3 1 rfl ?_
    exact wk_caught X [.int x1] [.int 0, .ref x2] dL_count_4 rfl vo_L_15 rfl (by decide) (Nat.le_of_ble_eq_true rfl) (x_X10_count l hl _ _ _ _ hg) [] ⟨0, 9, 12, 18⟩ [] (hTb.trans rfl) (fun z hz => nomatch hz) rfl (by decide) mq_L_18 (List.mem_cons_self) ⟨1, 3, 1, by decide, Or.inr ⟨⟨3, rfl, dL_count_12⟩, rfl⟩, dL_count_13, ic_1, dL_count_14⟩
  | succ k =>
    exact nomatch (show (none : Option (Int32 × hp_H)) = some r from hf)
section Sf_L_far
variable {p : Program} {l : Launch} {e : Env} {s : State} {m : MethodId} {args : Array Value} {below : List Frame} {meth : Method} {c : Code} {G : hp_G} {o : Int32 × hp_H}
end Sf_L_far
def f_L_far (x0 : Nat) (x1 : Int32) (x2 : Int32) (x3 : Nat) (h : hp_H) : Option (Int32 × hp_H) := (f_X10_far x0 x1 x2 h).bind fun r1 => (wr_AJ r1.2 x3 0 (Int32.toInt64 r1.1)).bind fun h2 => some (0, h2)
set_option maxRecDepth 20000 in
theorem c_L_far (l : Launch) (x0 : Nat) (x1 : Int32) (x2 : Int32) (x3 : Nat) (h : hp_H) (r : Int32 × hp_H) (hf : f_L_far x0 x1 x2 x3 h = some r) : mw l 9 0 0 yL_far cL_far 5 (some .int) [(0, 10, 13, 18)] [.ref x0, .int x1, .int x2, .ref x3] h (some (.int r.1)) r.2 := by
  unfold f_L_far at hf
  refine mw_of (lv := [(0, .ref x0), (1, .int x1), (2, .int x2), (3, .ref x3)]) (by decide +kernel) (Nat.le_of_ble_eq_true rfl) rfl (fun p e s m args below meth c G _ X => ?_)
  refine wk_aload_n X dL_far_0 3 rfl ?_
  refine wk_iconst X dL_far_1 ic_0 ?_
  refine wk_aload_n X dL_far_2 0 rfl ?_
  refine wk_iload_n X dL_far_3 1 rfl ?_
  refine wk_iload_n X dL_far_4 2 rfl ?_
  refine wk_callVi X [.int x1, .int x2] [.int 0, .ref x3] dL_far_5 rfl vo_L_56 rfl (by decide) (Nat.le_of_ble_eq_true rfl) hf (c_X10_far l _ _ _ _) (fun r1 hf => ?_)
  refine wk_i2l X dL_far_8 ?_
  refine wk_last X dL_far_9 hf (fun h2 hf => ?_)
  refine wk_goto X 17 dL_far_10 (by decide) ?_
  refine wk_iconst X dL_far_17 ic_0 ?_
  exact wk_ireturn X dL_far_18 hf
def e_L_far (x0 : Nat) (x1 : Int32) (x2 : Int32) (x3 : Nat) (h : hp_H) : Option (Int32 × hp_H) := (g_X10_far x0 x1 x2 h).bind (hx_c (some 1) none)
set_option maxRecDepth 20000 in
theorem ce_L_far (l : Launch) (hl : l.stackTraces = false) (x0 : Nat) (x1 : Int32) (x2 : Int32) (x3 : Nat) (h : hp_H) (r : Int32 × hp_H) (hf : e_L_far x0 x1 x2 x3 h = some r) : mw l 9 1 6 yL_far cL_far 5 (some .int) [(0, 10, 13, 18)] [.ref x0, .int x1, .int x2, .ref x3] h (some (.int r.1)) r.2 := by
  unfold e_L_far at hf
  obtain ⟨⟨k, h'⟩, hg, hf⟩ := Option.bind_eq_some_iff.mp hf
  cases k with
  | zero =>
    have hf : some ((1 : Int32), h') = some r := hf
    cases hf
    refine mw_of (lv := [(0, .ref x0), (1, .int x1), (2, .int x2), (3, .ref x3)]) (by decide +kernel) (Nat.le_of_ble_eq_true rfl) rfl (fun p e s m args below meth c G hTb X => ?_)
    refine wk_aload_n X dL_far_0 3 rfl ?_
    refine wk_iconst X dL_far_1 ic_0 ?_
    refine wk_aload_n X dL_far_2 0 rfl ?_
    refine wk_iload_n X dL_far_3 1 rfl ?_
    refine wk_iload_n X dL_far_4 2 rfl ?_
    exact wk_caught X [.int x1, .int x2] [.int 0, .ref x3] dL_far_5 rfl vo_L_56 rfl (by decide) (Nat.le_of_ble_eq_true rfl) (x_X10_far l hl _ _ _ _ _ hg) [] ⟨0, 10, 13, 18⟩ [] (hTb.trans rfl) (fun z hz => nomatch hz) rfl (by decide) mq_L_18 (List.mem_cons_self) ⟨1, 4, 2, by decide, Or.inl ⟨dL_far_13, rfl⟩, dL_far_15, ic_1, dL_far_16⟩
  | succ k =>
    exact nomatch (show (none : Option (Int32 × hp_H)) = some r from hf)
section Sf_L_first
variable {p : Program} {l : Launch} {e : Env} {s : State} {m : MethodId} {args : Array Value} {below : List Frame} {meth : Method} {c : Code} {G : hp_G} {o : Int32 × hp_H}
end Sf_L_first
def f_L_first (x0 : Nat) (x1 : Int32) (x2 : Nat) (h : hp_H) : Option (Int32 × hp_H) := (f_X10_first x0 x1 h).bind fun r1 => (wr_AJ r1.2 x2 0 (Int32.toInt64 r1.1)).bind fun h2 => some (0, h2)
set_option maxRecDepth 20000 in
theorem c_L_first (l : Launch) (x0 : Nat) (x1 : Int32) (x2 : Nat) (h : hp_H) (r : Int32 × hp_H) (hf : f_L_first x0 x1 x2 h = some r) : mw l 9 0 0 yL_first cL_first 4 (some .int) [(0, 9, 12, 18)] [.ref x0, .int x1, .ref x2] h (some (.int r.1)) r.2 := by
  unfold f_L_first at hf
  refine mw_of (lv := [(0, .ref x0), (1, .int x1), (2, .ref x2)]) (by decide +kernel) (Nat.le_of_ble_eq_true rfl) rfl (fun p e s m args below meth c G _ X => ?_)
  refine wk_aload_n X dL_first_0 2 rfl ?_
  refine wk_iconst X dL_first_1 ic_0 ?_
  refine wk_aload_n X dL_first_2 0 rfl ?_
  refine wk_iload_n X dL_first_3 1 rfl ?_
  refine wk_callVi X [.int x1] [.int 0, .ref x2] dL_first_4 rfl vo_L_47 rfl (by decide) (Nat.le_of_ble_eq_true rfl) hf (c_X10_first l _ _ _) (fun r1 hf => ?_)
  refine wk_i2l X dL_first_7 ?_
  refine wk_last X dL_first_8 hf (fun h2 hf => ?_)
  refine wk_goto X 15 dL_first_9 (by decide) ?_
  refine wk_iconst X dL_first_15 ic_0 ?_
  exact wk_ireturn X dL_first_16 hf
def e_L_first (x0 : Nat) (x1 : Int32) (x2 : Nat) (h : hp_H) : Option (Int32 × hp_H) := (g_X10_first x0 x1 h).bind (hx_c (some 1) none)
set_option maxRecDepth 20000 in
theorem ce_L_first (l : Launch) (hl : l.stackTraces = false) (x0 : Nat) (x1 : Int32) (x2 : Nat) (h : hp_H) (r : Int32 × hp_H) (hf : e_L_first x0 x1 x2 h = some r) : mw l 9 1 6 yL_first cL_first 4 (some .int) [(0, 9, 12, 18)] [.ref x0, .int x1, .ref x2] h (some (.int r.1)) r.2 := by
  unfold e_L_first at hf
  obtain ⟨⟨k, h'⟩, hg, hf⟩ := Option.bind_eq_some_iff.mp hf
  cases k with
  | zero =>
    have hf : some ((1 : Int32), h') = some r := hf
    cases hf
    refine mw_of (lv := [(0, .ref x0), (1, .int x1), (2, .ref x2)]) (by decide +kernel) (Nat.le_of_ble_eq_true rfl) rfl (fun p e s m args below meth c G hTb X => ?_)
    refine wk_aload_n X dL_first_0 2 rfl ?_
    refine wk_iconst X dL_first_1 ic_0 ?_
    refine wk_aload_n X dL_first_2 0 rfl ?_
    refine wk_iload_n X dL_first_3 1 rfl ?_
    exact wk_caught X [.int x1] [.int 0, .ref x2] dL_first_4 rfl vo_L_47 rfl (by decide) (Nat.le_of_ble_eq_true rfl) (x_X10_first l hl _ _ _ _ hg) [] ⟨0, 9, 12, 18⟩ [] (hTb.trans rfl) (fun z hz => nomatch hz) rfl (by decide) mq_L_18 (List.mem_cons_self) ⟨1, 3, 1, by decide, Or.inr ⟨⟨3, rfl, dL_first_12⟩, rfl⟩, dL_first_13, ic_1, dL_first_14⟩
  | succ k =>
    exact nomatch (show (none : Option (Int32 × hp_H)) = some r from hf)
section Sf_L_game
variable {p : Program} {l : Launch} {e : Env} {s : State} {m : MethodId} {args : Array Value} {below : List Frame} {meth : Method} {c : Code} {G : hp_G} {o : Int32 × hp_H}
end Sf_L_game
def f_L_game (x0 : Nat) (x1 : Int32) (x2 : Int32) (x3 : Int32) (x4 : Nat) (h : hp_H) : Option (Int32 × hp_H) := (f_X10_game x0 x1 x2 x3 h).bind fun r1 => (wr_AJ r1.2 x4 0 (Int32.toInt64 r1.1)).bind fun h2 => some (0, h2)
set_option maxRecDepth 20000 in
theorem c_L_game (l : Launch) (x0 : Nat) (x1 : Int32) (x2 : Int32) (x3 : Int32) (x4 : Nat) (h : hp_H) (r : Int32 × hp_H) (hf : f_L_game x0 x1 x2 x3 x4 h = some r) : mw l 9 0 0 yL_game cL_game 6 (some .int) [(0, 12, 15, 18), (0, 12, 19, 13)] [.ref x0, .int x1, .int x2, .int x3, .ref x4] h (some (.int r.1)) r.2 := by
  unfold f_L_game at hf
  refine mw_of (lv := [(0, .ref x0), (1, .int x1), (2, .int x2), (3, .int x3), (4, .ref x4)]) (by decide +kernel) (Nat.le_of_ble_eq_true rfl) rfl (fun p e s m args below meth c G _ X => ?_)
  refine wk_aload X dL_game_0 4 rfl ?_
  refine wk_iconst X dL_game_2 ic_0 ?_
  refine wk_aload_n X dL_game_3 0 rfl ?_
  refine wk_iload_n X dL_game_4 1 rfl ?_
  refine wk_iload_n X dL_game_5 2 rfl ?_
  refine wk_iload_n X dL_game_6 3 rfl ?_
  refine wk_callVi X [.int x1, .int x2, .int x3] [.int 0, .ref x4] dL_game_7 rfl vo_L_90 rfl (by decide) (Nat.le_of_ble_eq_true rfl) hf (c_X10_game l _ _ _ _ _) (fun r1 hf => ?_)
  refine wk_i2l X dL_game_10 ?_
  refine wk_last X dL_game_11 hf (fun h2 hf => ?_)
  refine wk_goto X 23 dL_game_12 (by decide) ?_
  refine wk_iconst X dL_game_23 ic_0 ?_
  exact wk_ireturn X dL_game_24 hf
def e_L_game (x0 : Nat) (x1 : Int32) (x2 : Int32) (x3 : Int32) (x4 : Nat) (h : hp_H) : Option (Int32 × hp_H) := (g_X10_game x0 x1 x2 x3 h).bind (hx_c (some 1) (some 2))
set_option maxRecDepth 20000 in
theorem ce_L_game (l : Launch) (hl : l.stackTraces = false) (x0 : Nat) (x1 : Int32) (x2 : Int32) (x3 : Int32) (x4 : Nat) (h : hp_H) (r : Int32 × hp_H) (hf : e_L_game x0 x1 x2 x3 x4 h = some r) : mw l 9 1 6 yL_game cL_game 6 (some .int) [(0, 12, 15, 18), (0, 12, 19, 13)] [.ref x0, .int x1, .int x2, .int x3, .ref x4] h (some (.int r.1)) r.2 := by
  unfold e_L_game at hf
  obtain ⟨⟨k, h'⟩, hg, hf⟩ := Option.bind_eq_some_iff.mp hf
  cases k with
  | zero =>
    have hf : some ((1 : Int32), h') = some r := hf
    cases hf
    refine mw_of (lv := [(0, .ref x0), (1, .int x1), (2, .int x2), (3, .int x3), (4, .ref x4)]) (by decide +kernel) (Nat.le_of_ble_eq_true rfl) rfl (fun p e s m args below meth c G hTb X => ?_)
    refine wk_aload X dL_game_0 4 rfl ?_
    refine wk_iconst X dL_game_2 ic_0 ?_
    refine wk_aload_n X dL_game_3 0 rfl ?_
    refine wk_iload_n X dL_game_4 1 rfl ?_
    refine wk_iload_n X dL_game_5 2 rfl ?_
    refine wk_iload_n X dL_game_6 3 rfl ?_
    exact wk_caught X [.int x1, .int x2, .int x3] [.int 0, .ref x4] dL_game_7 rfl vo_L_90 rfl (by decide) (Nat.le_of_ble_eq_true rfl) (x_X10_game l hl _ _ _ _ _ _ hg) [] ⟨0, 12, 15, 18⟩ [⟨0, 12, 19, 13⟩] (hTb.trans rfl) (fun z hz => nomatch hz) rfl (by decide) mq_L_18 (List.mem_cons_self) ⟨1, 5, 2, by decide, Or.inl ⟨dL_game_15, rfl⟩, dL_game_17, ic_1, dL_game_18⟩
  | succ k =>
    have hf : some ((2 : Int32), h') = some r := hf
    cases hf
    refine mw_of (lv := [(0, .ref x0), (1, .int x1), (2, .int x2), (3, .int x3), (4, .ref x4)]) (by decide +kernel) (Nat.le_of_ble_eq_true rfl) rfl (fun p e s m args below meth c G hTb X => ?_)
    refine wk_aload X dL_game_0 4 rfl ?_
    refine wk_iconst X dL_game_2 ic_0 ?_
    refine wk_aload_n X dL_game_3 0 rfl ?_
    refine wk_iload_n X dL_game_4 1 rfl ?_
    refine wk_iload_n X dL_game_5 2 rfl ?_
    refine wk_iload_n X dL_game_6 3 rfl ?_
    exact wk_caught X [.int x1, .int x2, .int x3] [.int 0, .ref x4] dL_game_7 rfl vo_L_90 rfl (by decide) (Nat.le_of_ble_eq_true rfl) (x_X10_game l hl _ _ _ _ _ _ hg) [⟨0, 12, 15, 18⟩] ⟨0, 12, 19, 13⟩ [] (hTb.trans rfl) (fun z hz => by obtain rfl := List.mem_singleton.mp hz; exact ⟨by decide, mq_L_18, rfl⟩) rfl (by decide) mq_L_13 (List.mem_cons_of_mem _ List.mem_cons_self) ⟨2, 5, 2, by decide, Or.inl ⟨dL_game_19, rfl⟩, dL_game_21, ic_2, dL_game_22⟩
section Sf_L_heel
variable {p : Program} {l : Launch} {e : Env} {s : State} {m : MethodId} {args : Array Value} {below : List Frame} {meth : Method} {c : Code} {G : hp_G} {o : Int32 × hp_H}
end Sf_L_heel
def f_L_heel (x0 : Nat) (x1 : Int32) (x2 : Int32) (x3 : Nat) (h : hp_H) : Option (Int32 × hp_H) := (f_X10_heel x0 x1 x2 h).bind fun r1 => (wr_AJ r1.2 x3 0 (Int32.toInt64 r1.1)).bind fun h2 => some (0, h2)
set_option maxRecDepth 20000 in
theorem c_L_heel (l : Launch) (x0 : Nat) (x1 : Int32) (x2 : Int32) (x3 : Nat) (h : hp_H) (r : Int32 × hp_H) (hf : f_L_heel x0 x1 x2 x3 h = some r) : mw l 9 0 0 yL_heel cL_heel 5 (some .int) [(0, 10, 13, 18)] [.ref x0, .int x1, .int x2, .ref x3] h (some (.int r.1)) r.2 := by
  unfold f_L_heel at hf
  refine mw_of (lv := [(0, .ref x0), (1, .int x1), (2, .int x2), (3, .ref x3)]) (by decide +kernel) (Nat.le_of_ble_eq_true rfl) rfl (fun p e s m args below meth c G _ X => ?_)
  refine wk_aload_n X dL_heel_0 3 rfl ?_
  refine wk_iconst X dL_heel_1 ic_0 ?_
  refine wk_aload_n X dL_heel_2 0 rfl ?_
  refine wk_iload_n X dL_heel_3 1 rfl ?_
  refine wk_iload_n X dL_heel_4 2 rfl ?_
  refine wk_callVi X [.int x1, .int x2] [.int 0, .ref x3] dL_heel_5 rfl vo_L_30 rfl (by decide) (Nat.le_of_ble_eq_true rfl) hf (c_X10_heel l _ _ _ _) (fun r1 hf => ?_)
  refine wk_i2l X dL_heel_8 ?_
  refine wk_last X dL_heel_9 hf (fun h2 hf => ?_)
  refine wk_goto X 17 dL_heel_10 (by decide) ?_
  refine wk_iconst X dL_heel_17 ic_0 ?_
  exact wk_ireturn X dL_heel_18 hf
def e_L_heel (x0 : Nat) (x1 : Int32) (x2 : Int32) (x3 : Nat) (h : hp_H) : Option (Int32 × hp_H) := (g_X10_heel x0 x1 x2 h).bind (hx_c (some 1) none)
set_option maxRecDepth 20000 in
theorem ce_L_heel (l : Launch) (hl : l.stackTraces = false) (x0 : Nat) (x1 : Int32) (x2 : Int32) (x3 : Nat) (h : hp_H) (r : Int32 × hp_H) (hf : e_L_heel x0 x1 x2 x3 h = some r) : mw l 9 1 6 yL_heel cL_heel 5 (some .int) [(0, 10, 13, 18)] [.ref x0, .int x1, .int x2, .ref x3] h (some (.int r.1)) r.2 := by
  unfold e_L_heel at hf
  obtain ⟨⟨k, h'⟩, hg, hf⟩ := Option.bind_eq_some_iff.mp hf
  cases k with
  | zero =>
    have hf : some ((1 : Int32), h') = some r := hf
    cases hf
    refine mw_of (lv := [(0, .ref x0), (1, .int x1), (2, .int x2), (3, .ref x3)]) (by decide +kernel) (Nat.le_of_ble_eq_true rfl) rfl (fun p e s m args below meth c G hTb X => ?_)
    refine wk_aload_n X dL_heel_0 3 rfl ?_
    refine wk_iconst X dL_heel_1 ic_0 ?_
    refine wk_aload_n X dL_heel_2 0 rfl ?_
    refine wk_iload_n X dL_heel_3 1 rfl ?_
    refine wk_iload_n X dL_heel_4 2 rfl ?_
    exact wk_caught X [.int x1, .int x2] [.int 0, .ref x3] dL_heel_5 rfl vo_L_30 rfl (by decide) (Nat.le_of_ble_eq_true rfl) (x_X10_heel l hl _ _ _ _ _ hg) [] ⟨0, 10, 13, 18⟩ [] (hTb.trans rfl) (fun z hz => nomatch hz) rfl (by decide) mq_L_18 (List.mem_cons_self) ⟨1, 4, 2, by decide, Or.inl ⟨dL_heel_13, rfl⟩, dL_heel_15, ic_1, dL_heel_16⟩
  | succ k =>
    exact nomatch (show (none : Option (Int32 × hp_H)) = some r from hf)
section Sf_L_hidden
variable {p : Program} {l : Launch} {e : Env} {s : State} {m : MethodId} {args : Array Value} {below : List Frame} {meth : Method} {c : Code} {G : hp_G} {o : Int32 × hp_H}
end Sf_L_hidden
def f_L_hidden (x0 : Nat) (x1 : Int32) (x2 : Nat) (h : hp_H) : Option (Int32 × hp_H) := (f_X10_hidden x0 x1 h).bind fun r1 => (wr_AJ r1.2 x2 0 (Int32.toInt64 r1.1)).bind fun h2 => some (0, h2)
set_option maxRecDepth 20000 in
theorem c_L_hidden (l : Launch) (x0 : Nat) (x1 : Int32) (x2 : Nat) (h : hp_H) (r : Int32 × hp_H) (hf : f_L_hidden x0 x1 x2 h = some r) : mw l 9 0 0 yL_hidden cL_hidden 4 (some .int) [(0, 9, 12, 18)] [.ref x0, .int x1, .ref x2] h (some (.int r.1)) r.2 := by
  unfold f_L_hidden at hf
  refine mw_of (lv := [(0, .ref x0), (1, .int x1), (2, .ref x2)]) (by decide +kernel) (Nat.le_of_ble_eq_true rfl) rfl (fun p e s m args below meth c G _ X => ?_)
  refine wk_aload_n X dL_hidden_0 2 rfl ?_
  refine wk_iconst X dL_hidden_1 ic_0 ?_
  refine wk_aload_n X dL_hidden_2 0 rfl ?_
  refine wk_iload_n X dL_hidden_3 1 rfl ?_
  refine wk_callVi X [.int x1] [.int 0, .ref x2] dL_hidden_4 rfl vo_L_68 rfl (by decide) (Nat.le_of_ble_eq_true rfl) hf (c_X10_hidden l _ _ _) (fun r1 hf => ?_)
  refine wk_i2l X dL_hidden_7 ?_
  refine wk_last X dL_hidden_8 hf (fun h2 hf => ?_)
  refine wk_goto X 15 dL_hidden_9 (by decide) ?_
  refine wk_iconst X dL_hidden_15 ic_0 ?_
  exact wk_ireturn X dL_hidden_16 hf
def e_L_hidden (x0 : Nat) (x1 : Int32) (x2 : Nat) (h : hp_H) : Option (Int32 × hp_H) := (g_X10_hidden x0 x1 h).bind (hx_c (some 1) none)
set_option maxRecDepth 20000 in
theorem ce_L_hidden (l : Launch) (hl : l.stackTraces = false) (x0 : Nat) (x1 : Int32) (x2 : Nat) (h : hp_H) (r : Int32 × hp_H) (hf : e_L_hidden x0 x1 x2 h = some r) : mw l 9 1 6 yL_hidden cL_hidden 4 (some .int) [(0, 9, 12, 18)] [.ref x0, .int x1, .ref x2] h (some (.int r.1)) r.2 := by
  unfold e_L_hidden at hf
  obtain ⟨⟨k, h'⟩, hg, hf⟩ := Option.bind_eq_some_iff.mp hf
  cases k with
  | zero =>
    have hf : some ((1 : Int32), h') = some r := hf
    cases hf
    refine mw_of (lv := [(0, .ref x0), (1, .int x1), (2, .ref x2)]) (by decide +kernel) (Nat.le_of_ble_eq_true rfl) rfl (fun p e s m args below meth c G hTb X => ?_)
    refine wk_aload_n X dL_hidden_0 2 rfl ?_
    refine wk_iconst X dL_hidden_1 ic_0 ?_
    refine wk_aload_n X dL_hidden_2 0 rfl ?_
    refine wk_iload_n X dL_hidden_3 1 rfl ?_
    exact wk_caught X [.int x1] [.int 0, .ref x2] dL_hidden_4 rfl vo_L_68 rfl (by decide) (Nat.le_of_ble_eq_true rfl) (x_X10_hidden l hl _ _ _ _ hg) [] ⟨0, 9, 12, 18⟩ [] (hTb.trans rfl) (fun z hz => nomatch hz) rfl (by decide) mq_L_18 (List.mem_cons_self) ⟨1, 3, 1, by decide, Or.inr ⟨⟨3, rfl, dL_hidden_12⟩, rfl⟩, dL_hidden_13, ic_1, dL_hidden_14⟩
  | succ k =>
    exact nomatch (show (none : Option (Int32 × hp_H)) = some r from hf)
section Sf_L_honour
variable {p : Program} {l : Launch} {e : Env} {s : State} {m : MethodId} {args : Array Value} {below : List Frame} {meth : Method} {c : Code} {G : hp_G} {o : Int32 × hp_H}
end Sf_L_honour
def f_L_honour (x0 : Nat) (x1 : Int32) (x2 : Int32) (x3 : Nat) (h : hp_H) : Option (Int32 × hp_H) := (f_X10_honour x0 x1 x2 h).bind fun r1 => (wr_AJ r1.2 x3 0 (Int32.toInt64 r1.1)).bind fun h2 => some (0, h2)
set_option maxRecDepth 20000 in
theorem c_L_honour (l : Launch) (x0 : Nat) (x1 : Int32) (x2 : Int32) (x3 : Nat) (h : hp_H) (r : Int32 × hp_H) (hf : f_L_honour x0 x1 x2 x3 h = some r) : mw l 9 0 0 yL_honour cL_honour 5 (some .int) [(0, 10, 13, 18), (0, 10, 17, 13)] [.ref x0, .int x1, .int x2, .ref x3] h (some (.int r.1)) r.2 := by
  unfold f_L_honour at hf
  refine mw_of (lv := [(0, .ref x0), (1, .int x1), (2, .int x2), (3, .ref x3)]) (by decide +kernel) (Nat.le_of_ble_eq_true rfl) rfl (fun p e s m args below meth c G _ X => ?_)
  refine wk_aload_n X dL_honour_0 3 rfl ?_
  refine wk_iconst X dL_honour_1 ic_0 ?_
  refine wk_aload_n X dL_honour_2 0 rfl ?_
  refine wk_iload_n X dL_honour_3 1 rfl ?_
  refine wk_iload_n X dL_honour_4 2 rfl ?_
  refine wk_callVi X [.int x1, .int x2] [.int 0, .ref x3] dL_honour_5 rfl vo_L_44 rfl (by decide) (Nat.le_of_ble_eq_true rfl) hf (c_X10_honour l _ _ _ _) (fun r1 hf => ?_)
  refine wk_i2l X dL_honour_8 ?_
  refine wk_last X dL_honour_9 hf (fun h2 hf => ?_)
  refine wk_goto X 21 dL_honour_10 (by decide) ?_
  refine wk_iconst X dL_honour_21 ic_0 ?_
  exact wk_ireturn X dL_honour_22 hf
def e_L_honour (x0 : Nat) (x1 : Int32) (x2 : Int32) (x3 : Nat) (h : hp_H) : Option (Int32 × hp_H) := (g_X10_honour x0 x1 x2 h).bind (hx_c (some 1) (some 2))
set_option maxRecDepth 20000 in
theorem ce_L_honour (l : Launch) (hl : l.stackTraces = false) (x0 : Nat) (x1 : Int32) (x2 : Int32) (x3 : Nat) (h : hp_H) (r : Int32 × hp_H) (hf : e_L_honour x0 x1 x2 x3 h = some r) : mw l 9 1 6 yL_honour cL_honour 5 (some .int) [(0, 10, 13, 18), (0, 10, 17, 13)] [.ref x0, .int x1, .int x2, .ref x3] h (some (.int r.1)) r.2 := by
  unfold e_L_honour at hf
  obtain ⟨⟨k, h'⟩, hg, hf⟩ := Option.bind_eq_some_iff.mp hf
  cases k with
  | zero =>
    have hf : some ((1 : Int32), h') = some r := hf
    cases hf
    refine mw_of (lv := [(0, .ref x0), (1, .int x1), (2, .int x2), (3, .ref x3)]) (by decide +kernel) (Nat.le_of_ble_eq_true rfl) rfl (fun p e s m args below meth c G hTb X => ?_)
    refine wk_aload_n X dL_honour_0 3 rfl ?_
    refine wk_iconst X dL_honour_1 ic_0 ?_
    refine wk_aload_n X dL_honour_2 0 rfl ?_
    refine wk_iload_n X dL_honour_3 1 rfl ?_
    refine wk_iload_n X dL_honour_4 2 rfl ?_
    exact wk_caught X [.int x1, .int x2] [.int 0, .ref x3] dL_honour_5 rfl vo_L_44 rfl (by decide) (Nat.le_of_ble_eq_true rfl) (x_X10_honour l hl _ _ _ _ _ hg) [] ⟨0, 10, 13, 18⟩ [⟨0, 10, 17, 13⟩] (hTb.trans rfl) (fun z hz => nomatch hz) rfl (by decide) mq_L_18 (List.mem_cons_self) ⟨1, 4, 2, by decide, Or.inl ⟨dL_honour_13, rfl⟩, dL_honour_15, ic_1, dL_honour_16⟩
  | succ k =>
    have hf : some ((2 : Int32), h') = some r := hf
    cases hf
    refine mw_of (lv := [(0, .ref x0), (1, .int x1), (2, .int x2), (3, .ref x3)]) (by decide +kernel) (Nat.le_of_ble_eq_true rfl) rfl (fun p e s m args below meth c G hTb X => ?_)
    refine wk_aload_n X dL_honour_0 3 rfl ?_
    refine wk_iconst X dL_honour_1 ic_0 ?_
    refine wk_aload_n X dL_honour_2 0 rfl ?_
    refine wk_iload_n X dL_honour_3 1 rfl ?_
    refine wk_iload_n X dL_honour_4 2 rfl ?_
    exact wk_caught X [.int x1, .int x2] [.int 0, .ref x3] dL_honour_5 rfl vo_L_44 rfl (by decide) (Nat.le_of_ble_eq_true rfl) (x_X10_honour l hl _ _ _ _ _ hg) [⟨0, 10, 13, 18⟩] ⟨0, 10, 17, 13⟩ [] (hTb.trans rfl) (fun z hz => by obtain rfl := List.mem_singleton.mp hz; exact ⟨by decide, mq_L_18, rfl⟩) rfl (by decide) mq_L_13 (List.mem_cons_of_mem _ List.mem_cons_self) ⟨2, 4, 2, by decide, Or.inl ⟨dL_honour_17, rfl⟩, dL_honour_19, ic_2, dL_honour_20⟩
section Sf_L_limped
variable {p : Program} {l : Launch} {e : Env} {s : State} {m : MethodId} {args : Array Value} {below : List Frame} {meth : Method} {c : Code} {G : hp_G} {o : Int32 × hp_H}
end Sf_L_limped
def f_L_limped (x0 : Nat) (x1 : Int32) (x2 : Nat) (h : hp_H) : Option (Int32 × hp_H) := (f_X10_limped x0 x1 h).bind fun r1 => (wr_AJ r1.2 x2 0 (Int32.toInt64 r1.1)).bind fun h2 => some (0, h2)
set_option maxRecDepth 20000 in
theorem c_L_limped (l : Launch) (x0 : Nat) (x1 : Int32) (x2 : Nat) (h : hp_H) (r : Int32 × hp_H) (hf : f_L_limped x0 x1 x2 h = some r) : mw l 9 0 0 yL_limped cL_limped 4 (some .int) [(0, 9, 12, 18)] [.ref x0, .int x1, .ref x2] h (some (.int r.1)) r.2 := by
  unfold f_L_limped at hf
  refine mw_of (lv := [(0, .ref x0), (1, .int x1), (2, .ref x2)]) (by decide +kernel) (Nat.le_of_ble_eq_true rfl) rfl (fun p e s m args below meth c G _ X => ?_)
  refine wk_aload_n X dL_limped_0 2 rfl ?_
  refine wk_iconst X dL_limped_1 ic_0 ?_
  refine wk_aload_n X dL_limped_2 0 rfl ?_
  refine wk_iload_n X dL_limped_3 1 rfl ?_
  refine wk_callVi X [.int x1] [.int 0, .ref x2] dL_limped_4 rfl vo_L_81 rfl (by decide) (Nat.le_of_ble_eq_true rfl) hf (c_X10_limped l _ _ _) (fun r1 hf => ?_)
  refine wk_i2l X dL_limped_7 ?_
  refine wk_last X dL_limped_8 hf (fun h2 hf => ?_)
  refine wk_goto X 15 dL_limped_9 (by decide) ?_
  refine wk_iconst X dL_limped_15 ic_0 ?_
  exact wk_ireturn X dL_limped_16 hf
def e_L_limped (x0 : Nat) (x1 : Int32) (x2 : Nat) (h : hp_H) : Option (Int32 × hp_H) := (g_X10_limped x0 x1 h).bind (hx_c (some 1) none)
set_option maxRecDepth 20000 in
theorem ce_L_limped (l : Launch) (hl : l.stackTraces = false) (x0 : Nat) (x1 : Int32) (x2 : Nat) (h : hp_H) (r : Int32 × hp_H) (hf : e_L_limped x0 x1 x2 h = some r) : mw l 9 1 6 yL_limped cL_limped 4 (some .int) [(0, 9, 12, 18)] [.ref x0, .int x1, .ref x2] h (some (.int r.1)) r.2 := by
  unfold e_L_limped at hf
  obtain ⟨⟨k, h'⟩, hg, hf⟩ := Option.bind_eq_some_iff.mp hf
  cases k with
  | zero =>
    have hf : some ((1 : Int32), h') = some r := hf
    cases hf
    refine mw_of (lv := [(0, .ref x0), (1, .int x1), (2, .ref x2)]) (by decide +kernel) (Nat.le_of_ble_eq_true rfl) rfl (fun p e s m args below meth c G hTb X => ?_)
    refine wk_aload_n X dL_limped_0 2 rfl ?_
    refine wk_iconst X dL_limped_1 ic_0 ?_
    refine wk_aload_n X dL_limped_2 0 rfl ?_
    refine wk_iload_n X dL_limped_3 1 rfl ?_
    exact wk_caught X [.int x1] [.int 0, .ref x2] dL_limped_4 rfl vo_L_81 rfl (by decide) (Nat.le_of_ble_eq_true rfl) (x_X10_limped l hl _ _ _ _ hg) [] ⟨0, 9, 12, 18⟩ [] (hTb.trans rfl) (fun z hz => nomatch hz) rfl (by decide) mq_L_18 (List.mem_cons_self) ⟨1, 3, 1, by decide, Or.inr ⟨⟨3, rfl, dL_limped_12⟩, rfl⟩, dL_limped_13, ic_1, dL_limped_14⟩
  | succ k =>
    exact nomatch (show (none : Option (Int32 × hp_H)) = some r from hf)
section Sf_L_lost
variable {p : Program} {l : Launch} {e : Env} {s : State} {m : MethodId} {args : Array Value} {below : List Frame} {meth : Method} {c : Code} {G : hp_G} {o : Int32 × hp_H}
end Sf_L_lost
def f_L_lost (x0 : Nat) (x1 : Int32) (x2 : Nat) (h : hp_H) : Option (Int32 × hp_H) := (f_X10_lost x0 x1 h).bind fun r1 => (wr_AJ r1.2 x2 0 (Int32.toInt64 r1.1)).bind fun h2 => some (0, h2)
set_option maxRecDepth 20000 in
theorem c_L_lost (l : Launch) (x0 : Nat) (x1 : Int32) (x2 : Nat) (h : hp_H) (r : Int32 × hp_H) (hf : f_L_lost x0 x1 x2 h = some r) : mw l 9 0 0 yL_lost cL_lost 4 (some .int) [(0, 9, 12, 18)] [.ref x0, .int x1, .ref x2] h (some (.int r.1)) r.2 := by
  unfold f_L_lost at hf
  refine mw_of (lv := [(0, .ref x0), (1, .int x1), (2, .ref x2)]) (by decide +kernel) (Nat.le_of_ble_eq_true rfl) rfl (fun p e s m args below meth c G _ X => ?_)
  refine wk_aload_n X dL_lost_0 2 rfl ?_
  refine wk_iconst X dL_lost_1 ic_0 ?_
  refine wk_aload_n X dL_lost_2 0 rfl ?_
  refine wk_iload_n X dL_lost_3 1 rfl ?_
  refine wk_callVi X [.int x1] [.int 0, .ref x2] dL_lost_4 rfl vo_L_102 rfl (by decide) (Nat.le_of_ble_eq_true rfl) hf (c_X10_lost l _ _ _) (fun r1 hf => ?_)
  refine wk_i2l X dL_lost_7 ?_
  refine wk_last X dL_lost_8 hf (fun h2 hf => ?_)
  refine wk_goto X 15 dL_lost_9 (by decide) ?_
  refine wk_iconst X dL_lost_15 ic_0 ?_
  exact wk_ireturn X dL_lost_16 hf
def e_L_lost (x0 : Nat) (x1 : Int32) (x2 : Nat) (h : hp_H) : Option (Int32 × hp_H) := (g_X10_lost x0 x1 h).bind (hx_c (some 1) none)
set_option maxRecDepth 20000 in
theorem ce_L_lost (l : Launch) (hl : l.stackTraces = false) (x0 : Nat) (x1 : Int32) (x2 : Nat) (h : hp_H) (r : Int32 × hp_H) (hf : e_L_lost x0 x1 x2 h = some r) : mw l 9 1 6 yL_lost cL_lost 4 (some .int) [(0, 9, 12, 18)] [.ref x0, .int x1, .ref x2] h (some (.int r.1)) r.2 := by
  unfold e_L_lost at hf
  obtain ⟨⟨k, h'⟩, hg, hf⟩ := Option.bind_eq_some_iff.mp hf
  cases k with
  | zero =>
    have hf : some ((1 : Int32), h') = some r := hf
    cases hf
    refine mw_of (lv := [(0, .ref x0), (1, .int x1), (2, .ref x2)]) (by decide +kernel) (Nat.le_of_ble_eq_true rfl) rfl (fun p e s m args below meth c G hTb X => ?_)
    refine wk_aload_n X dL_lost_0 2 rfl ?_
    refine wk_iconst X dL_lost_1 ic_0 ?_
    refine wk_aload_n X dL_lost_2 0 rfl ?_
    refine wk_iload_n X dL_lost_3 1 rfl ?_
    exact wk_caught X [.int x1] [.int 0, .ref x2] dL_lost_4 rfl vo_L_102 rfl (by decide) (Nat.le_of_ble_eq_true rfl) (x_X10_lost l hl _ _ _ _ hg) [] ⟨0, 9, 12, 18⟩ [] (hTb.trans rfl) (fun z hz => nomatch hz) rfl (by decide) mq_L_18 (List.mem_cons_self) ⟨1, 3, 1, by decide, Or.inr ⟨⟨3, rfl, dL_lost_12⟩, rfl⟩, dL_lost_13, ic_1, dL_lost_14⟩
  | succ k =>
    exact nomatch (show (none : Option (Int32 × hp_H)) = some r from hf)
section Sf_L_loud
variable {p : Program} {l : Launch} {e : Env} {s : State} {m : MethodId} {args : Array Value} {below : List Frame} {meth : Method} {c : Code} {G : hp_G} {o : Int32 × hp_H}
end Sf_L_loud
def f_L_loud (x0 : Nat) (x1 : Int32) (x2 : Int32) (x3 : Nat) (h : hp_H) : Option (Int32 × hp_H) := (f_X10_loud x0 x1 x2 h).bind fun r1 => (wr_AJ r1.2 x3 0 (Int32.toInt64 r1.1)).bind fun h2 => some (0, h2)
set_option maxRecDepth 20000 in
theorem c_L_loud (l : Launch) (x0 : Nat) (x1 : Int32) (x2 : Int32) (x3 : Nat) (h : hp_H) (r : Int32 × hp_H) (hf : f_L_loud x0 x1 x2 x3 h = some r) : mw l 9 0 0 yL_loud cL_loud 5 (some .int) [(0, 10, 13, 18)] [.ref x0, .int x1, .int x2, .ref x3] h (some (.int r.1)) r.2 := by
  unfold f_L_loud at hf
  refine mw_of (lv := [(0, .ref x0), (1, .int x1), (2, .int x2), (3, .ref x3)]) (by decide +kernel) (Nat.le_of_ble_eq_true rfl) rfl (fun p e s m args below meth c G _ X => ?_)
  refine wk_aload_n X dL_loud_0 3 rfl ?_
  refine wk_iconst X dL_loud_1 ic_0 ?_
  refine wk_aload_n X dL_loud_2 0 rfl ?_
  refine wk_iload_n X dL_loud_3 1 rfl ?_
  refine wk_iload_n X dL_loud_4 2 rfl ?_
  refine wk_callVi X [.int x1, .int x2] [.int 0, .ref x3] dL_loud_5 rfl vo_L_33 rfl (by decide) (Nat.le_of_ble_eq_true rfl) hf (c_X10_loud l _ _ _ _) (fun r1 hf => ?_)
  refine wk_i2l X dL_loud_8 ?_
  refine wk_last X dL_loud_9 hf (fun h2 hf => ?_)
  refine wk_goto X 17 dL_loud_10 (by decide) ?_
  refine wk_iconst X dL_loud_17 ic_0 ?_
  exact wk_ireturn X dL_loud_18 hf
def e_L_loud (x0 : Nat) (x1 : Int32) (x2 : Int32) (x3 : Nat) (h : hp_H) : Option (Int32 × hp_H) := (g_X10_loud x0 x1 x2 h).bind (hx_c (some 1) none)
set_option maxRecDepth 20000 in
theorem ce_L_loud (l : Launch) (hl : l.stackTraces = false) (x0 : Nat) (x1 : Int32) (x2 : Int32) (x3 : Nat) (h : hp_H) (r : Int32 × hp_H) (hf : e_L_loud x0 x1 x2 x3 h = some r) : mw l 9 1 6 yL_loud cL_loud 5 (some .int) [(0, 10, 13, 18)] [.ref x0, .int x1, .int x2, .ref x3] h (some (.int r.1)) r.2 := by
  unfold e_L_loud at hf
  obtain ⟨⟨k, h'⟩, hg, hf⟩ := Option.bind_eq_some_iff.mp hf
  cases k with
  | zero =>
    have hf : some ((1 : Int32), h') = some r := hf
    cases hf
    refine mw_of (lv := [(0, .ref x0), (1, .int x1), (2, .int x2), (3, .ref x3)]) (by decide +kernel) (Nat.le_of_ble_eq_true rfl) rfl (fun p e s m args below meth c G hTb X => ?_)
    refine wk_aload_n X dL_loud_0 3 rfl ?_
    refine wk_iconst X dL_loud_1 ic_0 ?_
    refine wk_aload_n X dL_loud_2 0 rfl ?_
    refine wk_iload_n X dL_loud_3 1 rfl ?_
    refine wk_iload_n X dL_loud_4 2 rfl ?_
    exact wk_caught X [.int x1, .int x2] [.int 0, .ref x3] dL_loud_5 rfl vo_L_33 rfl (by decide) (Nat.le_of_ble_eq_true rfl) (x_X10_loud l hl _ _ _ _ _ hg) [] ⟨0, 10, 13, 18⟩ [] (hTb.trans rfl) (fun z hz => nomatch hz) rfl (by decide) mq_L_18 (List.mem_cons_self) ⟨1, 4, 2, by decide, Or.inl ⟨dL_loud_13, rfl⟩, dL_loud_15, ic_1, dL_loud_16⟩
  | succ k =>
    exact nomatch (show (none : Option (Int32 × hp_H)) = some r from hf)
section Sf_L_man
variable {p : Program} {l : Launch} {e : Env} {s : State} {m : MethodId} {args : Array Value} {below : List Frame} {meth : Method} {c : Code} {G : hp_G} {o : Int32 × hp_H}
end Sf_L_man
def f_L_man (x0 : Nat) (x1 : Int32) (x2 : Int32) (x3 : Nat) (h : hp_H) : Option (Int32 × hp_H) := (f_X10_man x0 x1 x2 h).bind fun r1 => (wr_AJ r1.2 x3 0 (Int32.toInt64 r1.1)).bind fun h2 => some (0, h2)
set_option maxRecDepth 20000 in
theorem c_L_man (l : Launch) (x0 : Nat) (x1 : Int32) (x2 : Int32) (x3 : Nat) (h : hp_H) (r : Int32 × hp_H) (hf : f_L_man x0 x1 x2 x3 h = some r) : mw l 9 0 0 yL_man cL_man 5 (some .int) [(0, 10, 13, 18)] [.ref x0, .int x1, .int x2, .ref x3] h (some (.int r.1)) r.2 := by
  unfold f_L_man at hf
  refine mw_of (lv := [(0, .ref x0), (1, .int x1), (2, .int x2), (3, .ref x3)]) (by decide +kernel) (Nat.le_of_ble_eq_true rfl) rfl (fun p e s m args below meth c G _ X => ?_)
  refine wk_aload_n X dL_man_0 3 rfl ?_
  refine wk_iconst X dL_man_1 ic_0 ?_
  refine wk_aload_n X dL_man_2 0 rfl ?_
  refine wk_iload_n X dL_man_3 1 rfl ?_
  refine wk_iload_n X dL_man_4 2 rfl ?_
  refine wk_callVi X [.int x1, .int x2] [.int 0, .ref x3] dL_man_5 rfl vo_L_20 rfl (by decide) (Nat.le_of_ble_eq_true rfl) hf (c_X10_man l _ _ _ _) (fun r1 hf => ?_)
  refine wk_i2l X dL_man_8 ?_
  refine wk_last X dL_man_9 hf (fun h2 hf => ?_)
  refine wk_goto X 17 dL_man_10 (by decide) ?_
  refine wk_iconst X dL_man_17 ic_0 ?_
  exact wk_ireturn X dL_man_18 hf
def e_L_man (x0 : Nat) (x1 : Int32) (x2 : Int32) (x3 : Nat) (h : hp_H) : Option (Int32 × hp_H) := (g_X10_man x0 x1 x2 h).bind (hx_c (some 1) none)
set_option maxRecDepth 20000 in
theorem ce_L_man (l : Launch) (hl : l.stackTraces = false) (x0 : Nat) (x1 : Int32) (x2 : Int32) (x3 : Nat) (h : hp_H) (r : Int32 × hp_H) (hf : e_L_man x0 x1 x2 x3 h = some r) : mw l 9 1 6 yL_man cL_man 5 (some .int) [(0, 10, 13, 18)] [.ref x0, .int x1, .int x2, .ref x3] h (some (.int r.1)) r.2 := by
  unfold e_L_man at hf
  obtain ⟨⟨k, h'⟩, hg, hf⟩ := Option.bind_eq_some_iff.mp hf
  cases k with
  | zero =>
    have hf : some ((1 : Int32), h') = some r := hf
    cases hf
    refine mw_of (lv := [(0, .ref x0), (1, .int x1), (2, .int x2), (3, .ref x3)]) (by decide +kernel) (Nat.le_of_ble_eq_true rfl) rfl (fun p e s m args below meth c G hTb X => ?_)
    refine wk_aload_n X dL_man_0 3 rfl ?_
    refine wk_iconst X dL_man_1 ic_0 ?_
    refine wk_aload_n X dL_man_2 0 rfl ?_
    refine wk_iload_n X dL_man_3 1 rfl ?_
    refine wk_iload_n X dL_man_4 2 rfl ?_
    exact wk_caught X [.int x1, .int x2] [.int 0, .ref x3] dL_man_5 rfl vo_L_20 rfl (by decide) (Nat.le_of_ble_eq_true rfl) (x_X10_man l hl _ _ _ _ _ hg) [] ⟨0, 10, 13, 18⟩ [] (hTb.trans rfl) (fun z hz => nomatch hz) rfl (by decide) mq_L_18 (List.mem_cons_self) ⟨1, 4, 2, by decide, Or.inl ⟨dL_man_13, rfl⟩, dL_man_15, ic_1, dL_man_16⟩
  | succ k =>
    exact nomatch (show (none : Option (Int32 × hp_H)) = some r from hf)
section Sf_L_mates
variable {p : Program} {l : Launch} {e : Env} {s : State} {m : MethodId} {args : Array Value} {below : List Frame} {meth : Method} {c : Code} {G : hp_G} {o : Int32 × hp_H}
end Sf_L_mates
def f_L_mates (x0 : Nat) (x1 : Int32) (x2 : Nat) (h : hp_H) : Option (Int32 × hp_H) := (f_X10_mates x0 x1 h).bind fun r1 => (wr_AJ r1.2 x2 0 (Int32.toInt64 r1.1)).bind fun h2 => some (0, h2)
set_option maxRecDepth 20000 in
theorem c_L_mates (l : Launch) (x0 : Nat) (x1 : Int32) (x2 : Nat) (h : hp_H) (r : Int32 × hp_H) (hf : f_L_mates x0 x1 x2 h = some r) : mw l 9 0 0 yL_mates cL_mates 4 (some .int) [(0, 9, 12, 18)] [.ref x0, .int x1, .ref x2] h (some (.int r.1)) r.2 := by
  unfold f_L_mates at hf
  refine mw_of (lv := [(0, .ref x0), (1, .int x1), (2, .ref x2)]) (by decide +kernel) (Nat.le_of_ble_eq_true rfl) rfl (fun p e s m args below meth c G _ X => ?_)
  refine wk_aload_n X dL_mates_0 2 rfl ?_
  refine wk_iconst X dL_mates_1 ic_0 ?_
  refine wk_aload_n X dL_mates_2 0 rfl ?_
  refine wk_iload_n X dL_mates_3 1 rfl ?_
  refine wk_callVi X [.int x1] [.int 0, .ref x2] dL_mates_4 rfl vo_L_105 rfl (by decide) (Nat.le_of_ble_eq_true rfl) hf (c_X10_mates l _ _ _) (fun r1 hf => ?_)
  refine wk_i2l X dL_mates_7 ?_
  refine wk_last X dL_mates_8 hf (fun h2 hf => ?_)
  refine wk_goto X 15 dL_mates_9 (by decide) ?_
  refine wk_iconst X dL_mates_15 ic_0 ?_
  exact wk_ireturn X dL_mates_16 hf
def e_L_mates (x0 : Nat) (x1 : Int32) (x2 : Nat) (h : hp_H) : Option (Int32 × hp_H) := (g_X10_mates x0 x1 h).bind (hx_c (some 1) none)
set_option maxRecDepth 20000 in
theorem ce_L_mates (l : Launch) (hl : l.stackTraces = false) (x0 : Nat) (x1 : Int32) (x2 : Nat) (h : hp_H) (r : Int32 × hp_H) (hf : e_L_mates x0 x1 x2 h = some r) : mw l 9 1 6 yL_mates cL_mates 4 (some .int) [(0, 9, 12, 18)] [.ref x0, .int x1, .ref x2] h (some (.int r.1)) r.2 := by
  unfold e_L_mates at hf
  obtain ⟨⟨k, h'⟩, hg, hf⟩ := Option.bind_eq_some_iff.mp hf
  cases k with
  | zero =>
    have hf : some ((1 : Int32), h') = some r := hf
    cases hf
    refine mw_of (lv := [(0, .ref x0), (1, .int x1), (2, .ref x2)]) (by decide +kernel) (Nat.le_of_ble_eq_true rfl) rfl (fun p e s m args below meth c G hTb X => ?_)
    refine wk_aload_n X dL_mates_0 2 rfl ?_
    refine wk_iconst X dL_mates_1 ic_0 ?_
    refine wk_aload_n X dL_mates_2 0 rfl ?_
    refine wk_iload_n X dL_mates_3 1 rfl ?_
    exact wk_caught X [.int x1] [.int 0, .ref x2] dL_mates_4 rfl vo_L_105 rfl (by decide) (Nat.le_of_ble_eq_true rfl) (x_X10_mates l hl _ _ _ _ hg) [] ⟨0, 9, 12, 18⟩ [] (hTb.trans rfl) (fun z hz => nomatch hz) rfl (by decide) mq_L_18 (List.mem_cons_self) ⟨1, 3, 1, by decide, Or.inr ⟨⟨3, rfl, dL_mates_12⟩, rfl⟩, dL_mates_13, ic_1, dL_mates_14⟩
  | succ k =>
    exact nomatch (show (none : Option (Int32 × hp_H)) = some r from hf)
section Sf_L_mistaken
variable {p : Program} {l : Launch} {e : Env} {s : State} {m : MethodId} {args : Array Value} {below : List Frame} {meth : Method} {c : Code} {G : hp_G} {o : Int32 × hp_H}
end Sf_L_mistaken
def f_L_mistaken (x0 : Nat) (x1 : Int32) (x2 : Nat) (h : hp_H) : Option (Int32 × hp_H) := (f_X10_mistaken x0 x1 h).bind fun r1 => (wr_AJ r1.2 x2 0 (Int32.toInt64 r1.1)).bind fun h2 => some (0, h2)
set_option maxRecDepth 20000 in
theorem c_L_mistaken (l : Launch) (x0 : Nat) (x1 : Int32) (x2 : Nat) (h : hp_H) (r : Int32 × hp_H) (hf : f_L_mistaken x0 x1 x2 h = some r) : mw l 9 0 0 yL_mistaken cL_mistaken 4 (some .int) [(0, 9, 12, 13)] [.ref x0, .int x1, .ref x2] h (some (.int r.1)) r.2 := by
  unfold f_L_mistaken at hf
  refine mw_of (lv := [(0, .ref x0), (1, .int x1), (2, .ref x2)]) (by decide +kernel) (Nat.le_of_ble_eq_true rfl) rfl (fun p e s m args below meth c G _ X => ?_)
  refine wk_aload_n X dL_mistaken_0 2 rfl ?_
  refine wk_iconst X dL_mistaken_1 ic_0 ?_
  refine wk_aload_n X dL_mistaken_2 0 rfl ?_
  refine wk_iload_n X dL_mistaken_3 1 rfl ?_
  refine wk_callVi X [.int x1] [.int 0, .ref x2] dL_mistaken_4 rfl vo_L_50 rfl (by decide) (Nat.le_of_ble_eq_true rfl) hf (c_X10_mistaken l _ _ _) (fun r1 hf => ?_)
  refine wk_i2l X dL_mistaken_7 ?_
  refine wk_last X dL_mistaken_8 hf (fun h2 hf => ?_)
  refine wk_goto X 15 dL_mistaken_9 (by decide) ?_
  refine wk_iconst X dL_mistaken_15 ic_0 ?_
  exact wk_ireturn X dL_mistaken_16 hf
def e_L_mistaken (x0 : Nat) (x1 : Int32) (x2 : Nat) (h : hp_H) : Option (Int32 × hp_H) := (g_X10_mistaken x0 x1 h).bind (hx_c none (some 1))
set_option maxRecDepth 20000 in
theorem ce_L_mistaken (l : Launch) (hl : l.stackTraces = false) (x0 : Nat) (x1 : Int32) (x2 : Nat) (h : hp_H) (r : Int32 × hp_H) (hf : e_L_mistaken x0 x1 x2 h = some r) : mw l 9 1 6 yL_mistaken cL_mistaken 4 (some .int) [(0, 9, 12, 13)] [.ref x0, .int x1, .ref x2] h (some (.int r.1)) r.2 := by
  unfold e_L_mistaken at hf
  obtain ⟨⟨k, h'⟩, hg, hf⟩ := Option.bind_eq_some_iff.mp hf
  cases k with
  | zero =>
    exact nomatch (show (none : Option (Int32 × hp_H)) = some r from hf)
  | succ k =>
    have hf : some ((1 : Int32), h') = some r := hf
    cases hf
    refine mw_of (lv := [(0, .ref x0), (1, .int x1), (2, .ref x2)]) (by decide +kernel) (Nat.le_of_ble_eq_true rfl) rfl (fun p e s m args below meth c G hTb X => ?_)
    refine wk_aload_n X dL_mistaken_0 2 rfl ?_
    refine wk_iconst X dL_mistaken_1 ic_0 ?_
    refine wk_aload_n X dL_mistaken_2 0 rfl ?_
    refine wk_iload_n X dL_mistaken_3 1 rfl ?_
    exact wk_caught X [.int x1] [.int 0, .ref x2] dL_mistaken_4 rfl vo_L_50 rfl (by decide) (Nat.le_of_ble_eq_true rfl) (x_X10_mistaken l hl _ _ _ _ hg) [] ⟨0, 9, 12, 13⟩ [] (hTb.trans rfl) (fun z hz => nomatch hz) rfl (by decide) mq_L_13 (List.mem_cons_of_mem _ List.mem_cons_self) ⟨1, 3, 1, by decide, Or.inr ⟨⟨3, rfl, dL_mistaken_12⟩, rfl⟩, dL_mistaken_13, ic_1, dL_mistaken_14⟩
section Sf_L_most
variable {p : Program} {l : Launch} {e : Env} {s : State} {m : MethodId} {args : Array Value} {below : List Frame} {meth : Method} {c : Code} {G : hp_G} {o : Int32 × hp_H}
end Sf_L_most
def f_L_most (x0 : Nat) (x1 : Int32) (x2 : Nat) (h : hp_H) : Option (Int32 × hp_H) := (f_X10_most x0 x1 h).bind fun r1 => (wr_AJ r1.2 x2 0 (Int32.toInt64 r1.1)).bind fun h2 => some (0, h2)
set_option maxRecDepth 20000 in
theorem c_L_most (l : Launch) (x0 : Nat) (x1 : Int32) (x2 : Nat) (h : hp_H) (r : Int32 × hp_H) (hf : f_L_most x0 x1 x2 h = some r) : mw l 9 0 0 yL_most cL_most 4 (some .int) [(0, 9, 12, 13)] [.ref x0, .int x1, .ref x2] h (some (.int r.1)) r.2 := by
  unfold f_L_most at hf
  refine mw_of (lv := [(0, .ref x0), (1, .int x1), (2, .ref x2)]) (by decide +kernel) (Nat.le_of_ble_eq_true rfl) rfl (fun p e s m args below meth c G _ X => ?_)
  refine wk_aload_n X dL_most_0 2 rfl ?_
  refine wk_iconst X dL_most_1 ic_0 ?_
  refine wk_aload_n X dL_most_2 0 rfl ?_
  refine wk_iload_n X dL_most_3 1 rfl ?_
  refine wk_callVi X [.int x1] [.int 0, .ref x2] dL_most_4 rfl vo_L_111 rfl (by decide) (Nat.le_of_ble_eq_true rfl) hf (c_X10_most l _ _ _) (fun r1 hf => ?_)
  refine wk_i2l X dL_most_7 ?_
  refine wk_last X dL_most_8 hf (fun h2 hf => ?_)
  refine wk_goto X 15 dL_most_9 (by decide) ?_
  refine wk_iconst X dL_most_15 ic_0 ?_
  exact wk_ireturn X dL_most_16 hf
def e_L_most (x0 : Nat) (x1 : Int32) (x2 : Nat) (h : hp_H) : Option (Int32 × hp_H) := (g_X10_most x0 x1 h).bind (hx_c none (some 1))
set_option maxRecDepth 20000 in
theorem ce_L_most (l : Launch) (hl : l.stackTraces = false) (x0 : Nat) (x1 : Int32) (x2 : Nat) (h : hp_H) (r : Int32 × hp_H) (hf : e_L_most x0 x1 x2 h = some r) : mw l 9 1 6 yL_most cL_most 4 (some .int) [(0, 9, 12, 13)] [.ref x0, .int x1, .ref x2] h (some (.int r.1)) r.2 := by
  unfold e_L_most at hf
  obtain ⟨⟨k, h'⟩, hg, hf⟩ := Option.bind_eq_some_iff.mp hf
  cases k with
  | zero =>
    exact nomatch (show (none : Option (Int32 × hp_H)) = some r from hf)
  | succ k =>
    have hf : some ((1 : Int32), h') = some r := hf
    cases hf
    refine mw_of (lv := [(0, .ref x0), (1, .int x1), (2, .ref x2)]) (by decide +kernel) (Nat.le_of_ble_eq_true rfl) rfl (fun p e s m args below meth c G hTb X => ?_)
    refine wk_aload_n X dL_most_0 2 rfl ?_
    refine wk_iconst X dL_most_1 ic_0 ?_
    refine wk_aload_n X dL_most_2 0 rfl ?_
    refine wk_iload_n X dL_most_3 1 rfl ?_
    exact wk_caught X [.int x1] [.int 0, .ref x2] dL_most_4 rfl vo_L_111 rfl (by decide) (Nat.le_of_ble_eq_true rfl) (x_X10_most l hl _ _ _ _ hg) [] ⟨0, 9, 12, 13⟩ [] (hTb.trans rfl) (fun z hz => nomatch hz) rfl (by decide) mq_L_13 (List.mem_cons_of_mem _ List.mem_cons_self) ⟨1, 3, 1, by decide, Or.inr ⟨⟨3, rfl, dL_most_12⟩, rfl⟩, dL_most_13, ic_1, dL_most_14⟩
section Sf_L_next
variable {p : Program} {l : Launch} {e : Env} {s : State} {m : MethodId} {args : Array Value} {below : List Frame} {meth : Method} {c : Code} {G : hp_G} {o : Int32 × hp_H}
end Sf_L_next
def f_L_next (x0 : Nat) (x1 : Int32) (x2 : Nat) (h : hp_H) : Option (Int32 × hp_H) := (f_X10_next x0 x1 h).bind fun r1 => (wr_AJ r1.2 x2 0 (Int32.toInt64 r1.1)).bind fun h2 => some (0, h2)
set_option maxRecDepth 20000 in
theorem c_L_next (l : Launch) (x0 : Nat) (x1 : Int32) (x2 : Nat) (h : hp_H) (r : Int32 × hp_H) (hf : f_L_next x0 x1 x2 h = some r) : mw l 9 0 0 yL_next cL_next 4 (some .int) [(0, 9, 12, 18)] [.ref x0, .int x1, .ref x2] h (some (.int r.1)) r.2 := by
  unfold f_L_next at hf
  refine mw_of (lv := [(0, .ref x0), (1, .int x1), (2, .ref x2)]) (by decide +kernel) (Nat.le_of_ble_eq_true rfl) rfl (fun p e s m args below meth c G _ X => ?_)
  refine wk_aload_n X dL_next_0 2 rfl ?_
  refine wk_iconst X dL_next_1 ic_0 ?_
  refine wk_aload_n X dL_next_2 0 rfl ?_
  refine wk_iload_n X dL_next_3 1 rfl ?_
  refine wk_callVi X [.int x1] [.int 0, .ref x2] dL_next_4 rfl vo_L_84 rfl (by decide) (Nat.le_of_ble_eq_true rfl) hf (c_X10_next l _ _ _) (fun r1 hf => ?_)
  refine wk_i2l X dL_next_7 ?_
  refine wk_last X dL_next_8 hf (fun h2 hf => ?_)
  refine wk_goto X 15 dL_next_9 (by decide) ?_
  refine wk_iconst X dL_next_15 ic_0 ?_
  exact wk_ireturn X dL_next_16 hf
def e_L_next (x0 : Nat) (x1 : Int32) (x2 : Nat) (h : hp_H) : Option (Int32 × hp_H) := (g_X10_next x0 x1 h).bind (hx_c (some 1) none)
set_option maxRecDepth 20000 in
theorem ce_L_next (l : Launch) (hl : l.stackTraces = false) (x0 : Nat) (x1 : Int32) (x2 : Nat) (h : hp_H) (r : Int32 × hp_H) (hf : e_L_next x0 x1 x2 h = some r) : mw l 9 1 6 yL_next cL_next 4 (some .int) [(0, 9, 12, 18)] [.ref x0, .int x1, .ref x2] h (some (.int r.1)) r.2 := by
  unfold e_L_next at hf
  obtain ⟨⟨k, h'⟩, hg, hf⟩ := Option.bind_eq_some_iff.mp hf
  cases k with
  | zero =>
    have hf : some ((1 : Int32), h') = some r := hf
    cases hf
    refine mw_of (lv := [(0, .ref x0), (1, .int x1), (2, .ref x2)]) (by decide +kernel) (Nat.le_of_ble_eq_true rfl) rfl (fun p e s m args below meth c G hTb X => ?_)
    refine wk_aload_n X dL_next_0 2 rfl ?_
    refine wk_iconst X dL_next_1 ic_0 ?_
    refine wk_aload_n X dL_next_2 0 rfl ?_
    refine wk_iload_n X dL_next_3 1 rfl ?_
    exact wk_caught X [.int x1] [.int 0, .ref x2] dL_next_4 rfl vo_L_84 rfl (by decide) (Nat.le_of_ble_eq_true rfl) (x_X10_next l hl _ _ _ _ hg) [] ⟨0, 9, 12, 18⟩ [] (hTb.trans rfl) (fun z hz => nomatch hz) rfl (by decide) mq_L_18 (List.mem_cons_self) ⟨1, 3, 1, by decide, Or.inr ⟨⟨3, rfl, dL_next_12⟩, rfl⟩, dL_next_13, ic_1, dL_next_14⟩
  | succ k =>
    exact nomatch (show (none : Option (Int32 × hp_H)) = some r from hf)
section Sf_L_nextTo
variable {p : Program} {l : Launch} {e : Env} {s : State} {m : MethodId} {args : Array Value} {below : List Frame} {meth : Method} {c : Code} {G : hp_G} {o : Int32 × hp_H}
end Sf_L_nextTo
def f_L_nextTo (x0 : Nat) (x1 : Int32) (x2 : Nat) (h : hp_H) : Option (Int32 × hp_H) := (f_X10_nextTo x0 x1 h).bind fun r1 => (wr_AJ r1.2 x2 0 (Int32.toInt64 r1.1)).bind fun h2 => some (0, h2)
set_option maxRecDepth 20000 in
theorem c_L_nextTo (l : Launch) (x0 : Nat) (x1 : Int32) (x2 : Nat) (h : hp_H) (r : Int32 × hp_H) (hf : f_L_nextTo x0 x1 x2 h = some r) : mw l 9 0 0 yL_nextTo cL_nextTo 4 (some .int) [(0, 9, 12, 13)] [.ref x0, .int x1, .ref x2] h (some (.int r.1)) r.2 := by
  unfold f_L_nextTo at hf
  refine mw_of (lv := [(0, .ref x0), (1, .int x1), (2, .ref x2)]) (by decide +kernel) (Nat.le_of_ble_eq_true rfl) rfl (fun p e s m args below meth c G _ X => ?_)
  refine wk_aload_n X dL_nextTo_0 2 rfl ?_
  refine wk_iconst X dL_nextTo_1 ic_0 ?_
  refine wk_aload_n X dL_nextTo_2 0 rfl ?_
  refine wk_iload_n X dL_nextTo_3 1 rfl ?_
  refine wk_callVi X [.int x1] [.int 0, .ref x2] dL_nextTo_4 rfl vo_L_96 rfl (by decide) (Nat.le_of_ble_eq_true rfl) hf (c_X10_nextTo l _ _ _) (fun r1 hf => ?_)
  refine wk_i2l X dL_nextTo_7 ?_
  refine wk_last X dL_nextTo_8 hf (fun h2 hf => ?_)
  refine wk_goto X 15 dL_nextTo_9 (by decide) ?_
  refine wk_iconst X dL_nextTo_15 ic_0 ?_
  exact wk_ireturn X dL_nextTo_16 hf
def e_L_nextTo (x0 : Nat) (x1 : Int32) (x2 : Nat) (h : hp_H) : Option (Int32 × hp_H) := (g_X10_nextTo x0 x1 h).bind (hx_c none (some 1))
set_option maxRecDepth 20000 in
theorem ce_L_nextTo (l : Launch) (hl : l.stackTraces = false) (x0 : Nat) (x1 : Int32) (x2 : Nat) (h : hp_H) (r : Int32 × hp_H) (hf : e_L_nextTo x0 x1 x2 h = some r) : mw l 9 1 6 yL_nextTo cL_nextTo 4 (some .int) [(0, 9, 12, 13)] [.ref x0, .int x1, .ref x2] h (some (.int r.1)) r.2 := by
  unfold e_L_nextTo at hf
  obtain ⟨⟨k, h'⟩, hg, hf⟩ := Option.bind_eq_some_iff.mp hf
  cases k with
  | zero =>
    exact nomatch (show (none : Option (Int32 × hp_H)) = some r from hf)
  | succ k =>
    have hf : some ((1 : Int32), h') = some r := hf
    cases hf
    refine mw_of (lv := [(0, .ref x0), (1, .int x1), (2, .ref x2)]) (by decide +kernel) (Nat.le_of_ble_eq_true rfl) rfl (fun p e s m args below meth c G hTb X => ?_)
    refine wk_aload_n X dL_nextTo_0 2 rfl ?_
    refine wk_iconst X dL_nextTo_1 ic_0 ?_
    refine wk_aload_n X dL_nextTo_2 0 rfl ?_
    refine wk_iload_n X dL_nextTo_3 1 rfl ?_
    exact wk_caught X [.int x1] [.int 0, .ref x2] dL_nextTo_4 rfl vo_L_96 rfl (by decide) (Nat.le_of_ble_eq_true rfl) (x_X10_nextTo l hl _ _ _ _ hg) [] ⟨0, 9, 12, 13⟩ [] (hTb.trans rfl) (fun z hz => nomatch hz) rfl (by decide) mq_L_13 (List.mem_cons_of_mem _ List.mem_cons_self) ⟨1, 3, 1, by decide, Or.inr ⟨⟨3, rfl, dL_nextTo_12⟩, rfl⟩, dL_nextTo_13, ic_1, dL_nextTo_14⟩
section Sf_L_often
variable {p : Program} {l : Launch} {e : Env} {s : State} {m : MethodId} {args : Array Value} {below : List Frame} {meth : Method} {c : Code} {G : hp_G} {o : Int32 × hp_H}
end Sf_L_often
def f_L_often (x0 : Nat) (x1 : Int32) (x2 : Int32) (x3 : Nat) (h : hp_H) : Option (Int32 × hp_H) := (f_X10_often x0 x1 x2 h).bind fun r1 => (wr_AJ r1.2 x3 0 (Int32.toInt64 r1.1)).bind fun h2 => some (0, h2)
set_option maxRecDepth 20000 in
theorem c_L_often (l : Launch) (x0 : Nat) (x1 : Int32) (x2 : Int32) (x3 : Nat) (h : hp_H) (r : Int32 × hp_H) (hf : f_L_often x0 x1 x2 x3 h = some r) : mw l 9 0 0 yL_often cL_often 5 (some .int) [(0, 10, 13, 18), (0, 10, 17, 13)] [.ref x0, .int x1, .int x2, .ref x3] h (some (.int r.1)) r.2 := by
  unfold f_L_often at hf
  refine mw_of (lv := [(0, .ref x0), (1, .int x1), (2, .int x2), (3, .ref x3)]) (by decide +kernel) (Nat.le_of_ble_eq_true rfl) rfl (fun p e s m args below meth c G _ X => ?_)
  refine wk_aload_n X dL_often_0 3 rfl ?_
  refine wk_iconst X dL_often_1 ic_0 ?_
  refine wk_aload_n X dL_often_2 0 rfl ?_
  refine wk_iload_n X dL_often_3 1 rfl ?_
  refine wk_iload_n X dL_often_4 2 rfl ?_
  refine wk_callVi X [.int x1, .int x2] [.int 0, .ref x3] dL_often_5 rfl vo_L_114 rfl (by decide) (Nat.le_of_ble_eq_true rfl) hf (c_X10_often l _ _ _ _) (fun r1 hf => ?_)
  refine wk_i2l X dL_often_8 ?_
  refine wk_last X dL_often_9 hf (fun h2 hf => ?_)
  refine wk_goto X 21 dL_often_10 (by decide) ?_
  refine wk_iconst X dL_often_21 ic_0 ?_
  exact wk_ireturn X dL_often_22 hf
def e_L_often (x0 : Nat) (x1 : Int32) (x2 : Int32) (x3 : Nat) (h : hp_H) : Option (Int32 × hp_H) := (g_X10_often x0 x1 x2 h).bind (hx_c (some 1) (some 2))
set_option maxRecDepth 20000 in
theorem ce_L_often (l : Launch) (hl : l.stackTraces = false) (x0 : Nat) (x1 : Int32) (x2 : Int32) (x3 : Nat) (h : hp_H) (r : Int32 × hp_H) (hf : e_L_often x0 x1 x2 x3 h = some r) : mw l 9 1 6 yL_often cL_often 5 (some .int) [(0, 10, 13, 18), (0, 10, 17, 13)] [.ref x0, .int x1, .int x2, .ref x3] h (some (.int r.1)) r.2 := by
  unfold e_L_often at hf
  obtain ⟨⟨k, h'⟩, hg, hf⟩ := Option.bind_eq_some_iff.mp hf
  cases k with
  | zero =>
    have hf : some ((1 : Int32), h') = some r := hf
    cases hf
    refine mw_of (lv := [(0, .ref x0), (1, .int x1), (2, .int x2), (3, .ref x3)]) (by decide +kernel) (Nat.le_of_ble_eq_true rfl) rfl (fun p e s m args below meth c G hTb X => ?_)
    refine wk_aload_n X dL_often_0 3 rfl ?_
    refine wk_iconst X dL_often_1 ic_0 ?_
    refine wk_aload_n X dL_often_2 0 rfl ?_
    refine wk_iload_n X dL_often_3 1 rfl ?_
    refine wk_iload_n X dL_often_4 2 rfl ?_
    exact wk_caught X [.int x1, .int x2] [.int 0, .ref x3] dL_often_5 rfl vo_L_114 rfl (by decide) (Nat.le_of_ble_eq_true rfl) (x_X10_often l hl _ _ _ _ _ hg) [] ⟨0, 10, 13, 18⟩ [⟨0, 10, 17, 13⟩] (hTb.trans rfl) (fun z hz => nomatch hz) rfl (by decide) mq_L_18 (List.mem_cons_self) ⟨1, 4, 2, by decide, Or.inl ⟨dL_often_13, rfl⟩, dL_often_15, ic_1, dL_often_16⟩
  | succ k =>
    have hf : some ((2 : Int32), h') = some r := hf
    cases hf
    refine mw_of (lv := [(0, .ref x0), (1, .int x1), (2, .int x2), (3, .ref x3)]) (by decide +kernel) (Nat.le_of_ble_eq_true rfl) rfl (fun p e s m args below meth c G hTb X => ?_)
    refine wk_aload_n X dL_often_0 3 rfl ?_
    refine wk_iconst X dL_often_1 ic_0 ?_
    refine wk_aload_n X dL_often_2 0 rfl ?_
    refine wk_iload_n X dL_often_3 1 rfl ?_
    refine wk_iload_n X dL_often_4 2 rfl ?_
    exact wk_caught X [.int x1, .int x2] [.int 0, .ref x3] dL_often_5 rfl vo_L_114 rfl (by decide) (Nat.le_of_ble_eq_true rfl) (x_X10_often l hl _ _ _ _ _ hg) [⟨0, 10, 13, 18⟩] ⟨0, 10, 17, 13⟩ [] (hTb.trans rfl) (fun z hz => by obtain rfl := List.mem_singleton.mp hz; exact ⟨by decide, mq_L_18, rfl⟩) rfl (by decide) mq_L_13 (List.mem_cons_of_mem _ List.mem_cons_self) ⟨2, 4, 2, by decide, Or.inl ⟨dL_often_17, rfl⟩, dL_often_19, ic_2, dL_often_20⟩
section Sf_L_passes
variable {p : Program} {l : Launch} {e : Env} {s : State} {m : MethodId} {args : Array Value} {below : List Frame} {meth : Method} {c : Code} {G : hp_G} {o : Int32 × hp_H}
end Sf_L_passes
def f_L_passes (x0 : Nat) (x1 : Int32) (x2 : Int32) (x3 : Nat) (h : hp_H) : Option (Int32 × hp_H) := (f_X10_passes x0 x1 x2 h).bind fun r1 => (wr_AJ r1.2 x3 0 (Int32.toInt64 r1.1)).bind fun h2 => some (0, h2)
set_option maxRecDepth 20000 in
theorem c_L_passes (l : Launch) (x0 : Nat) (x1 : Int32) (x2 : Int32) (x3 : Nat) (h : hp_H) (r : Int32 × hp_H) (hf : f_L_passes x0 x1 x2 x3 h = some r) : mw l 9 0 0 yL_passes cL_passes 5 (some .int) [(0, 10, 13, 18)] [.ref x0, .int x1, .int x2, .ref x3] h (some (.int r.1)) r.2 := by
  unfold f_L_passes at hf
  refine mw_of (lv := [(0, .ref x0), (1, .int x1), (2, .int x2), (3, .ref x3)]) (by decide +kernel) (Nat.le_of_ble_eq_true rfl) rfl (fun p e s m args below meth c G _ X => ?_)
  refine wk_aload_n X dL_passes_0 3 rfl ?_
  refine wk_iconst X dL_passes_1 ic_0 ?_
  refine wk_aload_n X dL_passes_2 0 rfl ?_
  refine wk_iload_n X dL_passes_3 1 rfl ?_
  refine wk_iload_n X dL_passes_4 2 rfl ?_
  refine wk_callVi X [.int x1, .int x2] [.int 0, .ref x3] dL_passes_5 rfl vo_L_65 rfl (by decide) (Nat.le_of_ble_eq_true rfl) hf (c_X10_passes l _ _ _ _) (fun r1 hf => ?_)
  refine wk_i2l X dL_passes_8 ?_
  refine wk_last X dL_passes_9 hf (fun h2 hf => ?_)
  refine wk_goto X 17 dL_passes_10 (by decide) ?_
  refine wk_iconst X dL_passes_17 ic_0 ?_
  exact wk_ireturn X dL_passes_18 hf
def e_L_passes (x0 : Nat) (x1 : Int32) (x2 : Int32) (x3 : Nat) (h : hp_H) : Option (Int32 × hp_H) := (g_X10_passes x0 x1 x2 h).bind (hx_c (some 1) none)
set_option maxRecDepth 20000 in
theorem ce_L_passes (l : Launch) (hl : l.stackTraces = false) (x0 : Nat) (x1 : Int32) (x2 : Int32) (x3 : Nat) (h : hp_H) (r : Int32 × hp_H) (hf : e_L_passes x0 x1 x2 x3 h = some r) : mw l 9 1 6 yL_passes cL_passes 5 (some .int) [(0, 10, 13, 18)] [.ref x0, .int x1, .int x2, .ref x3] h (some (.int r.1)) r.2 := by
  unfold e_L_passes at hf
  obtain ⟨⟨k, h'⟩, hg, hf⟩ := Option.bind_eq_some_iff.mp hf
  cases k with
  | zero =>
    have hf : some ((1 : Int32), h') = some r := hf
    cases hf
    refine mw_of (lv := [(0, .ref x0), (1, .int x1), (2, .int x2), (3, .ref x3)]) (by decide +kernel) (Nat.le_of_ble_eq_true rfl) rfl (fun p e s m args below meth c G hTb X => ?_)
    refine wk_aload_n X dL_passes_0 3 rfl ?_
    refine wk_iconst X dL_passes_1 ic_0 ?_
    refine wk_aload_n X dL_passes_2 0 rfl ?_
    refine wk_iload_n X dL_passes_3 1 rfl ?_
    refine wk_iload_n X dL_passes_4 2 rfl ?_
    exact wk_caught X [.int x1, .int x2] [.int 0, .ref x3] dL_passes_5 rfl vo_L_65 rfl (by decide) (Nat.le_of_ble_eq_true rfl) (x_X10_passes l hl _ _ _ _ _ hg) [] ⟨0, 10, 13, 18⟩ [] (hTb.trans rfl) (fun z hz => nomatch hz) rfl (by decide) mq_L_18 (List.mem_cons_self) ⟨1, 4, 2, by decide, Or.inl ⟨dL_passes_13, rfl⟩, dL_passes_15, ic_1, dL_passes_16⟩
  | succ k =>
    exact nomatch (show (none : Option (Int32 × hp_H)) = some r from hf)
section Sf_L_put
variable {p : Program} {l : Launch} {e : Env} {s : State} {m : MethodId} {args : Array Value} {below : List Frame} {meth : Method} {c : Code} {G : hp_G} {o : Int32 × hp_H}
end Sf_L_put
def f_L_put (x0 : Nat) (x1 : Int32) (x2 : Int32) (x3 : Nat) (h : hp_H) : Option (Int32 × hp_H) := (f_X10_put x0 x1 x2 h).bind fun r1 => (wr_AJ r1.2 x3 0 (Int32.toInt64 r1.1)).bind fun h2 => some (0, h2)
set_option maxRecDepth 20000 in
theorem c_L_put (l : Launch) (x0 : Nat) (x1 : Int32) (x2 : Int32) (x3 : Nat) (h : hp_H) (r : Int32 × hp_H) (hf : f_L_put x0 x1 x2 x3 h = some r) : mw l 9 0 0 yL_put cL_put 5 (some .int) [(0, 10, 13, 18)] [.ref x0, .int x1, .int x2, .ref x3] h (some (.int r.1)) r.2 := by
  unfold f_L_put at hf
  refine mw_of (lv := [(0, .ref x0), (1, .int x1), (2, .int x2), (3, .ref x3)]) (by decide +kernel) (Nat.le_of_ble_eq_true rfl) rfl (fun p e s m args below meth c G _ X => ?_)
  refine wk_aload_n X dL_put_0 3 rfl ?_
  refine wk_iconst X dL_put_1 ic_0 ?_
  refine wk_aload_n X dL_put_2 0 rfl ?_
  refine wk_iload_n X dL_put_3 1 rfl ?_
  refine wk_iload_n X dL_put_4 2 rfl ?_
  refine wk_callVi X [.int x1, .int x2] [.int 0, .ref x3] dL_put_5 rfl vo_L_27 rfl (by decide) (Nat.le_of_ble_eq_true rfl) hf (c_X10_put l _ _ _ _) (fun r1 hf => ?_)
  refine wk_i2l X dL_put_8 ?_
  refine wk_last X dL_put_9 hf (fun h2 hf => ?_)
  refine wk_goto X 17 dL_put_10 (by decide) ?_
  refine wk_iconst X dL_put_17 ic_0 ?_
  exact wk_ireturn X dL_put_18 hf
def e_L_put (x0 : Nat) (x1 : Int32) (x2 : Int32) (x3 : Nat) (h : hp_H) : Option (Int32 × hp_H) := (g_X10_put x0 x1 x2 h).bind (hx_c (some 1) none)
set_option maxRecDepth 20000 in
theorem ce_L_put (l : Launch) (hl : l.stackTraces = false) (x0 : Nat) (x1 : Int32) (x2 : Int32) (x3 : Nat) (h : hp_H) (r : Int32 × hp_H) (hf : e_L_put x0 x1 x2 x3 h = some r) : mw l 9 1 6 yL_put cL_put 5 (some .int) [(0, 10, 13, 18)] [.ref x0, .int x1, .int x2, .ref x3] h (some (.int r.1)) r.2 := by
  unfold e_L_put at hf
  obtain ⟨⟨k, h'⟩, hg, hf⟩ := Option.bind_eq_some_iff.mp hf
  cases k with
  | zero =>
    have hf : some ((1 : Int32), h') = some r := hf
    cases hf
    refine mw_of (lv := [(0, .ref x0), (1, .int x1), (2, .int x2), (3, .ref x3)]) (by decide +kernel) (Nat.le_of_ble_eq_true rfl) rfl (fun p e s m args below meth c G hTb X => ?_)
    refine wk_aload_n X dL_put_0 3 rfl ?_
    refine wk_iconst X dL_put_1 ic_0 ?_
    refine wk_aload_n X dL_put_2 0 rfl ?_
    refine wk_iload_n X dL_put_3 1 rfl ?_
    refine wk_iload_n X dL_put_4 2 rfl ?_
    exact wk_caught X [.int x1, .int x2] [.int 0, .ref x3] dL_put_5 rfl vo_L_27 rfl (by decide) (Nat.le_of_ble_eq_true rfl) (x_X10_put l hl _ _ _ _ _ hg) [] ⟨0, 10, 13, 18⟩ [] (hTb.trans rfl) (fun z hz => nomatch hz) rfl (by decide) mq_L_18 (List.mem_cons_self) ⟨1, 4, 2, by decide, Or.inl ⟨dL_put_13, rfl⟩, dL_put_15, ic_1, dL_put_16⟩
  | succ k =>
    exact nomatch (show (none : Option (Int32 × hp_H)) = some r from hf)
section Sf_L_reform
variable {p : Program} {l : Launch} {e : Env} {s : State} {m : MethodId} {args : Array Value} {below : List Frame} {meth : Method} {c : Code} {G : hp_G} {o : Int32 × hp_H}
end Sf_L_reform
def f_L_reform (x0 : Nat) (x1 : Int32) (x2 : Int32) (x3 : Nat) (h : hp_H) : Option (Int32 × hp_H) := (f_X10_reform x0 x1 x2 h).bind fun r1 => (wr_AJ r1.2 x3 0 (Int32.toInt64 r1.1)).bind fun h2 => some (0, h2)
set_option maxRecDepth 20000 in
theorem c_L_reform (l : Launch) (x0 : Nat) (x1 : Int32) (x2 : Int32) (x3 : Nat) (h : hp_H) (r : Int32 × hp_H) (hf : f_L_reform x0 x1 x2 x3 h = some r) : mw l 9 0 0 yL_reform cL_reform 5 (some .int) [(0, 10, 13, 18)] [.ref x0, .int x1, .int x2, .ref x3] h (some (.int r.1)) r.2 := by
  unfold f_L_reform at hf
  refine mw_of (lv := [(0, .ref x0), (1, .int x1), (2, .int x2), (3, .ref x3)]) (by decide +kernel) (Nat.le_of_ble_eq_true rfl) rfl (fun p e s m args below meth c G _ X => ?_)
  refine wk_aload_n X dL_reform_0 3 rfl ?_
  refine wk_iconst X dL_reform_1 ic_0 ?_
  refine wk_aload_n X dL_reform_2 0 rfl ?_
  refine wk_iload_n X dL_reform_3 1 rfl ?_
  refine wk_iload_n X dL_reform_4 2 rfl ?_
  refine wk_callVi X [.int x1, .int x2] [.int 0, .ref x3] dL_reform_5 rfl vo_L_120 rfl (by decide) (Nat.le_of_ble_eq_true rfl) hf (c_X10_reform l _ _ _ _) (fun r1 hf => ?_)
  refine wk_i2l X dL_reform_8 ?_
  refine wk_last X dL_reform_9 hf (fun h2 hf => ?_)
  refine wk_goto X 17 dL_reform_10 (by decide) ?_
  refine wk_iconst X dL_reform_17 ic_0 ?_
  exact wk_ireturn X dL_reform_18 hf
def e_L_reform (x0 : Nat) (x1 : Int32) (x2 : Int32) (x3 : Nat) (h : hp_H) : Option (Int32 × hp_H) := (g_X10_reform x0 x1 x2 h).bind (hx_c (some 1) none)
set_option maxRecDepth 20000 in
theorem ce_L_reform (l : Launch) (hl : l.stackTraces = false) (x0 : Nat) (x1 : Int32) (x2 : Int32) (x3 : Nat) (h : hp_H) (r : Int32 × hp_H) (hf : e_L_reform x0 x1 x2 x3 h = some r) : mw l 9 1 6 yL_reform cL_reform 5 (some .int) [(0, 10, 13, 18)] [.ref x0, .int x1, .int x2, .ref x3] h (some (.int r.1)) r.2 := by
  unfold e_L_reform at hf
  obtain ⟨⟨k, h'⟩, hg, hf⟩ := Option.bind_eq_some_iff.mp hf
  cases k with
  | zero =>
    have hf : some ((1 : Int32), h') = some r := hf
    cases hf
    refine mw_of (lv := [(0, .ref x0), (1, .int x1), (2, .int x2), (3, .ref x3)]) (by decide +kernel) (Nat.le_of_ble_eq_true rfl) rfl (fun p e s m args below meth c G hTb X => ?_)
    refine wk_aload_n X dL_reform_0 3 rfl ?_
    refine wk_iconst X dL_reform_1 ic_0 ?_
    refine wk_aload_n X dL_reform_2 0 rfl ?_
    refine wk_iload_n X dL_reform_3 1 rfl ?_
    refine wk_iload_n X dL_reform_4 2 rfl ?_
    exact wk_caught X [.int x1, .int x2] [.int 0, .ref x3] dL_reform_5 rfl vo_L_120 rfl (by decide) (Nat.le_of_ble_eq_true rfl) (x_X10_reform l hl _ _ _ _ _ hg) [] ⟨0, 10, 13, 18⟩ [] (hTb.trans rfl) (fun z hz => nomatch hz) rfl (by decide) mq_L_18 (List.mem_cons_self) ⟨1, 4, 2, by decide, Or.inl ⟨dL_reform_13, rfl⟩, dL_reform_15, ic_1, dL_reform_16⟩
  | succ k =>
    exact nomatch (show (none : Option (Int32 × hp_H)) = some r from hf)
section Sf_L_review
variable {p : Program} {l : Launch} {e : Env} {s : State} {m : MethodId} {args : Array Value} {below : List Frame} {meth : Method} {c : Code} {G : hp_G} {o : Int32 × hp_H}
end Sf_L_review
def f_L_review (x0 : Nat) (x1 : Int32) (x2 : Nat) (h : hp_H) : Option (Int32 × hp_H) := (f_X10_review x0 x1 h).bind fun r1 => (wr_AJ r1.2 x2 0 (Int32.toInt64 r1.1)).bind fun h2 => some (0, h2)
set_option maxRecDepth 20000 in
theorem c_L_review (l : Launch) (x0 : Nat) (x1 : Int32) (x2 : Nat) (h : hp_H) (r : Int32 × hp_H) (hf : f_L_review x0 x1 x2 h = some r) : mw l 32 0 0 yL_review cL_review 4 (some .int) [(0, 9, 12, 18)] [.ref x0, .int x1, .ref x2] h (some (.int r.1)) r.2 := by
  unfold f_L_review at hf
  refine mw_of (lv := [(0, .ref x0), (1, .int x1), (2, .ref x2)]) (by decide +kernel) (Nat.le_of_ble_eq_true rfl) rfl (fun p e s m args below meth c G _ X => ?_)
  refine wk_aload_n X dL_review_0 2 rfl ?_
  refine wk_iconst X dL_review_1 ic_0 ?_
  refine wk_aload_n X dL_review_2 0 rfl ?_
  refine wk_iload_n X dL_review_3 1 rfl ?_
  refine wk_callVi X [.int x1] [.int 0, .ref x2] dL_review_4 rfl vo_L_74 rfl (by decide) (Nat.le_of_ble_eq_true rfl) hf (c_X10_review l _ _ _) (fun r1 hf => ?_)
  refine wk_i2l X dL_review_7 ?_
  refine wk_last X dL_review_8 hf (fun h2 hf => ?_)
  refine wk_goto X 15 dL_review_9 (by decide) ?_
  refine wk_iconst X dL_review_15 ic_0 ?_
  exact wk_ireturn X dL_review_16 hf
def e_L_review (x0 : Nat) (x1 : Int32) (x2 : Nat) (h : hp_H) : Option (Int32 × hp_H) := (g_X10_review x0 x1 h).bind (hx_c (some 1) none)
set_option maxRecDepth 20000 in
theorem ce_L_review (l : Launch) (hl : l.stackTraces = false) (x0 : Nat) (x1 : Int32) (x2 : Nat) (h : hp_H) (r : Int32 × hp_H) (hf : e_L_review x0 x1 x2 h = some r) : mw l 32 1 6 yL_review cL_review 4 (some .int) [(0, 9, 12, 18)] [.ref x0, .int x1, .ref x2] h (some (.int r.1)) r.2 := by
  unfold e_L_review at hf
  obtain ⟨⟨k, h'⟩, hg, hf⟩ := Option.bind_eq_some_iff.mp hf
  cases k with
  | zero =>
    have hf : some ((1 : Int32), h') = some r := hf
    cases hf
    refine mw_of (lv := [(0, .ref x0), (1, .int x1), (2, .ref x2)]) (by decide +kernel) (Nat.le_of_ble_eq_true rfl) rfl (fun p e s m args below meth c G hTb X => ?_)
    refine wk_aload_n X dL_review_0 2 rfl ?_
    refine wk_iconst X dL_review_1 ic_0 ?_
    refine wk_aload_n X dL_review_2 0 rfl ?_
    refine wk_iload_n X dL_review_3 1 rfl ?_
    exact wk_caught X [.int x1] [.int 0, .ref x2] dL_review_4 rfl vo_L_74 rfl (by decide) (Nat.le_of_ble_eq_true rfl) (x_X10_review l hl _ _ _ _ hg) [] ⟨0, 9, 12, 18⟩ [] (hTb.trans rfl) (fun z hz => nomatch hz) rfl (by decide) mq_L_18 (List.mem_cons_self) ⟨1, 3, 1, by decide, Or.inr ⟨⟨3, rfl, dL_review_12⟩, rfl⟩, dL_review_13, ic_1, dL_review_14⟩
  | succ k =>
    exact nomatch (show (none : Option (Int32 × hp_H)) = some r from hf)
section Sf_L_reviews
variable {p : Program} {l : Launch} {e : Env} {s : State} {m : MethodId} {args : Array Value} {below : List Frame} {meth : Method} {c : Code} {G : hp_G} {o : Int32 × hp_H}
end Sf_L_reviews
def f_L_reviews (x0 : Nat) (x1 : Int32) (x2 : Int32) (x3 : Int32) (x4 : Nat) (h : hp_H) : Option (Int32 × hp_H) := (f_X10_reviews x0 x1 x2 x3 h).bind fun r1 => (wr_AJ r1.2 x4 0 (Int32.toInt64 r1.1)).bind fun h2 => some (0, h2)
set_option maxRecDepth 20000 in
theorem c_L_reviews (l : Launch) (x0 : Nat) (x1 : Int32) (x2 : Int32) (x3 : Int32) (x4 : Nat) (h : hp_H) (r : Int32 × hp_H) (hf : f_L_reviews x0 x1 x2 x3 x4 h = some r) : mw l 9 0 0 yL_reviews cL_reviews 6 (some .int) [(0, 12, 15, 18), (0, 12, 19, 13)] [.ref x0, .int x1, .int x2, .int x3, .ref x4] h (some (.int r.1)) r.2 := by
  unfold f_L_reviews at hf
  refine mw_of (lv := [(0, .ref x0), (1, .int x1), (2, .int x2), (3, .int x3), (4, .ref x4)]) (by decide +kernel) (Nat.le_of_ble_eq_true rfl) rfl (fun p e s m args below meth c G _ X => ?_)
  refine wk_aload X dL_reviews_0 4 rfl ?_
  refine wk_iconst X dL_reviews_2 ic_0 ?_
  refine wk_aload_n X dL_reviews_3 0 rfl ?_
  refine wk_iload_n X dL_reviews_4 1 rfl ?_
  refine wk_iload_n X dL_reviews_5 2 rfl ?_
  refine wk_iload_n X dL_reviews_6 3 rfl ?_
  refine wk_callVi X [.int x1, .int x2, .int x3] [.int 0, .ref x4] dL_reviews_7 rfl vo_L_93 rfl (by decide) (Nat.le_of_ble_eq_true rfl) hf (c_X10_reviews l _ _ _ _ _) (fun r1 hf => ?_)
  refine wk_i2l X dL_reviews_10 ?_
  refine wk_last X dL_reviews_11 hf (fun h2 hf => ?_)
  refine wk_goto X 23 dL_reviews_12 (by decide) ?_
  refine wk_iconst X dL_reviews_23 ic_0 ?_
  exact wk_ireturn X dL_reviews_24 hf
def e_L_reviews (x0 : Nat) (x1 : Int32) (x2 : Int32) (x3 : Int32) (x4 : Nat) (h : hp_H) : Option (Int32 × hp_H) := (g_X10_reviews x0 x1 x2 x3 h).bind (hx_c (some 1) (some 2))
set_option maxRecDepth 20000 in
theorem ce_L_reviews (l : Launch) (hl : l.stackTraces = false) (x0 : Nat) (x1 : Int32) (x2 : Int32) (x3 : Int32) (x4 : Nat) (h : hp_H) (r : Int32 × hp_H) (hf : e_L_reviews x0 x1 x2 x3 x4 h = some r) : mw l 9 1 6 yL_reviews cL_reviews 6 (some .int) [(0, 12, 15, 18), (0, 12, 19, 13)] [.ref x0, .int x1, .int x2, .int x3, .ref x4] h (some (.int r.1)) r.2 := by
  unfold e_L_reviews at hf
  obtain ⟨⟨k, h'⟩, hg, hf⟩ := Option.bind_eq_some_iff.mp hf
  cases k with
  | zero =>
    have hf : some ((1 : Int32), h') = some r := hf
    cases hf
    refine mw_of (lv := [(0, .ref x0), (1, .int x1), (2, .int x2), (3, .int x3), (4, .ref x4)]) (by decide +kernel) (Nat.le_of_ble_eq_true rfl) rfl (fun p e s m args below meth c G hTb X => ?_)
    refine wk_aload X dL_reviews_0 4 rfl ?_
    refine wk_iconst X dL_reviews_2 ic_0 ?_
    refine wk_aload_n X dL_reviews_3 0 rfl ?_
    refine wk_iload_n X dL_reviews_4 1 rfl ?_
    refine wk_iload_n X dL_reviews_5 2 rfl ?_
    refine wk_iload_n X dL_reviews_6 3 rfl ?_
    exact wk_caught X [.int x1, .int x2, .int x3] [.int 0, .ref x4] dL_reviews_7 rfl vo_L_93 rfl (by decide) (Nat.le_of_ble_eq_true rfl) (x_X10_reviews l hl _ _ _ _ _ _ hg) [] ⟨0, 12, 15, 18⟩ [⟨0, 12, 19, 13⟩] (hTb.trans rfl) (fun z hz => nomatch hz) rfl (by decide) mq_L_18 (List.mem_cons_self) ⟨1, 5, 2, by decide, Or.inl ⟨dL_reviews_15, rfl⟩, dL_reviews_17, ic_1, dL_reviews_18⟩
  | succ k =>
    have hf : some ((2 : Int32), h') = some r := hf
    cases hf
    refine mw_of (lv := [(0, .ref x0), (1, .int x1), (2, .int x2), (3, .int x3), (4, .ref x4)]) (by decide +kernel) (Nat.le_of_ble_eq_true rfl) rfl (fun p e s m args below meth c G hTb X => ?_)
    refine wk_aload X dL_reviews_0 4 rfl ?_
    refine wk_iconst X dL_reviews_2 ic_0 ?_
    refine wk_aload_n X dL_reviews_3 0 rfl ?_
    refine wk_iload_n X dL_reviews_4 1 rfl ?_
    refine wk_iload_n X dL_reviews_5 2 rfl ?_
    refine wk_iload_n X dL_reviews_6 3 rfl ?_
    exact wk_caught X [.int x1, .int x2, .int x3] [.int 0, .ref x4] dL_reviews_7 rfl vo_L_93 rfl (by decide) (Nat.le_of_ble_eq_true rfl) (x_X10_reviews l hl _ _ _ _ _ _ hg) [⟨0, 12, 15, 18⟩] ⟨0, 12, 19, 13⟩ [] (hTb.trans rfl) (fun z hz => by obtain rfl := List.mem_singleton.mp hz; exact ⟨by decide, mq_L_18, rfl⟩) rfl (by decide) mq_L_13 (List.mem_cons_of_mem _ List.mem_cons_self) ⟨2, 5, 2, by decide, Or.inl ⟨dL_reviews_19, rfl⟩, dL_reviews_21, ic_2, dL_reviews_22⟩
section Sf_L_row
variable {p : Program} {l : Launch} {e : Env} {s : State} {m : MethodId} {args : Array Value} {below : List Frame} {meth : Method} {c : Code} {G : hp_G} {o : Int32 × hp_H}
end Sf_L_row
def f_L_row (x0 : Nat) (x1 : Int32) (x2 : Int32) (x3 : Nat) (h : hp_H) : Option (Int32 × hp_H) := (f_X10_row x0 x1 x2 h).bind fun r1 => (wr_AJ r1.2 x3 0 (Int32.toInt64 r1.1)).bind fun h2 => some (0, h2)
set_option maxRecDepth 20000 in
theorem c_L_row (l : Launch) (x0 : Nat) (x1 : Int32) (x2 : Int32) (x3 : Nat) (h : hp_H) (r : Int32 × hp_H) (hf : f_L_row x0 x1 x2 x3 h = some r) : mw l 9 0 0 yL_row cL_row 5 (some .int) [(0, 10, 13, 18)] [.ref x0, .int x1, .int x2, .ref x3] h (some (.int r.1)) r.2 := by
  unfold f_L_row at hf
  refine mw_of (lv := [(0, .ref x0), (1, .int x1), (2, .int x2), (3, .ref x3)]) (by decide +kernel) (Nat.le_of_ble_eq_true rfl) rfl (fun p e s m args below meth c G _ X => ?_)
  refine wk_aload_n X dL_row_0 3 rfl ?_
  refine wk_iconst X dL_row_1 ic_0 ?_
  refine wk_aload_n X dL_row_2 0 rfl ?_
  refine wk_iload_n X dL_row_3 1 rfl ?_
  refine wk_iload_n X dL_row_4 2 rfl ?_
  refine wk_callVi X [.int x1, .int x2] [.int 0, .ref x3] dL_row_5 rfl vo_L_24 rfl (by decide) (Nat.le_of_ble_eq_true rfl) hf (c_X10_row l _ _ _ _) (fun r1 hf => ?_)
  refine wk_i2l X dL_row_8 ?_
  refine wk_last X dL_row_9 hf (fun h2 hf => ?_)
  refine wk_goto X 17 dL_row_10 (by decide) ?_
  refine wk_iconst X dL_row_17 ic_0 ?_
  exact wk_ireturn X dL_row_18 hf
def e_L_row (x0 : Nat) (x1 : Int32) (x2 : Int32) (x3 : Nat) (h : hp_H) : Option (Int32 × hp_H) := (g_X10_row x0 x1 x2 h).bind (hx_c (some 1) none)
set_option maxRecDepth 20000 in
theorem ce_L_row (l : Launch) (hl : l.stackTraces = false) (x0 : Nat) (x1 : Int32) (x2 : Int32) (x3 : Nat) (h : hp_H) (r : Int32 × hp_H) (hf : e_L_row x0 x1 x2 x3 h = some r) : mw l 9 1 6 yL_row cL_row 5 (some .int) [(0, 10, 13, 18)] [.ref x0, .int x1, .int x2, .ref x3] h (some (.int r.1)) r.2 := by
  unfold e_L_row at hf
  obtain ⟨⟨k, h'⟩, hg, hf⟩ := Option.bind_eq_some_iff.mp hf
  cases k with
  | zero =>
    have hf : some ((1 : Int32), h') = some r := hf
    cases hf
    refine mw_of (lv := [(0, .ref x0), (1, .int x1), (2, .int x2), (3, .ref x3)]) (by decide +kernel) (Nat.le_of_ble_eq_true rfl) rfl (fun p e s m args below meth c G hTb X => ?_)
    refine wk_aload_n X dL_row_0 3 rfl ?_
    refine wk_iconst X dL_row_1 ic_0 ?_
    refine wk_aload_n X dL_row_2 0 rfl ?_
    refine wk_iload_n X dL_row_3 1 rfl ?_
    refine wk_iload_n X dL_row_4 2 rfl ?_
    exact wk_caught X [.int x1, .int x2] [.int 0, .ref x3] dL_row_5 rfl vo_L_24 rfl (by decide) (Nat.le_of_ble_eq_true rfl) (x_X10_row l hl _ _ _ _ _ hg) [] ⟨0, 10, 13, 18⟩ [] (hTb.trans rfl) (fun z hz => nomatch hz) rfl (by decide) mq_L_18 (List.mem_cons_self) ⟨1, 4, 2, by decide, Or.inl ⟨dL_row_13, rfl⟩, dL_row_15, ic_1, dL_row_16⟩
  | succ k =>
    exact nomatch (show (none : Option (Int32 × hp_H)) = some r from hf)
section Sf_L_run
variable {p : Program} {l : Launch} {e : Env} {s : State} {m : MethodId} {args : Array Value} {below : List Frame} {meth : Method} {c : Code} {G : hp_G} {o : Int32 × hp_H}
end Sf_L_run
def f_L_run (x0 : Nat) (x1 : Int32) (x2 : Nat) (h : hp_H) : Option (Int32 × hp_H) := (f_X10_run x0 x1 h).bind fun r1 => (wr_AJ r1.2 x2 0 (Int32.toInt64 r1.1)).bind fun h2 => some (0, h2)
set_option maxRecDepth 20000 in
theorem c_L_run (l : Launch) (x0 : Nat) (x1 : Int32) (x2 : Nat) (h : hp_H) (r : Int32 × hp_H) (hf : f_L_run x0 x1 x2 h = some r) : mw l 9 0 0 yL_run cL_run 4 (some .int) [(0, 9, 12, 18)] [.ref x0, .int x1, .ref x2] h (some (.int r.1)) r.2 := by
  unfold f_L_run at hf
  refine mw_of (lv := [(0, .ref x0), (1, .int x1), (2, .ref x2)]) (by decide +kernel) (Nat.le_of_ble_eq_true rfl) rfl (fun p e s m args below meth c G _ X => ?_)
  refine wk_aload_n X dL_run_0 2 rfl ?_
  refine wk_iconst X dL_run_1 ic_0 ?_
  refine wk_aload_n X dL_run_2 0 rfl ?_
  refine wk_iload_n X dL_run_3 1 rfl ?_
  refine wk_callVi X [.int x1] [.int 0, .ref x2] dL_run_4 rfl vo_L_123 rfl (by decide) (Nat.le_of_ble_eq_true rfl) hf (c_X10_run l _ _ _) (fun r1 hf => ?_)
  refine wk_i2l X dL_run_7 ?_
  refine wk_last X dL_run_8 hf (fun h2 hf => ?_)
  refine wk_goto X 15 dL_run_9 (by decide) ?_
  refine wk_iconst X dL_run_15 ic_0 ?_
  exact wk_ireturn X dL_run_16 hf
def e_L_run (x0 : Nat) (x1 : Int32) (x2 : Nat) (h : hp_H) : Option (Int32 × hp_H) := (g_X10_run x0 x1 h).bind (hx_c (some 1) none)
set_option maxRecDepth 20000 in
theorem ce_L_run (l : Launch) (hl : l.stackTraces = false) (x0 : Nat) (x1 : Int32) (x2 : Nat) (h : hp_H) (r : Int32 × hp_H) (hf : e_L_run x0 x1 x2 h = some r) : mw l 9 1 6 yL_run cL_run 4 (some .int) [(0, 9, 12, 18)] [.ref x0, .int x1, .ref x2] h (some (.int r.1)) r.2 := by
  unfold e_L_run at hf
  obtain ⟨⟨k, h'⟩, hg, hf⟩ := Option.bind_eq_some_iff.mp hf
  cases k with
  | zero =>
    have hf : some ((1 : Int32), h') = some r := hf
    cases hf
    refine mw_of (lv := [(0, .ref x0), (1, .int x1), (2, .ref x2)]) (by decide +kernel) (Nat.le_of_ble_eq_true rfl) rfl (fun p e s m args below meth c G hTb X => ?_)
    refine wk_aload_n X dL_run_0 2 rfl ?_
    refine wk_iconst X dL_run_1 ic_0 ?_
    refine wk_aload_n X dL_run_2 0 rfl ?_
    refine wk_iload_n X dL_run_3 1 rfl ?_
    exact wk_caught X [.int x1] [.int 0, .ref x2] dL_run_4 rfl vo_L_123 rfl (by decide) (Nat.le_of_ble_eq_true rfl) (x_X10_run l hl _ _ _ _ hg) [] ⟨0, 9, 12, 18⟩ [] (hTb.trans rfl) (fun z hz => nomatch hz) rfl (by decide) mq_L_18 (List.mem_cons_self) ⟨1, 3, 1, by decide, Or.inr ⟨⟨3, rfl, dL_run_12⟩, rfl⟩, dL_run_13, ic_1, dL_run_14⟩
  | succ k =>
    exact nomatch (show (none : Option (Int32 × hp_H)) = some r from hf)
section Sf_L_see
variable {p : Program} {l : Launch} {e : Env} {s : State} {m : MethodId} {args : Array Value} {below : List Frame} {meth : Method} {c : Code} {G : hp_G} {o : Int32 × hp_H}
end Sf_L_see
def f_L_see (x0 : Nat) (x1 : Int32) (x2 : Int32) (x3 : Int32) (x4 : Int32) (x5 : Nat) (h : hp_H) : Option (Int32 × hp_H) := (f_X10_see x0 x1 x2 x3 x4 h).bind fun r1 => (wr_AJ r1.2 x5 0 (Int32.toInt64 r1.1)).bind fun h2 => some (0, h2)
set_option maxRecDepth 20000 in
theorem c_L_see (l : Launch) (x0 : Nat) (x1 : Int32) (x2 : Int32) (x3 : Int32) (x4 : Int32) (x5 : Nat) (h : hp_H) (r : Int32 × hp_H) (hf : f_L_see x0 x1 x2 x3 x4 x5 h = some r) : mw l 9 0 0 yL_see cL_see 7 (some .int) [(0, 14, 17, 18)] [.ref x0, .int x1, .int x2, .int x3, .int x4, .ref x5] h (some (.int r.1)) r.2 := by
  unfold f_L_see at hf
  refine mw_of (lv := [(0, .ref x0), (1, .int x1), (2, .int x2), (3, .int x3), (4, .int x4), (5, .ref x5)]) (by decide +kernel) (Nat.le_of_ble_eq_true rfl) rfl (fun p e s m args below meth c G _ X => ?_)
  refine wk_aload X dL_see_0 5 rfl ?_
  refine wk_iconst X dL_see_2 ic_0 ?_
  refine wk_aload_n X dL_see_3 0 rfl ?_
  refine wk_iload_n X dL_see_4 1 rfl ?_
  refine wk_iload_n X dL_see_5 2 rfl ?_
  refine wk_iload_n X dL_see_6 3 rfl ?_
  refine wk_iload X dL_see_7 4 rfl ?_
  refine wk_callVi X [.int x1, .int x2, .int x3, .int x4] [.int 0, .ref x5] dL_see_9 rfl vo_L_77 rfl (by decide) (Nat.le_of_ble_eq_true rfl) hf (c_X10_see l _ _ _ _ _ _) (fun r1 hf => ?_)
  refine wk_i2l X dL_see_12 ?_
  refine wk_last X dL_see_13 hf (fun h2 hf => ?_)
  refine wk_goto X 21 dL_see_14 (by decide) ?_
  refine wk_iconst X dL_see_21 ic_0 ?_
  exact wk_ireturn X dL_see_22 hf
def e_L_see (x0 : Nat) (x1 : Int32) (x2 : Int32) (x3 : Int32) (x4 : Int32) (x5 : Nat) (h : hp_H) : Option (Int32 × hp_H) := (g_X10_see x0 x1 x2 x3 x4 h).bind (hx_c (some 1) none)
set_option maxRecDepth 20000 in
theorem ce_L_see (l : Launch) (hl : l.stackTraces = false) (x0 : Nat) (x1 : Int32) (x2 : Int32) (x3 : Int32) (x4 : Int32) (x5 : Nat) (h : hp_H) (r : Int32 × hp_H) (hf : e_L_see x0 x1 x2 x3 x4 x5 h = some r) : mw l 9 1 6 yL_see cL_see 7 (some .int) [(0, 14, 17, 18)] [.ref x0, .int x1, .int x2, .int x3, .int x4, .ref x5] h (some (.int r.1)) r.2 := by
  unfold e_L_see at hf
  obtain ⟨⟨k, h'⟩, hg, hf⟩ := Option.bind_eq_some_iff.mp hf
  cases k with
  | zero =>
    have hf : some ((1 : Int32), h') = some r := hf
    cases hf
    refine mw_of (lv := [(0, .ref x0), (1, .int x1), (2, .int x2), (3, .int x3), (4, .int x4), (5, .ref x5)]) (by decide +kernel) (Nat.le_of_ble_eq_true rfl) rfl (fun p e s m args below meth c G hTb X => ?_)
    refine wk_aload X dL_see_0 5 rfl ?_
    refine wk_iconst X dL_see_2 ic_0 ?_
    refine wk_aload_n X dL_see_3 0 rfl ?_
    refine wk_iload_n X dL_see_4 1 rfl ?_
    refine wk_iload_n X dL_see_5 2 rfl ?_
    refine wk_iload_n X dL_see_6 3 rfl ?_
    refine wk_iload X dL_see_7 4 rfl ?_
    exact wk_caught X [.int x1, .int x2, .int x3, .int x4] [.int 0, .ref x5] dL_see_9 rfl vo_L_77 rfl (by decide) (Nat.le_of_ble_eq_true rfl) (x_X10_see l hl _ _ _ _ _ _ _ hg) [] ⟨0, 14, 17, 18⟩ [] (hTb.trans rfl) (fun z hz => nomatch hz) rfl (by decide) mq_L_18 (List.mem_cons_self) ⟨1, 6, 2, by decide, Or.inl ⟨dL_see_17, rfl⟩, dL_see_19, ic_1, dL_see_20⟩
  | succ k =>
    exact nomatch (show (none : Option (Int32 × hp_H)) = some r from hf)
section Sf_L_spoilt
variable {p : Program} {l : Launch} {e : Env} {s : State} {m : MethodId} {args : Array Value} {below : List Frame} {meth : Method} {c : Code} {G : hp_G} {o : Int32 × hp_H}
end Sf_L_spoilt
def f_L_spoilt (x0 : Nat) (x1 : Int32) (x2 : Nat) (h : hp_H) : Option (Int32 × hp_H) := (f_X10_spoilt x0 x1 h).bind fun r1 => (wr_AJ r1.2 x2 0 (Int32.toInt64 r1.1)).bind fun h2 => some (0, h2)
set_option maxRecDepth 20000 in
theorem c_L_spoilt (l : Launch) (x0 : Nat) (x1 : Int32) (x2 : Nat) (h : hp_H) (r : Int32 × hp_H) (hf : f_L_spoilt x0 x1 x2 h = some r) : mw l 9 0 0 yL_spoilt cL_spoilt 4 (some .int) [(0, 9, 12, 18)] [.ref x0, .int x1, .ref x2] h (some (.int r.1)) r.2 := by
  unfold f_L_spoilt at hf
  refine mw_of (lv := [(0, .ref x0), (1, .int x1), (2, .ref x2)]) (by decide +kernel) (Nat.le_of_ble_eq_true rfl) rfl (fun p e s m args below meth c G _ X => ?_)
  refine wk_aload_n X dL_spoilt_0 2 rfl ?_
  refine wk_iconst X dL_spoilt_1 ic_0 ?_
  refine wk_aload_n X dL_spoilt_2 0 rfl ?_
  refine wk_iload_n X dL_spoilt_3 1 rfl ?_
  refine wk_callVi X [.int x1] [.int 0, .ref x2] dL_spoilt_4 rfl vo_L_117 rfl (by decide) (Nat.le_of_ble_eq_true rfl) hf (c_X10_spoilt l _ _ _) (fun r1 hf => ?_)
  refine wk_i2l X dL_spoilt_7 ?_
  refine wk_last X dL_spoilt_8 hf (fun h2 hf => ?_)
  refine wk_goto X 15 dL_spoilt_9 (by decide) ?_
  refine wk_iconst X dL_spoilt_15 ic_0 ?_
  exact wk_ireturn X dL_spoilt_16 hf
def e_L_spoilt (x0 : Nat) (x1 : Int32) (x2 : Nat) (h : hp_H) : Option (Int32 × hp_H) := (g_X10_spoilt x0 x1 h).bind (hx_c (some 1) none)
set_option maxRecDepth 20000 in
theorem ce_L_spoilt (l : Launch) (hl : l.stackTraces = false) (x0 : Nat) (x1 : Int32) (x2 : Nat) (h : hp_H) (r : Int32 × hp_H) (hf : e_L_spoilt x0 x1 x2 h = some r) : mw l 9 1 6 yL_spoilt cL_spoilt 4 (some .int) [(0, 9, 12, 18)] [.ref x0, .int x1, .ref x2] h (some (.int r.1)) r.2 := by
  unfold e_L_spoilt at hf
  obtain ⟨⟨k, h'⟩, hg, hf⟩ := Option.bind_eq_some_iff.mp hf
  cases k with
  | zero =>
    have hf : some ((1 : Int32), h') = some r := hf
    cases hf
    refine mw_of (lv := [(0, .ref x0), (1, .int x1), (2, .ref x2)]) (by decide +kernel) (Nat.le_of_ble_eq_true rfl) rfl (fun p e s m args below meth c G hTb X => ?_)
    refine wk_aload_n X dL_spoilt_0 2 rfl ?_
    refine wk_iconst X dL_spoilt_1 ic_0 ?_
    refine wk_aload_n X dL_spoilt_2 0 rfl ?_
    refine wk_iload_n X dL_spoilt_3 1 rfl ?_
    exact wk_caught X [.int x1] [.int 0, .ref x2] dL_spoilt_4 rfl vo_L_117 rfl (by decide) (Nat.le_of_ble_eq_true rfl) (x_X10_spoilt l hl _ _ _ _ hg) [] ⟨0, 9, 12, 18⟩ [] (hTb.trans rfl) (fun z hz => nomatch hz) rfl (by decide) mq_L_18 (List.mem_cons_self) ⟨1, 3, 1, by decide, Or.inr ⟨⟨3, rfl, dL_spoilt_12⟩, rfl⟩, dL_spoilt_13, ic_1, dL_spoilt_14⟩
  | succ k =>
    exact nomatch (show (none : Option (Int32 × hp_H)) = some r from hf)
section Sf_L_then
variable {p : Program} {l : Launch} {e : Env} {s : State} {m : MethodId} {args : Array Value} {below : List Frame} {meth : Method} {c : Code} {G : hp_G} {o : Int32 × hp_H}
end Sf_L_then
def f_L_then (x0 : Nat) (x1 : Int32) (x2 : Int32) (x3 : Int32) (x4 : Nat) (h : hp_H) : Option (Int32 × hp_H) := (f_X10_then x0 x1 x2 x3 h).bind fun r1 => (wr_AJ r1.2 x4 0 (Int32.toInt64 r1.1)).bind fun h2 => some (0, h2)
set_option maxRecDepth 20000 in
theorem c_L_then (l : Launch) (x0 : Nat) (x1 : Int32) (x2 : Int32) (x3 : Int32) (x4 : Nat) (h : hp_H) (r : Int32 × hp_H) (hf : f_L_then x0 x1 x2 x3 x4 h = some r) : mw l 9 0 0 yL_then cL_then 6 (some .int) [(0, 12, 15, 18), (0, 12, 19, 13)] [.ref x0, .int x1, .int x2, .int x3, .ref x4] h (some (.int r.1)) r.2 := by
  unfold f_L_then at hf
  refine mw_of (lv := [(0, .ref x0), (1, .int x1), (2, .int x2), (3, .int x3), (4, .ref x4)]) (by decide +kernel) (Nat.le_of_ble_eq_true rfl) rfl (fun p e s m args below meth c G _ X => ?_)
  refine wk_aload X dL_then_0 4 rfl ?_
  refine wk_iconst X dL_then_2 ic_0 ?_
  refine wk_aload_n X dL_then_3 0 rfl ?_
  refine wk_iload_n X dL_then_4 1 rfl ?_
  refine wk_iload_n X dL_then_5 2 rfl ?_
  refine wk_iload_n X dL_then_6 3 rfl ?_
  refine wk_callVi X [.int x1, .int x2, .int x3] [.int 0, .ref x4] dL_then_7 rfl vo_L_40 rfl (by decide) (Nat.le_of_ble_eq_true rfl) hf (c_X10_then l _ _ _ _ _) (fun r1 hf => ?_)
  refine wk_i2l X dL_then_10 ?_
  refine wk_last X dL_then_11 hf (fun h2 hf => ?_)
  refine wk_goto X 23 dL_then_12 (by decide) ?_
  refine wk_iconst X dL_then_23 ic_0 ?_
  exact wk_ireturn X dL_then_24 hf
def e_L_then (x0 : Nat) (x1 : Int32) (x2 : Int32) (x3 : Int32) (x4 : Nat) (h : hp_H) : Option (Int32 × hp_H) := (g_X10_then x0 x1 x2 x3 h).bind (hx_c (some 1) (some 2))
set_option maxRecDepth 20000 in
theorem ce_L_then (l : Launch) (hl : l.stackTraces = false) (x0 : Nat) (x1 : Int32) (x2 : Int32) (x3 : Int32) (x4 : Nat) (h : hp_H) (r : Int32 × hp_H) (hf : e_L_then x0 x1 x2 x3 x4 h = some r) : mw l 9 1 6 yL_then cL_then 6 (some .int) [(0, 12, 15, 18), (0, 12, 19, 13)] [.ref x0, .int x1, .int x2, .int x3, .ref x4] h (some (.int r.1)) r.2 := by
  unfold e_L_then at hf
  obtain ⟨⟨k, h'⟩, hg, hf⟩ := Option.bind_eq_some_iff.mp hf
  cases k with
  | zero =>
    have hf : some ((1 : Int32), h') = some r := hf
    cases hf
    refine mw_of (lv := [(0, .ref x0), (1, .int x1), (2, .int x2), (3, .int x3), (4, .ref x4)]) (by decide +kernel) (Nat.le_of_ble_eq_true rfl) rfl (fun p e s m args below meth c G hTb X => ?_)
    refine wk_aload X dL_then_0 4 rfl ?_
    refine wk_iconst X dL_then_2 ic_0 ?_
    refine wk_aload_n X dL_then_3 0 rfl ?_
    refine wk_iload_n X dL_then_4 1 rfl ?_
    refine wk_iload_n X dL_then_5 2 rfl ?_
    refine wk_iload_n X dL_then_6 3 rfl ?_
    exact wk_caught X [.int x1, .int x2, .int x3] [.int 0, .ref x4] dL_then_7 rfl vo_L_40 rfl (by decide) (Nat.le_of_ble_eq_true rfl) (x_X10_then l hl _ _ _ _ _ _ hg) [] ⟨0, 12, 15, 18⟩ [⟨0, 12, 19, 13⟩] (hTb.trans rfl) (fun z hz => nomatch hz) rfl (by decide) mq_L_18 (List.mem_cons_self) ⟨1, 5, 2, by decide, Or.inl ⟨dL_then_15, rfl⟩, dL_then_17, ic_1, dL_then_18⟩
  | succ k =>
    have hf : some ((2 : Int32), h') = some r := hf
    cases hf
    refine mw_of (lv := [(0, .ref x0), (1, .int x1), (2, .int x2), (3, .int x3), (4, .ref x4)]) (by decide +kernel) (Nat.le_of_ble_eq_true rfl) rfl (fun p e s m args below meth c G hTb X => ?_)
    refine wk_aload X dL_then_0 4 rfl ?_
    refine wk_iconst X dL_then_2 ic_0 ?_
    refine wk_aload_n X dL_then_3 0 rfl ?_
    refine wk_iload_n X dL_then_4 1 rfl ?_
    refine wk_iload_n X dL_then_5 2 rfl ?_
    refine wk_iload_n X dL_then_6 3 rfl ?_
    exact wk_caught X [.int x1, .int x2, .int x3] [.int 0, .ref x4] dL_then_7 rfl vo_L_40 rfl (by decide) (Nat.le_of_ble_eq_true rfl) (x_X10_then l hl _ _ _ _ _ _ hg) [⟨0, 12, 15, 18⟩] ⟨0, 12, 19, 13⟩ [] (hTb.trans rfl) (fun z hz => by obtain rfl := List.mem_singleton.mp hz; exact ⟨by decide, mq_L_18, rfl⟩) rfl (by decide) mq_L_13 (List.mem_cons_of_mem _ List.mem_cons_self) ⟨2, 5, 2, by decide, Or.inl ⟨dL_then_19, rfl⟩, dL_then_21, ic_2, dL_then_22⟩
section Sf_L_toSock
variable {p : Program} {l : Launch} {e : Env} {s : State} {m : MethodId} {args : Array Value} {below : List Frame} {meth : Method} {c : Code} {G : hp_G} {o : Int32 × hp_H}
end Sf_L_toSock
def f_L_toSock (x0 : Nat) (x1 : Int32) (x2 : Nat) (h : hp_H) : Option (Int32 × hp_H) := (f_X10_toSock x0 x1 h).bind fun r1 => (wr_AJ r1.2 x2 0 (Int32.toInt64 r1.1)).bind fun h2 => some (0, h2)
set_option maxRecDepth 20000 in
theorem c_L_toSock (l : Launch) (x0 : Nat) (x1 : Int32) (x2 : Nat) (h : hp_H) (r : Int32 × hp_H) (hf : f_L_toSock x0 x1 x2 h = some r) : mw l 9 0 0 yL_toSock cL_toSock 4 (some .int) [(0, 9, 12, 18)] [.ref x0, .int x1, .ref x2] h (some (.int r.1)) r.2 := by
  unfold f_L_toSock at hf
  refine mw_of (lv := [(0, .ref x0), (1, .int x1), (2, .ref x2)]) (by decide +kernel) (Nat.le_of_ble_eq_true rfl) rfl (fun p e s m args below meth c G _ X => ?_)
  refine wk_aload_n X dL_toSock_0 2 rfl ?_
  refine wk_iconst X dL_toSock_1 ic_0 ?_
  refine wk_aload_n X dL_toSock_2 0 rfl ?_
  refine wk_iload_n X dL_toSock_3 1 rfl ?_
  refine wk_callVi X [.int x1] [.int 0, .ref x2] dL_toSock_4 rfl vo_L_71 rfl (by decide) (Nat.le_of_ble_eq_true rfl) hf (c_X10_toSock l _ _ _) (fun r1 hf => ?_)
  refine wk_i2l X dL_toSock_7 ?_
  refine wk_last X dL_toSock_8 hf (fun h2 hf => ?_)
  refine wk_goto X 15 dL_toSock_9 (by decide) ?_
  refine wk_iconst X dL_toSock_15 ic_0 ?_
  exact wk_ireturn X dL_toSock_16 hf
def e_L_toSock (x0 : Nat) (x1 : Int32) (x2 : Nat) (h : hp_H) : Option (Int32 × hp_H) := (g_X10_toSock x0 x1 h).bind (hx_c (some 1) none)
set_option maxRecDepth 20000 in
theorem ce_L_toSock (l : Launch) (hl : l.stackTraces = false) (x0 : Nat) (x1 : Int32) (x2 : Nat) (h : hp_H) (r : Int32 × hp_H) (hf : e_L_toSock x0 x1 x2 h = some r) : mw l 9 1 6 yL_toSock cL_toSock 4 (some .int) [(0, 9, 12, 18)] [.ref x0, .int x1, .ref x2] h (some (.int r.1)) r.2 := by
  unfold e_L_toSock at hf
  obtain ⟨⟨k, h'⟩, hg, hf⟩ := Option.bind_eq_some_iff.mp hf
  cases k with
  | zero =>
    have hf : some ((1 : Int32), h') = some r := hf
    cases hf
    refine mw_of (lv := [(0, .ref x0), (1, .int x1), (2, .ref x2)]) (by decide +kernel) (Nat.le_of_ble_eq_true rfl) rfl (fun p e s m args below meth c G hTb X => ?_)
    refine wk_aload_n X dL_toSock_0 2 rfl ?_
    refine wk_iconst X dL_toSock_1 ic_0 ?_
    refine wk_aload_n X dL_toSock_2 0 rfl ?_
    refine wk_iload_n X dL_toSock_3 1 rfl ?_
    exact wk_caught X [.int x1] [.int 0, .ref x2] dL_toSock_4 rfl vo_L_71 rfl (by decide) (Nat.le_of_ble_eq_true rfl) (x_X10_toSock l hl _ _ _ _ hg) [] ⟨0, 9, 12, 18⟩ [] (hTb.trans rfl) (fun z hz => nomatch hz) rfl (by decide) mq_L_18 (List.mem_cons_self) ⟨1, 3, 1, by decide, Or.inr ⟨⟨3, rfl, dL_toSock_12⟩, rfl⟩, dL_toSock_13, ic_1, dL_toSock_14⟩
  | succ k =>
    exact nomatch (show (none : Option (Int32 × hp_H)) = some r from hf)
section Sf_L_tread
variable {p : Program} {l : Launch} {e : Env} {s : State} {m : MethodId} {args : Array Value} {below : List Frame} {meth : Method} {c : Code} {G : hp_G} {o : Int32 × hp_H}
end Sf_L_tread
def f_L_tread (x0 : Nat) (x1 : Int32) (x2 : Nat) (h : hp_H) : Option (Int32 × hp_H) := (f_X10_tread x0 x1 h).bind fun r1 => (wr_AJ r1.2 x2 0 (Int32.toInt64 r1.1)).bind fun h2 => some (0, h2)
set_option maxRecDepth 20000 in
theorem c_L_tread (l : Launch) (x0 : Nat) (x1 : Int32) (x2 : Nat) (h : hp_H) (r : Int32 × hp_H) (hf : f_L_tread x0 x1 x2 h = some r) : mw l 9 0 0 yL_tread cL_tread 4 (some .int) [(0, 9, 12, 18)] [.ref x0, .int x1, .ref x2] h (some (.int r.1)) r.2 := by
  unfold f_L_tread at hf
  refine mw_of (lv := [(0, .ref x0), (1, .int x1), (2, .ref x2)]) (by decide +kernel) (Nat.le_of_ble_eq_true rfl) rfl (fun p e s m args below meth c G _ X => ?_)
  refine wk_aload_n X dL_tread_0 2 rfl ?_
  refine wk_iconst X dL_tread_1 ic_0 ?_
  refine wk_aload_n X dL_tread_2 0 rfl ?_
  refine wk_iload_n X dL_tread_3 1 rfl ?_
  refine wk_callVi X [.int x1] [.int 0, .ref x2] dL_tread_4 rfl vo_L_62 rfl (by decide) (Nat.le_of_ble_eq_true rfl) hf (c_X10_tread l _ _ _) (fun r1 hf => ?_)
  refine wk_i2l X dL_tread_7 ?_
  refine wk_last X dL_tread_8 hf (fun h2 hf => ?_)
  refine wk_goto X 15 dL_tread_9 (by decide) ?_
  refine wk_iconst X dL_tread_15 ic_0 ?_
  exact wk_ireturn X dL_tread_16 hf
def e_L_tread (x0 : Nat) (x1 : Int32) (x2 : Nat) (h : hp_H) : Option (Int32 × hp_H) := (g_X10_tread x0 x1 h).bind (hx_c (some 1) none)
set_option maxRecDepth 20000 in
theorem ce_L_tread (l : Launch) (hl : l.stackTraces = false) (x0 : Nat) (x1 : Int32) (x2 : Nat) (h : hp_H) (r : Int32 × hp_H) (hf : e_L_tread x0 x1 x2 h = some r) : mw l 9 1 6 yL_tread cL_tread 4 (some .int) [(0, 9, 12, 18)] [.ref x0, .int x1, .ref x2] h (some (.int r.1)) r.2 := by
  unfold e_L_tread at hf
  obtain ⟨⟨k, h'⟩, hg, hf⟩ := Option.bind_eq_some_iff.mp hf
  cases k with
  | zero =>
    have hf : some ((1 : Int32), h') = some r := hf
    cases hf
    refine mw_of (lv := [(0, .ref x0), (1, .int x1), (2, .ref x2)]) (by decide +kernel) (Nat.le_of_ble_eq_true rfl) rfl (fun p e s m args below meth c G hTb X => ?_)
    refine wk_aload_n X dL_tread_0 2 rfl ?_
    refine wk_iconst X dL_tread_1 ic_0 ?_
    refine wk_aload_n X dL_tread_2 0 rfl ?_
    refine wk_iload_n X dL_tread_3 1 rfl ?_
    exact wk_caught X [.int x1] [.int 0, .ref x2] dL_tread_4 rfl vo_L_62 rfl (by decide) (Nat.le_of_ble_eq_true rfl) (x_X10_tread l hl _ _ _ _ hg) [] ⟨0, 9, 12, 18⟩ [] (hTb.trans rfl) (fun z hz => nomatch hz) rfl (by decide) mq_L_18 (List.mem_cons_self) ⟨1, 3, 1, by decide, Or.inr ⟨⟨3, rfl, dL_tread_12⟩, rfl⟩, dL_tread_13, ic_1, dL_tread_14⟩
  | succ k =>
    exact nomatch (show (none : Option (Int32 × hp_H)) = some r from hf)
section Sf_L_unsung
variable {p : Program} {l : Launch} {e : Env} {s : State} {m : MethodId} {args : Array Value} {below : List Frame} {meth : Method} {c : Code} {G : hp_G} {o : Int32 × hp_H}
end Sf_L_unsung
def f_L_unsung (x0 : Nat) (x1 : Int32) (x2 : Nat) (h : hp_H) : Option (Int32 × hp_H) := (f_X10_unsung x0 x1 h).bind fun r1 => (wr_AJ r1.2 x2 0 (Int32.toInt64 r1.1)).bind fun h2 => some (0, h2)
set_option maxRecDepth 20000 in
theorem c_L_unsung (l : Launch) (x0 : Nat) (x1 : Int32) (x2 : Nat) (h : hp_H) (r : Int32 × hp_H) (hf : f_L_unsung x0 x1 x2 h = some r) : mw l 9 0 0 yL_unsung cL_unsung 4 (some .int) [(0, 9, 12, 13)] [.ref x0, .int x1, .ref x2] h (some (.int r.1)) r.2 := by
  unfold f_L_unsung at hf
  refine mw_of (lv := [(0, .ref x0), (1, .int x1), (2, .ref x2)]) (by decide +kernel) (Nat.le_of_ble_eq_true rfl) rfl (fun p e s m args below meth c G _ X => ?_)
  refine wk_aload_n X dL_unsung_0 2 rfl ?_
  refine wk_iconst X dL_unsung_1 ic_0 ?_
  refine wk_aload_n X dL_unsung_2 0 rfl ?_
  refine wk_iload_n X dL_unsung_3 1 rfl ?_
  refine wk_callVi X [.int x1] [.int 0, .ref x2] dL_unsung_4 rfl vo_L_53 rfl (by decide) (Nat.le_of_ble_eq_true rfl) hf (c_X10_unsung l _ _ _) (fun r1 hf => ?_)
  refine wk_i2l X dL_unsung_7 ?_
  refine wk_last X dL_unsung_8 hf (fun h2 hf => ?_)
  refine wk_goto X 15 dL_unsung_9 (by decide) ?_
  refine wk_iconst X dL_unsung_15 ic_0 ?_
  exact wk_ireturn X dL_unsung_16 hf
def e_L_unsung (x0 : Nat) (x1 : Int32) (x2 : Nat) (h : hp_H) : Option (Int32 × hp_H) := (g_X10_unsung x0 x1 h).bind (hx_c none (some 1))
set_option maxRecDepth 20000 in
theorem ce_L_unsung (l : Launch) (hl : l.stackTraces = false) (x0 : Nat) (x1 : Int32) (x2 : Nat) (h : hp_H) (r : Int32 × hp_H) (hf : e_L_unsung x0 x1 x2 h = some r) : mw l 9 1 6 yL_unsung cL_unsung 4 (some .int) [(0, 9, 12, 13)] [.ref x0, .int x1, .ref x2] h (some (.int r.1)) r.2 := by
  unfold e_L_unsung at hf
  obtain ⟨⟨k, h'⟩, hg, hf⟩ := Option.bind_eq_some_iff.mp hf
  cases k with
  | zero =>
    exact nomatch (show (none : Option (Int32 × hp_H)) = some r from hf)
  | succ k =>
    have hf : some ((1 : Int32), h') = some r := hf
    cases hf
    refine mw_of (lv := [(0, .ref x0), (1, .int x1), (2, .ref x2)]) (by decide +kernel) (Nat.le_of_ble_eq_true rfl) rfl (fun p e s m args below meth c G hTb X => ?_)
    refine wk_aload_n X dL_unsung_0 2 rfl ?_
    refine wk_iconst X dL_unsung_1 ic_0 ?_
    refine wk_aload_n X dL_unsung_2 0 rfl ?_
    refine wk_iload_n X dL_unsung_3 1 rfl ?_
    exact wk_caught X [.int x1] [.int 0, .ref x2] dL_unsung_4 rfl vo_L_53 rfl (by decide) (Nat.le_of_ble_eq_true rfl) (x_X10_unsung l hl _ _ _ _ hg) [] ⟨0, 9, 12, 13⟩ [] (hTb.trans rfl) (fun z hz => nomatch hz) rfl (by decide) mq_L_13 (List.mem_cons_of_mem _ List.mem_cons_self) ⟨1, 3, 1, by decide, Or.inr ⟨⟨3, rfl, dL_unsung_12⟩, rfl⟩, dL_unsung_13, ic_1, dL_unsung_14⟩
