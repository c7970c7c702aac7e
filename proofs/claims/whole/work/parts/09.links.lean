theorem ib_m15 : (Int8.ofInt (-15)).toInt32 = (-15) := by decide
theorem ib_m14 : (Int8.ofInt (-14)).toInt32 = (-14) := by decide
theorem ib_m13 : (Int8.ofInt (-13)).toInt32 = (-13) := by decide
theorem ib_m12 : (Int8.ofInt (-12)).toInt32 = (-12) := by decide
theorem ib_m11 : (Int8.ofInt (-11)).toInt32 = (-11) := by decide
theorem ib_m10 : (Int8.ofInt (-10)).toInt32 = (-10) := by decide
theorem ib_m9 : (Int8.ofInt (-9)).toInt32 = (-9) := by decide
theorem ib_m8 : (Int8.ofInt (-8)).toInt32 = (-8) := by decide
theorem ib_m7 : (Int8.ofInt (-7)).toInt32 = (-7) := by decide
theorem ib_m6 : (Int8.ofInt (-6)).toInt32 = (-6) := by decide
theorem ib_m5 : (Int8.ofInt (-5)).toInt32 = (-5) := by decide
theorem ib_m4 : (Int8.ofInt (-4)).toInt32 = (-4) := by decide
theorem ib_m3 : (Int8.ofInt (-3)).toInt32 = (-3) := by decide
theorem ib_m2 : (Int8.ofInt (-2)).toInt32 = (-2) := by decide
theorem ib_6 : (Int8.ofInt 6).toInt32 = 6 := by decide
theorem ib_7 : (Int8.ofInt 7).toInt32 = 7 := by decide
theorem ib_8 : (Int8.ofInt 8).toInt32 = 8 := by decide
theorem ib_9 : (Int8.ofInt 9).toInt32 = 9 := by decide
theorem ib_10 : (Int8.ofInt 10).toInt32 = 10 := by decide
theorem ib_11 : (Int8.ofInt 11).toInt32 = 11 := by decide
theorem ib_12 : (Int8.ofInt 12).toInt32 = 12 := by decide
theorem ib_13 : (Int8.ofInt 13).toInt32 = 13 := by decide
theorem ib_14 : (Int8.ofInt 14).toInt32 = 14 := by decide
theorem ib_16 : (Int8.ofInt 16).toInt32 = 16 := by decide
theorem ib_17 : (Int8.ofInt 17).toInt32 = 17 := by decide
theorem ib_20 : (Int8.ofInt 20).toInt32 = 20 := by decide
theorem ib_24 : (Int8.ofInt 24).toInt32 = 24 := by decide
theorem ib_25 : (Int8.ofInt 25).toInt32 = 25 := by decide
theorem ib_32 : (Int8.ofInt 32).toInt32 = 32 := by decide
theorem ib_33 : (Int8.ofInt 33).toInt32 = 33 := by decide
theorem ib_34 : (Int8.ofInt 34).toInt32 = 34 := by decide
theorem ib_40 : (Int8.ofInt 40).toInt32 = 40 := by decide
theorem ib_41 : (Int8.ofInt 41).toInt32 = 41 := by decide
theorem ib_42 : (Int8.ofInt 42).toInt32 = 42 := by decide
theorem ib_43 : (Int8.ofInt 43).toInt32 = 43 := by decide
theorem ib_45 : (Int8.ofInt 45).toInt32 = 45 := by decide
theorem ib_47 : (Int8.ofInt 47).toInt32 = 47 := by decide
theorem ib_48 : (Int8.ofInt 48).toInt32 = 48 := by decide
theorem ib_50 : (Int8.ofInt 50).toInt32 = 50 := by decide
theorem ib_57 : (Int8.ofInt 57).toInt32 = 57 := by decide
theorem ib_58 : (Int8.ofInt 58).toInt32 = 58 := by decide
theorem ib_59 : (Int8.ofInt 59).toInt32 = 59 := by decide
theorem ib_60 : (Int8.ofInt 60).toInt32 = 60 := by decide
theorem ib_61 : (Int8.ofInt 61).toInt32 = 61 := by decide
theorem ib_63 : (Int8.ofInt 63).toInt32 = 63 := by decide
theorem ib_64 : (Int8.ofInt 64).toInt32 = 64 := by decide
theorem ib_96 : (Int8.ofInt 96).toInt32 = 96 := by decide
theorem ib_97 : (Int8.ofInt 97).toInt32 = 97 := by decide
theorem ib_98 : (Int8.ofInt 98).toInt32 = 98 := by decide
theorem ib_99 : (Int8.ofInt 99).toInt32 = 99 := by decide
theorem ib_100 : (Int8.ofInt 100).toInt32 = 100 := by decide
theorem ib_101 : (Int8.ofInt 101).toInt32 = 101 := by decide
theorem ib_104 : (Int8.ofInt 104).toInt32 = 104 := by decide
theorem ib_107 : (Int8.ofInt 107).toInt32 = 107 := by decide
theorem ib_108 : (Int8.ofInt 108).toInt32 = 108 := by decide
theorem ib_109 : (Int8.ofInt 109).toInt32 = 109 := by decide
theorem ib_110 : (Int8.ofInt 110).toInt32 = 110 := by decide
theorem ib_111 : (Int8.ofInt 111).toInt32 = 111 := by decide
theorem ib_114 : (Int8.ofInt 114).toInt32 = 114 := by decide
theorem ib_115 : (Int8.ofInt 115).toInt32 = 115 := by decide
theorem ib_116 : (Int8.ofInt 116).toInt32 = 116 := by decide
theorem ib_117 : (Int8.ofInt 117).toInt32 = 117 := by decide
theorem ib_119 : (Int8.ofInt 119).toInt32 = 119 := by decide
theorem ib_121 : (Int8.ofInt 121).toInt32 = 121 := by decide
theorem ib_122 : (Int8.ofInt 122).toInt32 = 122 := by decide
theorem ic_m14 : Int32.ofInt (-14) = (-14) := by decide
theorem ic_m13 : Int32.ofInt (-13) = (-13) := by decide
theorem ic_m12 : Int32.ofInt (-12) = (-12) := by decide
theorem ic_m11 : Int32.ofInt (-11) = (-11) := by decide
theorem ic_m10 : Int32.ofInt (-10) = (-10) := by decide
theorem ic_m9 : Int32.ofInt (-9) = (-9) := by decide
theorem ic_m8 : Int32.ofInt (-8) = (-8) := by decide
theorem ic_m1 : Int32.ofInt (-1) = (-1) := by decide
theorem ic_0 : Int32.ofInt 0 = 0 := by decide
theorem ic_1 : Int32.ofInt 1 = 1 := by decide
theorem ic_2 : Int32.ofInt 2 = 2 := by decide
theorem ic_3 : Int32.ofInt 3 = 3 := by decide
theorem ic_4 : Int32.ofInt 4 = 4 := by decide
theorem ic_5 : Int32.ofInt 5 = 5 := by decide
theorem ic_6 : Int32.ofInt 6 = 6 := by decide
theorem ic_7 : Int32.ofInt 7 = 7 := by decide
theorem ic_8 : Int32.ofInt 8 = 8 := by decide
theorem ic_9 : Int32.ofInt 9 = 9 := by decide
theorem ic_10 : Int32.ofInt 10 = 10 := by decide
theorem ic_11 : Int32.ofInt 11 = 11 := by decide
theorem ic_12 : Int32.ofInt 12 = 12 := by decide
theorem ic_13 : Int32.ofInt 13 = 13 := by decide
theorem ic_14 : Int32.ofInt 14 = 14 := by decide
theorem is_255 : (Int16.ofInt 255).toInt32 = 255 := by decide
theorem is_700 : (Int16.ofInt 700).toInt32 = 700 := by decide
theorem is_999 : (Int16.ofInt 999).toInt32 = 999 := by decide
theorem is_1320 : (Int16.ofInt 1320).toInt32 = 1320 := by decide
theorem is_4095 : (Int16.ofInt 4095).toInt32 = 4095 := by decide
theorem is_9999 : (Int16.ofInt 9999).toInt32 = 9999 := by decide
theorem is_10000 : (Int16.ofInt 10000).toInt32 = 10000 := by decide
theorem is_12345 : (Int16.ofInt 12345).toInt32 = 12345 := by decide
theorem is_32767 : (Int16.ofInt 32767).toInt32 = 32767 := by decide
theorem fo_X10_14 : fd_ok RX10 14 10 0 true (.object "NightMarch$Cells") := ⟨RX10, TX10, 15, tyX10, rfl, mf_X10, by decide, fl_X10_14, tyX10_ok, nmX10, rfl, rfl⟩
theorem fo_X10_18 : fd_ok RX10 18 10 1 false .int := ⟨RX10, TX10, 15, tyX10, rfl, mf_X10, by decide, fl_X10_18, tyX10_ok, nmX10, rfl, rfl⟩
theorem fo_X10_22 : fd_ok RX10 22 10 2 false .int := ⟨RX10, TX10, 15, tyX10, rfl, mf_X10, by decide, fl_X10_22, tyX10_ok, nmX10, rfl, rfl⟩
theorem fo_X10_25 : fd_ok RX10 25 10 3 true (.object "NightMarch$Cells") := ⟨RX10, TX10, 15, tyX10, rfl, mf_X10, by decide, fl_X10_25, tyX10_ok, nmX10, rfl, rfl⟩
theorem fo_X10_31 : fd_ok RX10 31 10 4 true (.object "NightMarch$Army") := ⟨RX10, TX10, 15, tyX10, rfl, mf_X10, by decide, fl_X10_31, tyX10_ok, nmX10, rfl, rfl⟩
theorem fo_X10_40 : fd_ok RX10 40 10 5 true (.object "NightMarch$State") := ⟨RX10, TX10, 15, tyX10, rfl, mf_X10, by decide, fl_X10_40, tyX10_ok, nmX10, rfl, rfl⟩
theorem fo_X10_44 : fd_ok RX10 44 10 6 true (.object "NightMarch$State") := ⟨RX10, TX10, 15, tyX10, rfl, mf_X10, by decide, fl_X10_44, tyX10_ok, nmX10, rfl, rfl⟩
theorem fo_X10_47 : fd_ok RX10 47 10 7 false .boolean := ⟨RX10, TX10, 15, tyX10, rfl, mf_X10, by decide, fl_X10_47, tyX10_ok, nmX10, rfl, rfl⟩
theorem fo_X10_51 : fd_ok RX10 51 8 0 true (.object "NightMarch$March") := ⟨RX8, TX8, 3, tyX8, rfl, mf_X8, by decide, fl_X10_51, tyX8_ok, nmX8, rfl, rfl⟩
theorem fo_X10_55 : fd_ok RX10 55 10 8 true (.object "NightMarch$March") := ⟨RX10, TX10, 15, tyX10, rfl, mf_X10, by decide, fl_X10_55, tyX10_ok, nmX10, rfl, rfl⟩
theorem fo_X10_59 : fd_ok RX10 59 10 9 true (.object "NightMarch$March") := ⟨RX10, TX10, 15, tyX10, rfl, mf_X10, by decide, fl_X10_59, tyX10_ok, nmX10, rfl, rfl⟩
theorem fo_X10_67 : fd_ok RX10 67 10 10 true (.object "NightMarch$Reader") := ⟨RX10, TX10, 15, tyX10, rfl, mf_X10, by decide, fl_X10_67, tyX10_ok, nmX10, rfl, rfl⟩
theorem fo_X10_74 : fd_ok RX10 74 10 11 true (.object "NightMarch$Suspects") := ⟨RX10, TX10, 15, tyX10, rfl, mf_X10, by decide, fl_X10_74, tyX10_ok, nmX10, rfl, rfl⟩
theorem fo_X10_81 : fd_ok RX10 81 10 12 true (.object "NightMarch$Orders") := ⟨RX10, TX10, 15, tyX10, rfl, mf_X10, by decide, fl_X10_81, tyX10_ok, nmX10, rfl, rfl⟩
theorem fo_X10_85 : fd_ok RX10 85 10 13 true (.object "NightMarch$Cells") := ⟨RX10, TX10, 15, tyX10, rfl, mf_X10, by decide, fl_X10_85, tyX10_ok, nmX10, rfl, rfl⟩
theorem fo_X10_88 : fd_ok RX10 88 10 14 true (.object "NightMarch$Cells") := ⟨RX10, TX10, 15, tyX10, rfl, mf_X10, by decide, fl_X10_88, tyX10_ok, nmX10, rfl, rfl⟩
theorem fo_X10_105 : fd_ok RX10 105 5 3 false .int := ⟨RX5, TX5, 12, tyX5, rfl, mf_X5, by decide, fl_X10_105, tyX5_ok, nmX5, rfl, rfl⟩
theorem fo_X10_109 : fd_ok RX10 109 5 0 true (.object "NightMarch$Army") := ⟨RX5, TX5, 12, tyX5, rfl, mf_X5, by decide, fl_X10_109, tyX5_ok, nmX5, rfl, rfl⟩
theorem fo_X10_115 : fd_ok RX10 115 5 1 true (.object "NightMarch$March") := ⟨RX5, TX5, 12, tyX5, rfl, mf_X5, by decide, fl_X10_115, tyX5_ok, nmX5, rfl, rfl⟩
theorem fo_X10_119 : fd_ok RX10 119 8 1 true (.object "NightMarch$Acts") := ⟨RX8, TX8, 3, tyX8, rfl, mf_X8, by decide, fl_X10_119, tyX8_ok, nmX8, rfl, rfl⟩
theorem fo_X10_123 : fd_ok RX10 123 0 4 false .int := ⟨RX0, TX0, 5, tyX0, rfl, mf_X0, by decide, fl_X10_123, tyX0_ok, nmX0, rfl, rfl⟩
theorem fo_X10_128 : fd_ok RX10 128 8 2 true (.object "NightMarch$Sights") := ⟨RX8, TX8, 3, tyX8, rfl, mf_X8, by decide, fl_X10_128, tyX8_ok, nmX8, rfl, rfl⟩
theorem fo_X10_132 : fd_ok RX10 132 7 4 false .int := ⟨RX7, TX7, 5, tyX7, rfl, mf_X7, by decide, fl_X10_132, tyX7_ok, nmX7, rfl, rfl⟩
theorem fo_X10_135 : fd_ok RX10 135 1 0 false .int := ⟨RX1, TX1, 7, tyX1, rfl, mf_X1, by decide, fl_X10_135, tyX1_ok, nmX1, rfl, rfl⟩
theorem fo_X10_138 : fd_ok RX10 138 1 1 false .int := ⟨RX1, TX1, 7, tyX1, rfl, mf_X1, by decide, fl_X10_138, tyX1_ok, nmX1, rfl, rfl⟩
theorem fo_X10_141 : fd_ok RX10 141 1 2 false .int := ⟨RX1, TX1, 7, tyX1, rfl, mf_X1, by decide, fl_X10_141, tyX1_ok, nmX1, rfl, rfl⟩
theorem fo_X10_144 : fd_ok RX10 144 1 3 false .int := ⟨RX1, TX1, 7, tyX1, rfl, mf_X1, by decide, fl_X10_144, tyX1_ok, nmX1, rfl, rfl⟩
theorem fo_X10_147 : fd_ok RX10 147 3 1 false .int := ⟨RX3, TX3, 6, tyX3, rfl, mf_X3, by decide, fl_X10_147, tyX3_ok, nmX3, rfl, rfl⟩
theorem fo_X10_174 : fd_ok RX10 174 3 2 true (.object "NightMarch$Cells") := ⟨RX3, TX3, 6, tyX3, rfl, mf_X3, by decide, fl_X10_174, tyX3_ok, nmX3, rfl, rfl⟩
theorem fo_X10_177 : fd_ok RX10 177 3 3 true (.object "NightMarch$Cells") := ⟨RX3, TX3, 6, tyX3, rfl, mf_X3, by decide, fl_X10_177, tyX3_ok, nmX3, rfl, rfl⟩
theorem fo_X10_180 : fd_ok RX10 180 3 4 true (.object "NightMarch$Cells") := ⟨RX3, TX3, 6, tyX3, rfl, mf_X3, by decide, fl_X10_180, tyX3_ok, nmX3, rfl, rfl⟩
theorem fo_X10_191 : fd_ok RX10 191 3 5 true (.object "NightMarch$Cells") := ⟨RX3, TX3, 6, tyX3, rfl, mf_X3, by decide, fl_X10_191, tyX3_ok, nmX3, rfl, rfl⟩
theorem fo_X10_282 : fd_ok RX10 282 4 3 false .int := ⟨RX4, TX4, 4, tyX4, rfl, mf_X4, by decide, fl_X10_282, tyX4_ok, nmX4, rfl, rfl⟩
theorem fo_X10_285 : fd_ok RX10 285 4 2 true (.object "NightMarch$Cells") := ⟨RX4, TX4, 4, tyX4, rfl, mf_X4, by decide, fl_X10_285, tyX4_ok, nmX4, rfl, rfl⟩
theorem fo_X10_299 : fd_ok RX10 299 9 3 false .int := ⟨RX9, TX9, 4, tyX9, rfl, mf_X9, by decide, fl_X10_299, tyX9_ok, nmX9, rfl, rfl⟩
theorem fo_X10_300 : fd_ok RX10 300 9 0 true (.object "NightMarch$Cells") := ⟨RX9, TX9, 4, tyX9, rfl, mf_X9, by decide, fl_X10_300, tyX9_ok, nmX9, rfl, rfl⟩
theorem fo_X10_302 : fd_ok RX10 302 9 1 true (.object "NightMarch$Cells") := ⟨RX9, TX9, 4, tyX9, rfl, mf_X9, by decide, fl_X10_302, tyX9_ok, nmX9, rfl, rfl⟩
theorem fo_X0_14 : fd_ok RX0 14 0 0 true (.object "NightMarch$Cells") := ⟨RX0, TX0, 5, tyX0, rfl, mf_X0, by decide, fl_X0_14, tyX0_ok, nmX0, rfl, rfl⟩
theorem fo_X0_20 : fd_ok RX0 20 0 1 true (.object "NightMarch$Cells") := ⟨RX0, TX0, 5, tyX0, rfl, mf_X0, by decide, fl_X0_20, tyX0_ok, nmX0, rfl, rfl⟩
theorem fo_X0_23 : fd_ok RX0 23 0 2 true (.object "NightMarch$Cells") := ⟨RX0, TX0, 5, tyX0, rfl, mf_X0, by decide, fl_X0_23, tyX0_ok, nmX0, rfl, rfl⟩
theorem fo_X0_26 : fd_ok RX0 26 0 3 true (.object "NightMarch$Cells") := ⟨RX0, TX0, 5, tyX0, rfl, mf_X0, by decide, fl_X0_26, tyX0_ok, nmX0, rfl, rfl⟩
theorem fo_X0_29 : fd_ok RX0 29 0 4 false .int := ⟨RX0, TX0, 5, tyX0, rfl, mf_X0, by decide, fl_X0_29, tyX0_ok, nmX0, rfl, rfl⟩
theorem fo_X0_40 : fd_ok RX0 40 3 4 true (.object "NightMarch$Cells") := ⟨RX3, TX3, 6, tyX3, rfl, mf_X3, by decide, fl_X0_40, tyX3_ok, nmX3, rfl, rfl⟩
theorem fo_X0_57 : fd_ok RX0 57 3 3 true (.object "NightMarch$Cells") := ⟨RX3, TX3, 6, tyX3, rfl, mf_X3, by decide, fl_X0_57, tyX3_ok, nmX3, rfl, rfl⟩
theorem fo_X1_9 : fd_ok RX1 9 1 0 false .int := ⟨RX1, TX1, 7, tyX1, rfl, mf_X1, by decide, fl_X1_9, tyX1_ok, nmX1, rfl, rfl⟩
theorem fo_X1_15 : fd_ok RX1 15 1 1 false .int := ⟨RX1, TX1, 7, tyX1, rfl, mf_X1, by decide, fl_X1_15, tyX1_ok, nmX1, rfl, rfl⟩
theorem fo_X1_18 : fd_ok RX1 18 1 2 false .int := ⟨RX1, TX1, 7, tyX1, rfl, mf_X1, by decide, fl_X1_18, tyX1_ok, nmX1, rfl, rfl⟩
theorem fo_X1_21 : fd_ok RX1 21 1 3 false .int := ⟨RX1, TX1, 7, tyX1, rfl, mf_X1, by decide, fl_X1_21, tyX1_ok, nmX1, rfl, rfl⟩
theorem fo_X1_24 : fd_ok RX1 24 1 4 false .int := ⟨RX1, TX1, 7, tyX1, rfl, mf_X1, by decide, fl_X1_24, tyX1_ok, nmX1, rfl, rfl⟩
theorem fo_X1_32 : fd_ok RX1 32 1 5 true (.object "NightMarch$Cells") := ⟨RX1, TX1, 7, tyX1, rfl, mf_X1, by decide, fl_X1_32, tyX1_ok, nmX1, rfl, rfl⟩
theorem fo_X1_39 : fd_ok RX1 39 1 6 true (.object "NightMarch$Rule") := ⟨RX1, TX1, 7, tyX1, rfl, mf_X1, by decide, fl_X1_39, tyX1_ok, nmX1, rfl, rfl⟩
theorem fo_X1_43 : fd_ok RX1 43 6 3 false .int := ⟨RX6, TX6, 4, tyX6, rfl, mf_X6, by decide, fl_X1_43, tyX6_ok, nmX6, rfl, rfl⟩
theorem fo_X2_13 : fd_ok RX2 13 2 0 true (.array .int) := ⟨RX2, TX2, 1, tyX2, rfl, mf_X2, by decide, fl_X2_13, tyX2_ok, nmX2, rfl, rfl⟩
theorem fo_X3_9 : fd_ok RX3 9 3 1 false .int := ⟨RX3, TX3, 6, tyX3, rfl, mf_X3, by decide, fl_X3_9, tyX3_ok, nmX3, rfl, rfl⟩
theorem fo_X3_20 : fd_ok RX3 20 3 2 true (.object "NightMarch$Cells") := ⟨RX3, TX3, 6, tyX3, rfl, mf_X3, by decide, fl_X3_20, tyX3_ok, nmX3, rfl, rfl⟩
theorem fo_X3_24 : fd_ok RX3 24 3 3 true (.object "NightMarch$Cells") := ⟨RX3, TX3, 6, tyX3, rfl, mf_X3, by decide, fl_X3_24, tyX3_ok, nmX3, rfl, rfl⟩
theorem fo_X3_27 : fd_ok RX3 27 3 4 true (.object "NightMarch$Cells") := ⟨RX3, TX3, 6, tyX3, rfl, mf_X3, by decide, fl_X3_27, tyX3_ok, nmX3, rfl, rfl⟩
theorem fo_X3_30 : fd_ok RX3 30 3 5 true (.object "NightMarch$Cells") := ⟨RX3, TX3, 6, tyX3, rfl, mf_X3, by decide, fl_X3_30, tyX3_ok, nmX3, rfl, rfl⟩
theorem fo_X3_33 : fd_ok RX3 33 3 0 true (.object "NightMarch$Army") := ⟨RX3, TX3, 6, tyX3, rfl, mf_X3, by decide, fl_X3_33, tyX3_ok, nmX3, rfl, rfl⟩
theorem fo_X3_50 : fd_ok RX3 50 1 2 false .int := ⟨RX1, TX1, 7, tyX1, rfl, mf_X1, by decide, fl_X3_50, tyX1_ok, nmX1, rfl, rfl⟩
theorem fo_X3_72 : fd_ok RX3 72 1 0 false .int := ⟨RX1, TX1, 7, tyX1, rfl, mf_X1, by decide, fl_X3_72, tyX1_ok, nmX1, rfl, rfl⟩
theorem fo_X3_82 : fd_ok RX3 82 1 6 true (.object "NightMarch$Rule") := ⟨RX1, TX1, 7, tyX1, rfl, mf_X1, by decide, fl_X3_82, tyX1_ok, nmX1, rfl, rfl⟩
theorem fo_X3_86 : fd_ok RX3 86 6 3 false .int := ⟨RX6, TX6, 4, tyX6, rfl, mf_X6, by decide, fl_X3_86, tyX6_ok, nmX6, rfl, rfl⟩
theorem fo_X3_104 : fd_ok RX3 104 1 1 false .int := ⟨RX1, TX1, 7, tyX1, rfl, mf_X1, by decide, fl_X3_104, tyX1_ok, nmX1, rfl, rfl⟩
theorem fo_X3_111 : fd_ok RX3 111 1 3 false .int := ⟨RX1, TX1, 7, tyX1, rfl, mf_X1, by decide, fl_X3_111, tyX1_ok, nmX1, rfl, rfl⟩
theorem fo_X4_16 : fd_ok RX4 16 4 0 true (.object "NightMarch$Cells") := ⟨RX4, TX4, 4, tyX4, rfl, mf_X4, by decide, fl_X4_16, tyX4_ok, nmX4, rfl, rfl⟩
theorem fo_X4_20 : fd_ok RX4 20 4 1 true (.object "NightMarch$Cells") := ⟨RX4, TX4, 4, tyX4, rfl, mf_X4, by decide, fl_X4_20, tyX4_ok, nmX4, rfl, rfl⟩
theorem fo_X4_23 : fd_ok RX4 23 4 2 true (.object "NightMarch$Cells") := ⟨RX4, TX4, 4, tyX4, rfl, mf_X4, by decide, fl_X4_23, tyX4_ok, nmX4, rfl, rfl⟩
theorem fo_X4_26 : fd_ok RX4 26 4 3 false .int := ⟨RX4, TX4, 4, tyX4, rfl, mf_X4, by decide, fl_X4_26, tyX4_ok, nmX4, rfl, rfl⟩
theorem fo_X4_37 : fd_ok RX4 37 3 0 true (.object "NightMarch$Army") := ⟨RX3, TX3, 6, tyX3, rfl, mf_X3, by decide, fl_X4_37, tyX3_ok, nmX3, rfl, rfl⟩
theorem fo_X4_43 : fd_ok RX4 43 1 2 false .int := ⟨RX1, TX1, 7, tyX1, rfl, mf_X1, by decide, fl_X4_43, tyX1_ok, nmX1, rfl, rfl⟩
theorem fo_X4_77 : fd_ok RX4 77 3 5 true (.object "NightMarch$Cells") := ⟨RX3, TX3, 6, tyX3, rfl, mf_X3, by decide, fl_X4_77, tyX3_ok, nmX3, rfl, rfl⟩
theorem fo_X5_12 : fd_ok RX5 12 5 0 true (.object "NightMarch$Army") := ⟨RX5, TX5, 12, tyX5, rfl, mf_X5, by decide, fl_X5_12, tyX5_ok, nmX5, rfl, rfl⟩
theorem fo_X5_23 : fd_ok RX5 23 5 1 true (.object "NightMarch$March") := ⟨RX5, TX5, 12, tyX5, rfl, mf_X5, by decide, fl_X5_23, tyX5_ok, nmX5, rfl, rfl⟩
theorem fo_X5_27 : fd_ok RX5 27 5 2 false .int := ⟨RX5, TX5, 12, tyX5, rfl, mf_X5, by decide, fl_X5_27, tyX5_ok, nmX5, rfl, rfl⟩
theorem fo_X5_31 : fd_ok RX5 31 5 3 false .int := ⟨RX5, TX5, 12, tyX5, rfl, mf_X5, by decide, fl_X5_31, tyX5_ok, nmX5, rfl, rfl⟩
theorem fo_X5_34 : fd_ok RX5 34 5 5 false .int := ⟨RX5, TX5, 12, tyX5, rfl, mf_X5, by decide, fl_X5_34, tyX5_ok, nmX5, rfl, rfl⟩
theorem fo_X5_37 : fd_ok RX5 37 5 6 false .int := ⟨RX5, TX5, 12, tyX5, rfl, mf_X5, by decide, fl_X5_37, tyX5_ok, nmX5, rfl, rfl⟩
theorem fo_X5_40 : fd_ok RX5 40 5 7 false .int := ⟨RX5, TX5, 12, tyX5, rfl, mf_X5, by decide, fl_X5_40, tyX5_ok, nmX5, rfl, rfl⟩
theorem fo_X5_43 : fd_ok RX5 43 5 8 false .int := ⟨RX5, TX5, 12, tyX5, rfl, mf_X5, by decide, fl_X5_43, tyX5_ok, nmX5, rfl, rfl⟩
theorem fo_X5_46 : fd_ok RX5 46 5 9 false .int := ⟨RX5, TX5, 12, tyX5, rfl, mf_X5, by decide, fl_X5_46, tyX5_ok, nmX5, rfl, rfl⟩
theorem fo_X5_49 : fd_ok RX5 49 5 10 false .int := ⟨RX5, TX5, 12, tyX5, rfl, mf_X5, by decide, fl_X5_49, tyX5_ok, nmX5, rfl, rfl⟩
theorem fo_X5_52 : fd_ok RX5 52 5 11 false .int := ⟨RX5, TX5, 12, tyX5, rfl, mf_X5, by decide, fl_X5_52, tyX5_ok, nmX5, rfl, rfl⟩
theorem fo_X5_55 : fd_ok RX5 55 5 4 true (.object "NightMarch$Cells") := ⟨RX5, TX5, 12, tyX5, rfl, mf_X5, by decide, fl_X5_55, tyX5_ok, nmX5, rfl, rfl⟩
theorem fo_X5_69 : fd_ok RX5 69 1 1 false .int := ⟨RX1, TX1, 7, tyX1, rfl, mf_X1, by decide, fl_X5_69, tyX1_ok, nmX1, rfl, rfl⟩
theorem fo_X5_72 : fd_ok RX5 72 3 2 true (.object "NightMarch$Cells") := ⟨RX3, TX3, 6, tyX3, rfl, mf_X3, by decide, fl_X5_72, tyX3_ok, nmX3, rfl, rfl⟩
theorem fo_X5_113 : fd_ok RX5 113 1 0 false .int := ⟨RX1, TX1, 7, tyX1, rfl, mf_X1, by decide, fl_X5_113, tyX1_ok, nmX1, rfl, rfl⟩
theorem fo_X5_117 : fd_ok RX5 117 1 3 false .int := ⟨RX1, TX1, 7, tyX1, rfl, mf_X1, by decide, fl_X5_117, tyX1_ok, nmX1, rfl, rfl⟩
theorem fo_X5_135 : fd_ok RX5 135 3 3 true (.object "NightMarch$Cells") := ⟨RX3, TX3, 6, tyX3, rfl, mf_X3, by decide, fl_X5_135, tyX3_ok, nmX3, rfl, rfl⟩
theorem fo_X5_138 : fd_ok RX5 138 1 2 false .int := ⟨RX1, TX1, 7, tyX1, rfl, mf_X1, by decide, fl_X5_138, tyX1_ok, nmX1, rfl, rfl⟩
theorem fo_X5_148 : fd_ok RX5 148 3 5 true (.object "NightMarch$Cells") := ⟨RX3, TX3, 6, tyX3, rfl, mf_X3, by decide, fl_X5_148, tyX3_ok, nmX3, rfl, rfl⟩
theorem fo_X5_157 : fd_ok RX5 157 1 5 true (.object "NightMarch$Cells") := ⟨RX1, TX1, 7, tyX1, rfl, mf_X1, by decide, fl_X5_157, tyX1_ok, nmX1, rfl, rfl⟩
theorem fo_X5_159 : fd_ok RX5 159 1 4 false .int := ⟨RX1, TX1, 7, tyX1, rfl, mf_X1, by decide, fl_X5_159, tyX1_ok, nmX1, rfl, rfl⟩
theorem fo_X5_170 : fd_ok RX5 170 1 6 true (.object "NightMarch$Rule") := ⟨RX1, TX1, 7, tyX1, rfl, mf_X1, by decide, fl_X5_170, tyX1_ok, nmX1, rfl, rfl⟩
theorem fo_X6_14 : fd_ok RX6 14 6 0 true (.object "NightMarch$Cells") := ⟨RX6, TX6, 4, tyX6, rfl, mf_X6, by decide, fl_X6_14, tyX6_ok, nmX6, rfl, rfl⟩
theorem fo_X6_20 : fd_ok RX6 20 6 1 true (.object "NightMarch$Cells") := ⟨RX6, TX6, 4, tyX6, rfl, mf_X6, by decide, fl_X6_20, tyX6_ok, nmX6, rfl, rfl⟩
theorem fo_X6_23 : fd_ok RX6 23 6 2 true (.object "NightMarch$Cells") := ⟨RX6, TX6, 4, tyX6, rfl, mf_X6, by decide, fl_X6_23, tyX6_ok, nmX6, rfl, rfl⟩
theorem fo_X6_26 : fd_ok RX6 26 6 3 false .int := ⟨RX6, TX6, 4, tyX6, rfl, mf_X6, by decide, fl_X6_26, tyX6_ok, nmX6, rfl, rfl⟩
theorem fo_X7_14 : fd_ok RX7 14 7 0 true (.object "NightMarch$Cells") := ⟨RX7, TX7, 5, tyX7, rfl, mf_X7, by decide, fl_X7_14, tyX7_ok, nmX7, rfl, rfl⟩
theorem fo_X7_20 : fd_ok RX7 20 7 1 true (.object "NightMarch$Cells") := ⟨RX7, TX7, 5, tyX7, rfl, mf_X7, by decide, fl_X7_20, tyX7_ok, nmX7, rfl, rfl⟩
theorem fo_X7_23 : fd_ok RX7 23 7 2 true (.object "NightMarch$Cells") := ⟨RX7, TX7, 5, tyX7, rfl, mf_X7, by decide, fl_X7_23, tyX7_ok, nmX7, rfl, rfl⟩
theorem fo_X7_26 : fd_ok RX7 26 7 3 true (.object "NightMarch$Cells") := ⟨RX7, TX7, 5, tyX7, rfl, mf_X7, by decide, fl_X7_26, tyX7_ok, nmX7, rfl, rfl⟩
theorem fo_X7_29 : fd_ok RX7 29 7 4 false .int := ⟨RX7, TX7, 5, tyX7, rfl, mf_X7, by decide, fl_X7_29, tyX7_ok, nmX7, rfl, rfl⟩
theorem fo_X8_10 : fd_ok RX8 10 8 1 true (.object "NightMarch$Acts") := ⟨RX8, TX8, 3, tyX8, rfl, mf_X8, by decide, fl_X8_10, tyX8_ok, nmX8, rfl, rfl⟩
theorem fo_X8_19 : fd_ok RX8 19 8 2 true (.object "NightMarch$Sights") := ⟨RX8, TX8, 3, tyX8, rfl, mf_X8, by decide, fl_X8_19, tyX8_ok, nmX8, rfl, rfl⟩
theorem fo_X8_28 : fd_ok RX8 28 8 0 true (.object "NightMarch$March") := ⟨RX8, TX8, 3, tyX8, rfl, mf_X8, by decide, fl_X8_28, tyX8_ok, nmX8, rfl, rfl⟩
theorem fo_X9_14 : fd_ok RX9 14 9 0 true (.object "NightMarch$Cells") := ⟨RX9, TX9, 4, tyX9, rfl, mf_X9, by decide, fl_X9_14, tyX9_ok, nmX9, rfl, rfl⟩
theorem fo_X9_20 : fd_ok RX9 20 9 1 true (.object "NightMarch$Cells") := ⟨RX9, TX9, 4, tyX9, rfl, mf_X9, by decide, fl_X9_20, tyX9_ok, nmX9, rfl, rfl⟩
theorem fo_X9_23 : fd_ok RX9 23 9 2 true (.object "NightMarch$Cells") := ⟨RX9, TX9, 4, tyX9, rfl, mf_X9, by decide, fl_X9_23, tyX9_ok, nmX9, rfl, rfl⟩
theorem fo_X9_26 : fd_ok RX9 26 9 3 false .int := ⟨RX9, TX9, 4, tyX9, rfl, mf_X9, by decide, fl_X9_26, tyX9_ok, nmX9, rfl, rfl⟩
theorem fo_X9_30 : fd_ok RX9 30 3 0 true (.object "NightMarch$Army") := ⟨RX3, TX3, 6, tyX3, rfl, mf_X3, by decide, fl_X9_30, tyX3_ok, nmX3, rfl, rfl⟩
theorem fo_X9_36 : fd_ok RX9 36 1 1 false .int := ⟨RX1, TX1, 7, tyX1, rfl, mf_X1, by decide, fl_X9_36, tyX1_ok, nmX1, rfl, rfl⟩
theorem fo_X9_40 : fd_ok RX9 40 1 0 false .int := ⟨RX1, TX1, 7, tyX1, rfl, mf_X1, by decide, fl_X9_40, tyX1_ok, nmX1, rfl, rfl⟩
theorem fo_X11_7 : fd_ok RX11 7 11 1 false .int := ⟨RX11, TX11, 55, tyX11, rfl, mf_X11, by decide, fl_X11_7, tyX11_ok, nmX11, rfl, rfl⟩
theorem fo_X11_13 : fd_ok RX11 13 11 5 false .int := ⟨RX11, TX11, 55, tyX11, rfl, mf_X11, by decide, fl_X11_13, tyX11_ok, nmX11, rfl, rfl⟩
theorem fo_X11_16 : fd_ok RX11 16 11 6 false .int := ⟨RX11, TX11, 55, tyX11, rfl, mf_X11, by decide, fl_X11_16, tyX11_ok, nmX11, rfl, rfl⟩
theorem fo_X11_19 : fd_ok RX11 19 11 7 true (.array .int) := ⟨RX11, TX11, 55, tyX11, rfl, mf_X11, by decide, fl_X11_19, tyX11_ok, nmX11, rfl, rfl⟩
theorem fo_X11_23 : fd_ok RX11 23 11 8 true (.array .int) := ⟨RX11, TX11, 55, tyX11, rfl, mf_X11, by decide, fl_X11_23, tyX11_ok, nmX11, rfl, rfl⟩
theorem fo_X11_26 : fd_ok RX11 26 11 9 true (.array .int) := ⟨RX11, TX11, 55, tyX11, rfl, mf_X11, by decide, fl_X11_26, tyX11_ok, nmX11, rfl, rfl⟩
theorem fo_X11_29 : fd_ok RX11 29 11 12 false .int := ⟨RX11, TX11, 55, tyX11, rfl, mf_X11, by decide, fl_X11_29, tyX11_ok, nmX11, rfl, rfl⟩
theorem fo_X11_32 : fd_ok RX11 32 11 13 true (.array .int) := ⟨RX11, TX11, 55, tyX11, rfl, mf_X11, by decide, fl_X11_32, tyX11_ok, nmX11, rfl, rfl⟩
theorem fo_X11_35 : fd_ok RX11 35 11 31 true (.array .int) := ⟨RX11, TX11, 55, tyX11, rfl, mf_X11, by decide, fl_X11_35, tyX11_ok, nmX11, rfl, rfl⟩
theorem fo_X11_38 : fd_ok RX11 38 11 32 true (.array .int) := ⟨RX11, TX11, 55, tyX11, rfl, mf_X11, by decide, fl_X11_38, tyX11_ok, nmX11, rfl, rfl⟩
theorem fo_X11_41 : fd_ok RX11 41 11 33 true (.array .int) := ⟨RX11, TX11, 55, tyX11, rfl, mf_X11, by decide, fl_X11_41, tyX11_ok, nmX11, rfl, rfl⟩
theorem fo_X11_44 : fd_ok RX11 44 11 34 true (.array .int) := ⟨RX11, TX11, 55, tyX11, rfl, mf_X11, by decide, fl_X11_44, tyX11_ok, nmX11, rfl, rfl⟩
theorem fo_X11_47 : fd_ok RX11 47 11 35 true (.array .boolean) := ⟨RX11, TX11, 55, tyX11, rfl, mf_X11, by decide, fl_X11_47, tyX11_ok, nmX11, rfl, rfl⟩
theorem fo_X11_51 : fd_ok RX11 51 11 36 true (.array .int) := ⟨RX11, TX11, 55, tyX11, rfl, mf_X11, by decide, fl_X11_51, tyX11_ok, nmX11, rfl, rfl⟩
theorem fo_X11_54 : fd_ok RX11 54 11 37 true (.array .int) := ⟨RX11, TX11, 55, tyX11, rfl, mf_X11, by decide, fl_X11_54, tyX11_ok, nmX11, rfl, rfl⟩
theorem fo_X11_57 : fd_ok RX11 57 11 39 true (.array .int) := ⟨RX11, TX11, 55, tyX11, rfl, mf_X11, by decide, fl_X11_57, tyX11_ok, nmX11, rfl, rfl⟩
theorem fo_X11_60 : fd_ok RX11 60 11 40 true (.array .int) := ⟨RX11, TX11, 55, tyX11, rfl, mf_X11, by decide, fl_X11_60, tyX11_ok, nmX11, rfl, rfl⟩
theorem fo_X11_63 : fd_ok RX11 63 11 41 false .int := ⟨RX11, TX11, 55, tyX11, rfl, mf_X11, by decide, fl_X11_63, tyX11_ok, nmX11, rfl, rfl⟩
theorem fo_X11_66 : fd_ok RX11 66 11 44 true (.array .int) := ⟨RX11, TX11, 55, tyX11, rfl, mf_X11, by decide, fl_X11_66, tyX11_ok, nmX11, rfl, rfl⟩
theorem fo_X11_69 : fd_ok RX11 69 11 46 true (.array .int) := ⟨RX11, TX11, 55, tyX11, rfl, mf_X11, by decide, fl_X11_69, tyX11_ok, nmX11, rfl, rfl⟩
theorem fo_X11_72 : fd_ok RX11 72 11 47 true (.array .int) := ⟨RX11, TX11, 55, tyX11, rfl, mf_X11, by decide, fl_X11_72, tyX11_ok, nmX11, rfl, rfl⟩
theorem fo_X11_75 : fd_ok RX11 75 11 52 true (.array .int) := ⟨RX11, TX11, 55, tyX11, rfl, mf_X11, by decide, fl_X11_75, tyX11_ok, nmX11, rfl, rfl⟩
theorem fo_X11_78 : fd_ok RX11 78 11 53 true (.array .int) := ⟨RX11, TX11, 55, tyX11, rfl, mf_X11, by decide, fl_X11_78, tyX11_ok, nmX11, rfl, rfl⟩
theorem fo_X11_81 : fd_ok RX11 81 11 54 true (.array .int) := ⟨RX11, TX11, 55, tyX11, rfl, mf_X11, by decide, fl_X11_81, tyX11_ok, nmX11, rfl, rfl⟩
theorem fo_X11_84 : fd_ok RX11 84 11 0 false .int := ⟨RX11, TX11, 55, tyX11, rfl, mf_X11, by decide, fl_X11_84, tyX11_ok, nmX11, rfl, rfl⟩
theorem fo_X11_87 : fd_ok RX11 87 11 10 false .int := ⟨RX11, TX11, 55, tyX11, rfl, mf_X11, by decide, fl_X11_87, tyX11_ok, nmX11, rfl, rfl⟩
theorem fo_X11_94 : fd_ok RX11 94 11 14 false .int := ⟨RX11, TX11, 55, tyX11, rfl, mf_X11, by decide, fl_X11_94, tyX11_ok, nmX11, rfl, rfl⟩
theorem fo_X11_97 : fd_ok RX11 97 11 15 false .int := ⟨RX11, TX11, 55, tyX11, rfl, mf_X11, by decide, fl_X11_97, tyX11_ok, nmX11, rfl, rfl⟩
theorem fo_X11_104 : fd_ok RX11 104 11 17 false .int := ⟨RX11, TX11, 55, tyX11, rfl, mf_X11, by decide, fl_X11_104, tyX11_ok, nmX11, rfl, rfl⟩
theorem fo_X11_107 : fd_ok RX11 107 11 21 false .long := ⟨RX11, TX11, 55, tyX11, rfl, mf_X11, by decide, fl_X11_107, tyX11_ok, nmX11, rfl, rfl⟩
theorem fo_X11_111 : fd_ok RX11 111 11 19 false .int := ⟨RX11, TX11, 55, tyX11, rfl, mf_X11, by decide, fl_X11_111, tyX11_ok, nmX11, rfl, rfl⟩
theorem fo_X11_114 : fd_ok RX11 114 11 20 false .int := ⟨RX11, TX11, 55, tyX11, rfl, mf_X11, by decide, fl_X11_114, tyX11_ok, nmX11, rfl, rfl⟩
theorem fo_X11_117 : fd_ok RX11 117 11 16 false .int := ⟨RX11, TX11, 55, tyX11, rfl, mf_X11, by decide, fl_X11_117, tyX11_ok, nmX11, rfl, rfl⟩
theorem fo_X11_127 : fd_ok RX11 127 11 18 false .int := ⟨RX11, TX11, 55, tyX11, rfl, mf_X11, by decide, fl_X11_127, tyX11_ok, nmX11, rfl, rfl⟩
theorem fo_X11_140 : fd_ok RX11 140 11 11 false .int := ⟨RX11, TX11, 55, tyX11, rfl, mf_X11, by decide, fl_X11_140, tyX11_ok, nmX11, rfl, rfl⟩
theorem fo_X11_153 : fd_ok RX11 153 11 28 false .int := ⟨RX11, TX11, 55, tyX11, rfl, mf_X11, by decide, fl_X11_153, tyX11_ok, nmX11, rfl, rfl⟩
theorem fo_X11_156 : fd_ok RX11 156 11 29 false .int := ⟨RX11, TX11, 55, tyX11, rfl, mf_X11, by decide, fl_X11_156, tyX11_ok, nmX11, rfl, rfl⟩
theorem fo_X11_172 : fd_ok RX11 172 11 30 false .int := ⟨RX11, TX11, 55, tyX11, rfl, mf_X11, by decide, fl_X11_172, tyX11_ok, nmX11, rfl, rfl⟩
theorem fo_X11_200 : fd_ok RX11 200 11 23 false .int := ⟨RX11, TX11, 55, tyX11, rfl, mf_X11, by decide, fl_X11_200, tyX11_ok, nmX11, rfl, rfl⟩
theorem fo_X11_207 : fd_ok RX11 207 11 24 false .int := ⟨RX11, TX11, 55, tyX11, rfl, mf_X11, by decide, fl_X11_207, tyX11_ok, nmX11, rfl, rfl⟩
theorem fo_X11_213 : fd_ok RX11 213 11 25 false .int := ⟨RX11, TX11, 55, tyX11, rfl, mf_X11, by decide, fl_X11_213, tyX11_ok, nmX11, rfl, rfl⟩
theorem fo_X11_216 : fd_ok RX11 216 11 22 false .int := ⟨RX11, TX11, 55, tyX11, rfl, mf_X11, by decide, fl_X11_216, tyX11_ok, nmX11, rfl, rfl⟩
theorem fo_X11_232 : fd_ok RX11 232 11 26 false .int := ⟨RX11, TX11, 55, tyX11, rfl, mf_X11, by decide, fl_X11_232, tyX11_ok, nmX11, rfl, rfl⟩
theorem fo_X11_235 : fd_ok RX11 235 11 27 false .int := ⟨RX11, TX11, 55, tyX11, rfl, mf_X11, by decide, fl_X11_235, tyX11_ok, nmX11, rfl, rfl⟩
theorem fo_X11_251 : fd_ok RX11 251 11 2 false .int := ⟨RX11, TX11, 55, tyX11, rfl, mf_X11, by decide, fl_X11_251, tyX11_ok, nmX11, rfl, rfl⟩
theorem fo_X11_254 : fd_ok RX11 254 11 3 false .int := ⟨RX11, TX11, 55, tyX11, rfl, mf_X11, by decide, fl_X11_254, tyX11_ok, nmX11, rfl, rfl⟩
theorem fo_X11_257 : fd_ok RX11 257 11 4 false .int := ⟨RX11, TX11, 55, tyX11, rfl, mf_X11, by decide, fl_X11_257, tyX11_ok, nmX11, rfl, rfl⟩
theorem fo_X11_264 : fd_ok RX11 264 11 38 false .int := ⟨RX11, TX11, 55, tyX11, rfl, mf_X11, by decide, fl_X11_264, tyX11_ok, nmX11, rfl, rfl⟩
theorem fo_X11_267 : fd_ok RX11 267 11 45 false .int := ⟨RX11, TX11, 55, tyX11, rfl, mf_X11, by decide, fl_X11_267, tyX11_ok, nmX11, rfl, rfl⟩
theorem fo_X11_270 : fd_ok RX11 270 11 49 false .boolean := ⟨RX11, TX11, 55, tyX11, rfl, mf_X11, by decide, fl_X11_270, tyX11_ok, nmX11, rfl, rfl⟩
theorem fo_X11_296 : fd_ok RX11 296 11 42 false .int := ⟨RX11, TX11, 55, tyX11, rfl, mf_X11, by decide, fl_X11_296, tyX11_ok, nmX11, rfl, rfl⟩
theorem fo_X11_299 : fd_ok RX11 299 11 43 false .int := ⟨RX11, TX11, 55, tyX11, rfl, mf_X11, by decide, fl_X11_299, tyX11_ok, nmX11, rfl, rfl⟩
theorem fo_X11_385 : fd_ok RX11 385 11 48 false .int := ⟨RX11, TX11, 55, tyX11, rfl, mf_X11, by decide, fl_X11_385, tyX11_ok, nmX11, rfl, rfl⟩
theorem fo_X11_401 : fd_ok RX11 401 11 50 false .int := ⟨RX11, TX11, 55, tyX11, rfl, mf_X11, by decide, fl_X11_401, tyX11_ok, nmX11, rfl, rfl⟩
theorem fo_X11_404 : fd_ok RX11 404 11 51 false .int := ⟨RX11, TX11, 55, tyX11, rfl, mf_X11, by decide, fl_X11_404, tyX11_ok, nmX11, rfl, rfl⟩
theorem vo_X10_91 : vc_ok RX10 91 yX10_tapeNumber cX10_tapeNumber 3 none 10 1 := ⟨RX10, TX10, 15, rfl, ⟨ml_X10_91, mi_X10_tapeNumber, mz_X10_tapeNumber, mk_X10, mc_X10_tapeNumber⟩, by decide, rfl, by decide +kernel, by decide +kernel, by decide +kernel⟩
theorem vo_X10_101 : vc_ok RX10 101 yX5_readArmy cX5_readArmy 3 (some .int) 5 1 := ⟨RX5, TX5, 12, rfl, ⟨ml_X10_101, mi_X5_readArmy, mz_X5_readArmy, mk_X5, mc_X5_readArmy⟩, by decide, rfl, by decide +kernel, by decide +kernel, by decide +kernel⟩
theorem vo_X10_106 : vc_ok RX10 106 yX10_refuse cX10_refuse 2 none 10 1 := ⟨RX10, TX10, 15, rfl, ⟨ml_X10_106, mi_X10_refuse, mz_X10_refuse, mk_X10, mc_X10_refuse⟩, by decide, rfl, by decide +kernel, by decide +kernel, by decide +kernel⟩
theorem vo_X10_112 : vc_ok RX10 112 yX1_copyFrom cX1_copyFrom 2 none 1 1 := ⟨RX1, TX1, 7, rfl, ⟨ml_X10_112, mi_X1_copyFrom, mz_X1_copyFrom, mk_X1, mc_X1_copyFrom⟩, by decide, rfl, by decide +kernel, by decide +kernel, by decide +kernel⟩
theorem vo_X10_116 : vc_ok RX10 116 yX3_copyFrom cX3_copyFrom 2 none 3 1 := ⟨RX3, TX3, 6, rfl, ⟨ml_X10_116, mi_X3_copyFrom, mz_X3_copyFrom, mk_X3, mc_X3_copyFrom⟩, by decide, rfl, by decide +kernel, by decide +kernel, by decide +kernel⟩
theorem vo_X10_150 : vc_ok RX10 150 yX3_mudIn cX3_mudIn 2 (some .int) 3 1 := ⟨RX3, TX3, 6, rfl, ⟨ml_X10_150, mi_X3_mudIn, mz_X3_mudIn, mk_X3, mc_X3_mudIn⟩, by decide, rfl, by decide +kernel, by decide +kernel, by decide +kernel⟩
theorem vo_X10_153 : vc_ok RX10 153 yX3_honourOfAll cX3_honourOfAll 3 (some .int) 3 0 := ⟨RX3, TX3, 6, rfl, ⟨ml_X10_153, mi_X3_honourOfAll, mz_X3_honourOfAll, mk_X3, mc_X3_honourOfAll⟩, by decide, rfl, by decide +kernel, by decide +kernel, by decide +kernel⟩
theorem vo_X10_157 : vc_ok RX10 157 yX3_menInCamp cX3_menInCamp 3 (some .int) 3 0 := ⟨RX3, TX3, 6, rfl, ⟨ml_X10_157, mi_X3_menInCamp, mz_X3_menInCamp, mk_X3, mc_X3_menInCamp⟩, by decide, rfl, by decide +kernel, by decide +kernel, by decide +kernel⟩
theorem vo_X10_160 : vc_ok RX10 160 yX3_couplesInStep cX3_couplesInStep 5 (some .int) 3 0 := ⟨RX3, TX3, 6, rfl, ⟨ml_X10_160, mi_X3_couplesInStep, mz_X3_couplesInStep, mk_X3, mc_X3_couplesInStep⟩, by decide, rfl, by decide +kernel, by decide +kernel, by decide +kernel⟩
theorem vo_X10_163 : vc_ok RX10 163 yX2_at cX2_at 2 (some .int) 2 1 := ⟨RX2, TX2, 1, rfl, ⟨ml_X10_163, mi_X2_at, mz_X2_at, mk_X2, mc_X2_at⟩, by decide, rfl, by decide +kernel, by decide +kernel, by decide +kernel⟩
theorem vo_X10_171 : vc_ok RX10 171 yX10_needMan cX10_needMan 2 none 10 1 := ⟨RX10, TX10, 15, rfl, ⟨ml_X10_171, mi_X10_needMan, mz_X10_needMan, mk_X10, mc_X10_needMan⟩, by decide, rfl, by decide +kernel, by decide +kernel, by decide +kernel⟩
theorem vo_X10_183 : vc_ok RX10 183 yX3_rowOf cX3_rowOf 3 (some .int) 3 1 := ⟨RX3, TX3, 6, rfl, ⟨ml_X10_183, mi_X3_rowOf, mz_X3_rowOf, mk_X3, mc_X3_rowOf⟩, by decide, rfl, by decide +kernel, by decide +kernel, by decide +kernel⟩
theorem vo_X10_188 : vc_ok RX10 188 yX10_needRow cX10_needRow 2 none 10 1 := ⟨RX10, TX10, 15, rfl, ⟨ml_X10_188, mi_X10_needRow, mz_X10_needRow, mk_X10, mc_X10_needRow⟩, by decide, rfl, by decide +kernel, by decide +kernel, by decide +kernel⟩
theorem vo_X10_193 : vc_ok RX10 193 yX3_heardAt cX3_heardAt 3 (some .int) 3 2 := ⟨RX3, TX3, 6, rfl, ⟨ml_X10_193, mi_X3_heardAt, mz_X3_heardAt, mk_X3, mc_X3_heardAt⟩, by decide, rfl, by decide +kernel, by decide +kernel, by decide +kernel⟩
theorem vo_X10_197 : vc_ok RX10 197 yX3_namedAt cX3_namedAt 4 (some .int) 3 3 := ⟨RX3, TX3, 6, rfl, ⟨ml_X10_197, mi_X3_namedAt, mz_X3_namedAt, mk_X3, mc_X3_namedAt⟩, by decide, rfl, by decide +kernel, by decide +kernel, by decide +kernel⟩
theorem vo_X10_203 : vc_ok RX10 203 yX0_keep cX0_keep 6 none 0 4 := ⟨RX0, TX0, 5, rfl, ⟨ml_X10_203, mi_X0_keep, mz_X0_keep, mk_X0, mc_X0_keep⟩, by decide, rfl, by decide +kernel, by decide +kernel, by decide +kernel⟩
theorem vo_X10_207 : vc_ok RX10 207 yX3_goBy cX3_goBy 3 none 3 0 := ⟨RX3, TX3, 6, rfl, ⟨ml_X10_207, mi_X3_goBy, mz_X3_goBy, mk_X3, mc_X3_goBy⟩, by decide, rfl, by decide +kernel, by decide +kernel, by decide +kernel⟩
theorem vo_X10_210 : vc_ok RX10 210 yX3_isFullFor cX3_isFullFor 3 (some .boolean) 3 2 := ⟨RX3, TX3, 6, rfl, ⟨ml_X10_210, mi_X3_isFullFor, mz_X3_isFullFor, mk_X3, mc_X3_isFullFor⟩, by decide, rfl, by decide +kernel, by decide +kernel, by decide +kernel⟩
theorem vo_X10_214 : vc_ok RX10 214 yX3_place cX3_place 4 none 3 2 := ⟨RX3, TX3, 6, rfl, ⟨ml_X10_214, mi_X3_place, mz_X3_place, mk_X3, mc_X3_place⟩, by decide, rfl, by decide +kernel, by decide +kernel, by decide +kernel⟩
theorem vo_X10_218 : vc_ok RX10 218 yX10_needBeat cX10_needBeat 2 none 10 1 := ⟨RX10, TX10, 15, rfl, ⟨ml_X10_218, mi_X10_needBeat, mz_X10_needBeat, mk_X10, mc_X10_needBeat⟩, by decide, rfl, by decide +kernel, by decide +kernel, by decide +kernel⟩
theorem vo_X10_221 : vc_ok RX10 221 yX3_turnHeel cX3_turnHeel 3 none 3 2 := ⟨RX3, TX3, 6, rfl, ⟨ml_X10_221, mi_X3_turnHeel, mz_X3_turnHeel, mk_X3, mc_X3_turnHeel⟩, by decide, rfl, by decide +kernel, by decide +kernel, by decide +kernel⟩
theorem vo_X10_224 : vc_ok RX10 224 yX2_set cX2_set 3 none 2 2 := ⟨RX2, TX2, 1, rfl, ⟨ml_X10_224, mi_X2_set, mz_X2_set, mk_X2, mc_X2_set⟩, by decide, rfl, by decide +kernel, by decide +kernel, by decide +kernel⟩
theorem vo_X10_227 : vc_ok RX10 227 yX3_exchange cX3_exchange 4 none 3 2 := ⟨RX3, TX3, 6, rfl, ⟨ml_X10_227, mi_X3_exchange, mz_X3_exchange, mk_X3, mc_X3_exchange⟩, by decide, rfl, by decide +kernel, by decide +kernel, by decide +kernel⟩
theorem vo_X10_230 : vc_ok RX10 230 yX0_takeBack cX0_takeBack 4 (some .int) 0 1 := ⟨RX0, TX0, 5, rfl, ⟨ml_X10_230, mi_X0_takeBack, mz_X0_takeBack, mk_X0, mc_X0_takeBack⟩, by decide, rfl, by decide +kernel, by decide +kernel, by decide +kernel⟩
theorem vo_X10_234 : sc_ok RX10 234 yX10_needWhat cX10_needWhat 2 none 2 := ⟨⟨ml_X10_234, ms_X10_needWhat, mk_X10, mc_X10_needWhat⟩, by decide, by decide +kernel, by decide +kernel, by decide +kernel⟩
theorem vo_X10_237 : sc_ok RX10 237 yX10_needWithin cX10_needWithin 3 none 3 := ⟨⟨ml_X10_237, ms_X10_needWithin, mk_X10, mc_X10_needWithin⟩, by decide, by decide +kernel, by decide +kernel, by decide +kernel⟩
theorem vo_X10_241 : vc_ok RX10 241 yX3_honourAfter cX3_honourAfter 5 (some .int) 3 2 := ⟨RX3, TX3, 6, rfl, ⟨ml_X10_241, mi_X3_honourAfter, mz_X3_honourAfter, mk_X3, mc_X3_honourAfter⟩, by decide, rfl, by decide +kernel, by decide +kernel, by decide +kernel⟩
theorem vo_X10_244 : vc_ok RX10 244 yX3_timesNamed cX3_timesNamed 6 (some .int) 3 3 := ⟨RX3, TX3, 6, rfl, ⟨ml_X10_244, mi_X3_timesNamed, mz_X3_timesNamed, mk_X3, mc_X3_timesNamed⟩, by decide, rfl, by decide +kernel, by decide +kernel, by decide +kernel⟩
theorem vo_X10_247 : vc_ok RX10 247 yX3_menAt cX3_menAt 3 (some .int) 3 2 := ⟨RX3, TX3, 6, rfl, ⟨ml_X10_247, mi_X3_menAt, mz_X3_menAt, mk_X3, mc_X3_menAt⟩, by decide, rfl, by decide +kernel, by decide +kernel, by decide +kernel⟩
theorem vo_X10_250 : sc_ok RX10 250 yX10_holds cX10_holds 2 (some .boolean) 2 := ⟨⟨ml_X10_250, ms_X10_holds, mk_X10, mc_X10_holds⟩, by decide, by decide +kernel, by decide +kernel, by decide +kernel⟩
theorem vo_X10_253 : vc_ok RX10 253 yX1_allMen cX1_allMen 1 (some .int) 1 0 := ⟨RX1, TX1, 7, rfl, ⟨ml_X10_253, mi_X1_allMen, mz_X1_allMen, mk_X1, mc_X1_allMen⟩, by decide, rfl, by decide +kernel, by decide +kernel, by decide +kernel⟩
theorem vo_X10_256 : vc_ok RX10 256 yX3_namedBits cX3_namedBits 6 (some .int) 3 1 := ⟨RX3, TX3, 6, rfl, ⟨ml_X10_256, mi_X3_namedBits, mz_X3_namedBits, mk_X3, mc_X3_namedBits⟩, by decide, rfl, by decide +kernel, by decide +kernel, by decide +kernel⟩
theorem vo_X10_259 : vc_ok RX10 259 yX3_farFrom cX3_farFrom 3 (some .int) 3 2 := ⟨RX3, TX3, 6, rfl, ⟨ml_X10_259, mi_X3_farFrom, mz_X3_farFrom, mk_X3, mc_X3_farFrom⟩, by decide, rfl, by decide +kernel, by decide +kernel, by decide +kernel⟩
theorem vo_X10_262 : sc_ok RX10 262 yJ6_bitCount_0f7a4 cJ6_bitCount_0f7a4 1 (some .int) 1 := ⟨⟨ml_X10_262, ms_J6_bitCount_0f7a4, mk_J6, mc_J6_bitCount_0f7a4⟩, by decide, by decide +kernel, by decide +kernel, by decide +kernel⟩
theorem vo_X10_267 : vc_ok RX10 267 yX3_isToldApart cX3_isToldApart 5 (some .boolean) 3 2 := ⟨RX3, TX3, 6, rfl, ⟨ml_X10_267, mi_X3_isToldApart, mz_X3_isToldApart, mk_X3, mc_X3_isToldApart⟩, by decide, rfl, by decide +kernel, by decide +kernel, by decide +kernel⟩
theorem vo_X10_270 : vc_ok RX10 270 yX3_leastFar cX3_leastFar 4 (some .int) 3 1 := ⟨RX3, TX3, 6, rfl, ⟨ml_X10_270, mi_X3_leastFar, mz_X3_leastFar, mk_X3, mc_X3_leastFar⟩, by decide, rfl, by decide +kernel, by decide +kernel, by decide +kernel⟩
theorem vo_X10_273 : vc_ok RX10 273 yX1_allBeats cX1_allBeats 1 (some .int) 1 0 := ⟨RX1, TX1, 7, rfl, ⟨ml_X10_273, mi_X1_allBeats, mz_X1_allBeats, mk_X1, mc_X1_allBeats⟩, by decide, rfl, by decide +kernel, by decide +kernel, by decide +kernel⟩
theorem vo_X10_276 : vc_ok RX10 276 yX10_namedWith cX10_namedWith 3 (some .int) 10 2 := ⟨RX10, TX10, 15, rfl, ⟨ml_X10_276, mi_X10_namedWith, mz_X10_namedWith, mk_X10, mc_X10_namedWith⟩, by decide, rfl, by decide +kernel, by decide +kernel, by decide +kernel⟩
theorem vo_X10_279 : vc_ok RX10 279 yX4_seek cX4_seek 2 none 4 1 := ⟨RX4, TX4, 4, rfl, ⟨ml_X10_279, mi_X4_seek, mz_X4_seek, mk_X4, mc_X4_seek⟩, by decide, rfl, by decide +kernel, by decide +kernel, by decide +kernel⟩
theorem vo_X10_288 : vc_ok RX10 288 yX7_keep cX7_keep 5 (some .int) 7 4 := ⟨RX7, TX7, 5, rfl, ⟨ml_X10_288, mi_X7_keep, mz_X7_keep, mk_X7, mc_X7_keep⟩, by decide, rfl, by decide +kernel, by decide +kernel, by decide +kernel⟩
theorem vo_X10_291 : vc_ok RX10 291 yX7_allHold cX7_allHold 4 (some .boolean) 7 1 := ⟨RX7, TX7, 5, rfl, ⟨ml_X10_291, mi_X7_allHold, mz_X7_allHold, mk_X7, mc_X7_allHold⟩, by decide, rfl, by decide +kernel, by decide +kernel, by decide +kernel⟩
theorem vo_X10_295 : vc_ok RX10 295 yX9_gather cX9_gather 5 none 9 2 := ⟨RX9, TX9, 4, rfl, ⟨ml_X10_295, mi_X9_gather, mz_X9_gather, mk_X9, mc_X9_gather⟩, by decide, rfl, by decide +kernel, by decide +kernel, by decide +kernel⟩
theorem vo_X10_304 : vc_ok RX10 304 yX9_unlikeSounds cX9_unlikeSounds 6 (some .int) 9 2 := ⟨RX9, TX9, 4, rfl, ⟨ml_X10_304, mi_X9_unlikeSounds, mz_X9_unlikeSounds, mk_X9, mc_X9_unlikeSounds⟩, by decide, rfl, by decide +kernel, by decide +kernel, by decide +kernel⟩
theorem vo_X10_310 : vc_ok RX10 310 yX10_stamp cX10_stamp 6 none 10 3 := ⟨RX10, TX10, 15, rfl, ⟨ml_X10_310, mi_X10_stamp, mz_X10_stamp, mk_X10, mc_X10_stamp⟩, by decide, rfl, by decide +kernel, by decide +kernel, by decide +kernel⟩
theorem vo_X10_313 : vc_ok RX10 313 yX10_doesRest cX10_doesRest 2 (some .boolean) 10 1 := ⟨RX10, TX10, 15, rfl, ⟨ml_X10_313, mi_X10_doesRest, mz_X10_doesRest, mk_X10, mc_X10_doesRest⟩, by decide, rfl, by decide +kernel, by decide +kernel, by decide +kernel⟩
theorem vo_X10_317 : vc_ok RX10 317 yX10_drawOfMan cX10_drawOfMan 5 (some .int) 10 1 := ⟨RX10, TX10, 15, rfl, ⟨ml_X10_317, mi_X10_drawOfMan, mz_X10_drawOfMan, mk_X10, mc_X10_drawOfMan⟩, by decide, rfl, by decide +kernel, by decide +kernel, by decide +kernel⟩
theorem vo_X10_320 : sc_ok RX10 320 yX10_stirred cX10_stirred 1 (some .int) 1 := ⟨⟨ml_X10_320, ms_X10_stirred, mk_X10, mc_X10_stirred⟩, by decide, by decide +kernel, by decide +kernel, by decide +kernel⟩
theorem vo_X10_323 : sc_ok RX10 323 yX10_draw cX10_draw 2 (some .int) 2 := ⟨⟨ml_X10_323, ms_X10_draw, mk_X10, mc_X10_draw⟩, by decide, by decide +kernel, by decide +kernel, by decide +kernel⟩
theorem vo_X10_326 : vc_ok RX10 326 yX3_parade cX3_parade 6 (some .int) 3 2 := ⟨RX3, TX3, 6, rfl, ⟨ml_X10_326, mi_X3_parade, mz_X3_parade, mk_X3, mc_X3_parade⟩, by decide, rfl, by decide +kernel, by decide +kernel, by decide +kernel⟩
theorem vo_X10_329 : vc_ok RX10 329 yX3_mostHonoured cX3_mostHonoured 4 (some .int) 3 0 := ⟨RX3, TX3, 6, rfl, ⟨ml_X10_329, mi_X3_mostHonoured, mz_X3_mostHonoured, mk_X3, mc_X3_mostHonoured⟩, by decide, rfl, by decide +kernel, by decide +kernel, by decide +kernel⟩
theorem vo_X10_332 : vc_ok RX10 332 yX3_namedBy cX3_namedBy 6 (some .int) 3 1 := ⟨RX3, TX3, 6, rfl, ⟨ml_X10_332, mi_X3_namedBy, mz_X3_namedBy, mk_X3, mc_X3_namedBy⟩, by decide, rfl, by decide +kernel, by decide +kernel, by decide +kernel⟩
theorem vo_X10_335 : vc_ok RX10 335 yX3_treadsTogether cX3_treadsTogether 4 (some .int) 3 1 := ⟨RX3, TX3, 6, rfl, ⟨ml_X10_335, mi_X3_treadsTogether, mz_X3_treadsTogether, mk_X3, mc_X3_treadsTogether⟩, by decide, rfl, by decide +kernel, by decide +kernel, by decide +kernel⟩
theorem vo_X10_338 : vc_ok RX10 338 yX3_reachedFrom cX3_reachedFrom 6 (some .int) 3 2 := ⟨RX3, TX3, 6, rfl, ⟨ml_X10_338, mi_X3_reachedFrom, mz_X3_reachedFrom, mk_X3, mc_X3_reachedFrom⟩, by decide, rfl, by decide +kernel, by decide +kernel, by decide +kernel⟩
theorem vo_X10_341 : vc_ok RX10 341 yX3_rightRows cX3_rightRows 6 (some .int) 3 1 := ⟨RX3, TX3, 6, rfl, ⟨ml_X10_341, mi_X3_rightRows, mz_X3_rightRows, mk_X3, mc_X3_rightRows⟩, by decide, rfl, by decide +kernel, by decide +kernel, by decide +kernel⟩
theorem vo_X10_344 : vc_ok RX10 344 yX10_listenTo cX10_listenTo 10 none 10 2 := ⟨RX10, TX10, 15, rfl, ⟨ml_X10_344, mi_X10_listenTo, mz_X10_listenTo, mk_X10, mc_X10_listenTo⟩, by decide, rfl, by decide +kernel, by decide +kernel, by decide +kernel⟩
theorem vo_X10_347 : vc_ok RX10 347 yX10_isNamedWith cX10_isNamedWith 6 (some .boolean) 10 2 := ⟨RX10, TX10, 15, rfl, ⟨ml_X10_347, mi_X10_isNamedWith, mz_X10_isNamedWith, mk_X10, mc_X10_isNamedWith⟩, by decide, rfl, by decide +kernel, by decide +kernel, by decide +kernel⟩
theorem vo_X10_350 : vc_ok RX10 350 yX3_loudTogether cX3_loudTogether 4 (some .int) 3 1 := ⟨RX3, TX3, 6, rfl, ⟨ml_X10_350, mi_X3_loudTogether, mz_X3_loudTogether, mk_X3, mc_X3_loudTogether⟩, by decide, rfl, by decide +kernel, by decide +kernel, by decide +kernel⟩
theorem vo_X10_353 : sc_ok RX10 353 yJ9_max_7cf53 cJ9_max_7cf53 2 (some .int) 2 := ⟨⟨ml_X10_353, ms_J9_max_7cf53, mk_J9, mc_J9_max_7cf53⟩, by decide, by decide +kernel, by decide +kernel, by decide +kernel⟩
theorem vo_X10_358 : vc_ok RX10 358 yX3_menWithBeat cX3_menWithBeat 4 (some .int) 3 1 := ⟨RX3, TX3, 6, rfl, ⟨ml_X10_358, mi_X3_menWithBeat, mz_X3_menWithBeat, mk_X3, mc_X3_menWithBeat⟩, by decide, rfl, by decide +kernel, by decide +kernel, by decide +kernel⟩
theorem vo_X10_361 : vc_ok RX10 361 yX8_copyFrom cX8_copyFrom 2 none 8 1 := ⟨RX8, TX8, 3, rfl, ⟨ml_X10_361, mi_X8_copyFrom, mz_X8_copyFrom, mk_X8, mc_X8_copyFrom⟩, by decide, rfl, by decide +kernel, by decide +kernel, by decide +kernel⟩
theorem vo_X10_374 : vc_ok RX10 374 yX10_gainOf cX10_gainOf 11 (some .int) 10 2 := ⟨RX10, TX10, 15, rfl, ⟨ml_X10_374, mi_X10_gainOf, mz_X10_gainOf, mk_X10, mc_X10_gainOf⟩, by decide, rfl, by decide +kernel, by decide +kernel, by decide +kernel⟩
theorem vo_X10_377 : sc_ok RX10 377 yJ9_min_7cf53 cJ9_min_7cf53 2 (some .int) 2 := ⟨⟨ml_X10_377, ms_J9_min_7cf53, mk_J9, mc_J9_min_7cf53⟩, by decide, by decide +kernel, by decide +kernel, by decide +kernel⟩
theorem vo_X10_381 : vc_ok RX10 381 yX3_besideAt cX3_besideAt 3 (some .int) 3 2 := ⟨RX3, TX3, 6, rfl, ⟨ml_X10_381, mi_X3_besideAt, mz_X3_besideAt, mk_X3, mc_X3_besideAt⟩, by decide, rfl, by decide +kernel, by decide +kernel, by decide +kernel⟩
theorem vo_X10_384 : vc_ok RX10 384 yX3_hearsBeat cX3_hearsBeat 8 (some .int) 3 5 := ⟨RX3, TX3, 6, rfl, ⟨ml_X10_384, mi_X3_hearsBeat, mz_X3_hearsBeat, mk_X3, mc_X3_hearsBeat⟩, by decide, rfl, by decide +kernel, by decide +kernel, by decide +kernel⟩
theorem vo_X0_33 : vc_ok RX0 33 yX0_dropEarliest cX0_dropEarliest 2 none 0 0 := ⟨RX0, TX0, 5, rfl, ⟨ml_X0_33, mi_X0_dropEarliest, mz_X0_dropEarliest, mk_X0, mc_X0_dropEarliest⟩, by decide, rfl, by decide +kernel, by decide +kernel, by decide +kernel⟩
theorem vo_X0_36 : vc_ok RX0 36 yX2_set cX2_set 3 none 2 2 := ⟨RX2, TX2, 1, rfl, ⟨ml_X0_36, mi_X2_set, mz_X2_set, mk_X2, mc_X2_set⟩, by decide, rfl, by decide +kernel, by decide +kernel, by decide +kernel⟩
theorem vo_X0_43 : vc_ok RX0 43 yX2_at cX2_at 2 (some .int) 2 1 := ⟨RX2, TX2, 1, rfl, ⟨ml_X0_43, mi_X2_at, mz_X2_at, mk_X2, mc_X2_at⟩, by decide, rfl, by decide +kernel, by decide +kernel, by decide +kernel⟩
theorem vo_X0_47 : vc_ok RX0 47 yX0_takeNightsBack cX0_takeNightsBack 4 none 0 2 := ⟨RX0, TX0, 5, rfl, ⟨ml_X0_47, mi_X0_takeNightsBack, mz_X0_takeNightsBack, mk_X0, mc_X0_takeNightsBack⟩, by decide, rfl, by decide +kernel, by decide +kernel, by decide +kernel⟩
theorem vo_X0_51 : vc_ok RX0 51 yX3_place cX3_place 4 none 3 2 := ⟨RX3, TX3, 6, rfl, ⟨ml_X0_51, mi_X3_place, mz_X3_place, mk_X3, mc_X3_place⟩, by decide, rfl, by decide +kernel, by decide +kernel, by decide +kernel⟩
theorem vo_X0_54 : vc_ok RX0 54 yX3_turnHeel cX3_turnHeel 3 none 3 2 := ⟨RX3, TX3, 6, rfl, ⟨ml_X0_54, mi_X3_turnHeel, mz_X3_turnHeel, mk_X3, mc_X3_turnHeel⟩, by decide, rfl, by decide +kernel, by decide +kernel, by decide +kernel⟩
theorem vo_X0_60 : vc_ok RX0 60 yX3_exchange cX3_exchange 4 none 3 2 := ⟨RX3, TX3, 6, rfl, ⟨ml_X0_60, mi_X3_exchange, mz_X3_exchange, mk_X3, mc_X3_exchange⟩, by decide, rfl, by decide +kernel, by decide +kernel, by decide +kernel⟩
theorem vo_X0_63 : vc_ok RX0 63 yX3_goBack cX3_goBack 3 none 3 0 := ⟨RX3, TX3, 6, rfl, ⟨ml_X0_63, mi_X3_goBack, mz_X3_goBack, mk_X3, mc_X3_goBack⟩, by decide, rfl, by decide +kernel, by decide +kernel, by decide +kernel⟩
theorem vo_X0_66 : vc_ok RX0 66 yX2_copyFrom cX2_copyFrom 3 none 2 1 := ⟨RX2, TX2, 1, rfl, ⟨ml_X0_66, mi_X2_copyFrom, mz_X2_copyFrom, mk_X2, mc_X2_copyFrom⟩, by decide, rfl, by decide +kernel, by decide +kernel, by decide +kernel⟩
theorem vo_X1_46 : vc_ok RX1 46 yX2_copyFrom cX2_copyFrom 3 none 2 1 := ⟨RX2, TX2, 1, rfl, ⟨ml_X1_46, mi_X2_copyFrom, mz_X2_copyFrom, mk_X2, mc_X2_copyFrom⟩, by decide, rfl, by decide +kernel, by decide +kernel, by decide +kernel⟩
theorem vo_X1_50 : vc_ok RX1 50 yX6_copyFrom cX6_copyFrom 2 none 6 1 := ⟨RX6, TX6, 4, rfl, ⟨ml_X1_50, mi_X6_copyFrom, mz_X6_copyFrom, mk_X6, mc_X6_copyFrom⟩, by decide, rfl, by decide +kernel, by decide +kernel, by decide +kernel⟩
theorem vo_X1_53 : vc_ok RX1 53 yX2_at cX2_at 2 (some .int) 2 1 := ⟨RX2, TX2, 1, rfl, ⟨ml_X1_53, mi_X2_at, mz_X2_at, mk_X2, mc_X2_at⟩, by decide, rfl, by decide +kernel, by decide +kernel, by decide +kernel⟩
theorem vo_X2_7 : sc_ok RX2 7 yJ9_max_7cf53 cJ9_max_7cf53 2 (some .int) 2 := ⟨⟨ml_X2_7, ms_J9_max_7cf53, mk_J9, mc_J9_max_7cf53⟩, by decide, by decide +kernel, by decide +kernel, by decide +kernel⟩
theorem vo_X3_37 : vc_ok RX3 37 yX2_fill cX2_fill 3 none 2 1 := ⟨RX2, TX2, 1, rfl, ⟨ml_X3_37, mi_X2_fill, mz_X2_fill, mk_X2, mc_X2_fill⟩, by decide, rfl, by decide +kernel, by decide +kernel, by decide +kernel⟩
theorem vo_X3_40 : vc_ok RX3 40 yX2_copyFrom cX2_copyFrom 3 none 2 1 := ⟨RX2, TX2, 1, rfl, ⟨ml_X3_40, mi_X2_copyFrom, mz_X2_copyFrom, mk_X2, mc_X2_copyFrom⟩, by decide, rfl, by decide +kernel, by decide +kernel, by decide +kernel⟩
theorem vo_X3_44 : vc_ok RX3 44 yX1_mudOf cX1_mudOf 2 (some .int) 1 1 := ⟨RX1, TX1, 7, rfl, ⟨ml_X3_44, mi_X1_mudOf, mz_X1_mudOf, mk_X1, mc_X1_mudOf⟩, by decide, rfl, by decide +kernel, by decide +kernel, by decide +kernel⟩
theorem vo_X3_52 : vc_ok RX3 52 yX2_at cX2_at 2 (some .int) 2 1 := ⟨RX2, TX2, 1, rfl, ⟨ml_X3_52, mi_X2_at, mz_X2_at, mk_X2, mc_X2_at⟩, by decide, rfl, by decide +kernel, by decide +kernel, by decide +kernel⟩
theorem vo_X3_55 : vc_ok RX3 55 yX3_menAt cX3_menAt 3 (some .int) 3 2 := ⟨RX3, TX3, 6, rfl, ⟨ml_X3_55, mi_X3_menAt, mz_X3_menAt, mk_X3, mc_X3_menAt⟩, by decide, rfl, by decide +kernel, by decide +kernel, by decide +kernel⟩
theorem vo_X3_59 : vc_ok RX3 59 yX3_besideAt cX3_besideAt 3 (some .int) 3 2 := ⟨RX3, TX3, 6, rfl, ⟨ml_X3_59, mi_X3_besideAt, mz_X3_besideAt, mk_X3, mc_X3_besideAt⟩, by decide, rfl, by decide +kernel, by decide +kernel, by decide +kernel⟩
theorem vo_X3_62 : vc_ok RX3 62 yX3_mudIn cX3_mudIn 2 (some .int) 3 1 := ⟨RX3, TX3, 6, rfl, ⟨ml_X3_62, mi_X3_mudIn, mz_X3_mudIn, mk_X3, mc_X3_mudIn⟩, by decide, rfl, by decide +kernel, by decide +kernel, by decide +kernel⟩
theorem vo_X3_65 : vc_ok RX3 65 yX3_heard cX3_heard 7 (some .int) 3 3 := ⟨RX3, TX3, 6, rfl, ⟨ml_X3_65, mi_X3_heard, mz_X3_heard, mk_X3, mc_X3_heard⟩, by decide, rfl, by decide +kernel, by decide +kernel, by decide +kernel⟩
theorem vo_X3_69 : vc_ok RX3 69 yX3_namedBy cX3_namedBy 6 (some .int) 3 1 := ⟨RX3, TX3, 6, rfl, ⟨ml_X3_69, mi_X3_namedBy, mz_X3_namedBy, mk_X3, mc_X3_namedBy⟩, by decide, rfl, by decide +kernel, by decide +kernel, by decide +kernel⟩
theorem vo_X3_75 : vc_ok RX3 75 yX3_hearsBeat cX3_hearsBeat 8 (some .int) 3 5 := ⟨RX3, TX3, 6, rfl, ⟨ml_X3_75, mi_X3_hearsBeat, mz_X3_hearsBeat, mk_X3, mc_X3_hearsBeat⟩, by decide, rfl, by decide +kernel, by decide +kernel, by decide +kernel⟩
theorem vo_X3_79 : vc_ok RX3 79 yX3_loudAt cX3_loudAt 5 (some .int) 3 2 := ⟨RX3, TX3, 6, rfl, ⟨ml_X3_79, mi_X3_loudAt, mz_X3_loudAt, mk_X3, mc_X3_loudAt⟩, by decide, rfl, by decide +kernel, by decide +kernel, by decide +kernel⟩
theorem vo_X3_91 : vc_ok RX3 91 yX6_give cX6_give 3 none 6 2 := ⟨RX6, TX6, 4, rfl, ⟨ml_X3_91, mi_X6_give, mz_X6_give, mk_X6, mc_X6_give⟩, by decide, rfl, by decide +kernel, by decide +kernel, by decide +kernel⟩
theorem vo_X3_95 : sc_ok RX3 95 yJ6_bitCount_0f7a4 cJ6_bitCount_0f7a4 1 (some .int) 1 := ⟨⟨ml_X3_95, ms_J6_bitCount_0f7a4, mk_J6, mc_J6_bitCount_0f7a4⟩, by decide, by decide +kernel, by decide +kernel, by decide +kernel⟩
theorem vo_X3_100 : vc_ok RX3 100 yX6_answer cX6_answer 4 (some .int) 6 0 := ⟨RX6, TX6, 4, rfl, ⟨ml_X3_100, mi_X6_answer, mz_X6_answer, mk_X6, mc_X6_answer⟩, by decide, rfl, by decide +kernel, by decide +kernel, by decide +kernel⟩
theorem vo_X3_114 : vc_ok RX3 114 yX3_namedAt cX3_namedAt 4 (some .int) 3 3 := ⟨RX3, TX3, 6, rfl, ⟨ml_X3_114, mi_X3_namedAt, mz_X3_namedAt, mk_X3, mc_X3_namedAt⟩, by decide, rfl, by decide +kernel, by decide +kernel, by decide +kernel⟩
theorem vo_X3_117 : sc_ok RX3 117 yJ9_min_7cf53 cJ9_min_7cf53 2 (some .int) 2 := ⟨⟨ml_X3_117, ms_J9_min_7cf53, mk_J9, mc_J9_min_7cf53⟩, by decide, by decide +kernel, by decide +kernel, by decide +kernel⟩
theorem vo_X3_122 : vc_ok RX3 122 yX2_set cX2_set 3 none 2 2 := ⟨RX2, TX2, 1, rfl, ⟨ml_X3_122, mi_X2_set, mz_X2_set, mk_X2, mc_X2_set⟩, by decide, rfl, by decide +kernel, by decide +kernel, by decide +kernel⟩
theorem vo_X3_125 : vc_ok RX3 125 yX3_parade cX3_parade 6 (some .int) 3 2 := ⟨RX3, TX3, 6, rfl, ⟨ml_X3_125, mi_X3_parade, mz_X3_parade, mk_X3, mc_X3_parade⟩, by decide, rfl, by decide +kernel, by decide +kernel, by decide +kernel⟩
theorem vo_X3_128 : vc_ok RX3 128 yX3_timesNamed cX3_timesNamed 6 (some .int) 3 3 := ⟨RX3, TX3, 6, rfl, ⟨ml_X3_128, mi_X3_timesNamed, mz_X3_timesNamed, mk_X3, mc_X3_timesNamed⟩, by decide, rfl, by decide +kernel, by decide +kernel, by decide +kernel⟩
theorem vo_X3_131 : vc_ok RX3 131 yX1_allMen cX1_allMen 1 (some .int) 1 0 := ⟨RX1, TX1, 7, rfl, ⟨ml_X3_131, mi_X1_allMen, mz_X1_allMen, mk_X1, mc_X1_allMen⟩, by decide, rfl, by decide +kernel, by decide +kernel, by decide +kernel⟩
theorem vo_X3_134 : vc_ok RX3 134 yX3_heardAt cX3_heardAt 3 (some .int) 3 2 := ⟨RX3, TX3, 6, rfl, ⟨ml_X3_134, mi_X3_heardAt, mz_X3_heardAt, mk_X3, mc_X3_heardAt⟩, by decide, rfl, by decide +kernel, by decide +kernel, by decide +kernel⟩
theorem vo_X3_137 : vc_ok RX3 137 yX3_farFrom cX3_farFrom 3 (some .int) 3 2 := ⟨RX3, TX3, 6, rfl, ⟨ml_X3_137, mi_X3_farFrom, mz_X3_farFrom, mk_X3, mc_X3_farFrom⟩, by decide, rfl, by decide +kernel, by decide +kernel, by decide +kernel⟩
theorem vo_X4_30 : vc_ok RX4 30 yX2_fill cX2_fill 3 none 2 1 := ⟨RX2, TX2, 1, rfl, ⟨ml_X4_30, mi_X2_fill, mz_X2_fill, mk_X2, mc_X2_fill⟩, by decide, rfl, by decide +kernel, by decide +kernel, by decide +kernel⟩
theorem vo_X4_33 : vc_ok RX4 33 yX4_tryFrom cX4_tryFrom 8 none 4 4 := ⟨RX4, TX4, 4, rfl, ⟨ml_X4_33, mi_X4_tryFrom, mz_X4_tryFrom, mk_X4, mc_X4_tryFrom⟩, by decide, rfl, by decide +kernel, by decide +kernel, by decide +kernel⟩
theorem vo_X4_48 : sc_ok RX4 48 yJ9_min_7cf53 cJ9_min_7cf53 2 (some .int) 2 := ⟨⟨ml_X4_48, ms_J9_min_7cf53, mk_J9, mc_J9_min_7cf53⟩, by decide, by decide +kernel, by decide +kernel, by decide +kernel⟩
theorem vo_X4_54 : vc_ok RX4 54 yX4_rightAt cX4_rightAt 11 (some .int) 4 3 := ⟨RX4, TX4, 4, rfl, ⟨ml_X4_54, mi_X4_rightAt, mz_X4_rightAt, mk_X4, mc_X4_rightAt⟩, by decide, rfl, by decide +kernel, by decide +kernel, by decide +kernel⟩
theorem vo_X4_58 : vc_ok RX4 58 yX4_keepBetter cX4_keepBetter 2 none 4 1 := ⟨RX4, TX4, 4, rfl, ⟨ml_X4_58, mi_X4_keepBetter, mz_X4_keepBetter, mk_X4, mc_X4_keepBetter⟩, by decide, rfl, by decide +kernel, by decide +kernel, by decide +kernel⟩
theorem vo_X4_65 : vc_ok RX4 65 yX2_set cX2_set 3 none 2 2 := ⟨RX2, TX2, 1, rfl, ⟨ml_X4_65, mi_X2_set, mz_X2_set, mk_X2, mc_X2_set⟩, by decide, rfl, by decide +kernel, by decide +kernel, by decide +kernel⟩
theorem vo_X4_69 : vc_ok RX4 69 yX2_copyFrom cX2_copyFrom 3 none 2 1 := ⟨RX2, TX2, 1, rfl, ⟨ml_X4_69, mi_X2_copyFrom, mz_X2_copyFrom, mk_X2, mc_X2_copyFrom⟩, by decide, rfl, by decide +kernel, by decide +kernel, by decide +kernel⟩
theorem vo_X4_73 : vc_ok RX4 73 yX2_at cX2_at 2 (some .int) 2 1 := ⟨RX2, TX2, 1, rfl, ⟨ml_X4_73, mi_X2_at, mz_X2_at, mk_X2, mc_X2_at⟩, by decide, rfl, by decide +kernel, by decide +kernel, by decide +kernel⟩
theorem vo_X4_79 : vc_ok RX4 79 yX3_mudIn cX3_mudIn 2 (some .int) 3 1 := ⟨RX3, TX3, 6, rfl, ⟨ml_X4_79, mi_X3_mudIn, mz_X3_mudIn, mk_X3, mc_X3_mudIn⟩, by decide, rfl, by decide +kernel, by decide +kernel, by decide +kernel⟩
theorem vo_X4_82 : vc_ok RX4 82 yX3_heard cX3_heard 7 (some .int) 3 3 := ⟨RX3, TX3, 6, rfl, ⟨ml_X4_82, mi_X3_heard, mz_X3_heard, mk_X3, mc_X3_heard⟩, by decide, rfl, by decide +kernel, by decide +kernel, by decide +kernel⟩
theorem vo_X4_86 : vc_ok RX4 86 yX3_namedBy cX3_namedBy 6 (some .int) 3 1 := ⟨RX3, TX3, 6, rfl, ⟨ml_X4_86, mi_X3_namedBy, mz_X3_namedBy, mk_X3, mc_X3_namedBy⟩, by decide, rfl, by decide +kernel, by decide +kernel, by decide +kernel⟩
theorem vo_X5_59 : vc_ok RX5 59 yX1_clear cX1_clear 1 none 1 0 := ⟨RX1, TX1, 7, rfl, ⟨ml_X5_59, mi_X1_clear, mz_X1_clear, mk_X1, mc_X1_clear⟩, by decide, rfl, by decide +kernel, by decide +kernel, by decide +kernel⟩
theorem vo_X5_62 : vc_ok RX5 62 yX3_clear cX3_clear 1 none 3 0 := ⟨RX3, TX3, 6, rfl, ⟨ml_X5_62, mi_X3_clear, mz_X3_clear, mk_X3, mc_X3_clear⟩, by decide, rfl, by decide +kernel, by decide +kernel, by decide +kernel⟩
theorem vo_X5_63 : vc_ok RX5 63 yX5_advance cX5_advance 2 none 5 0 := ⟨RX5, TX5, 12, rfl, ⟨ml_X5_63, mi_X5_advance, mz_X5_advance, mk_X5, mc_X5_advance⟩, by decide, rfl, by decide +kernel, by decide +kernel, by decide +kernel⟩
theorem vo_X5_66 : vc_ok RX5 66 yX5_readLine cX5_readLine 1 none 5 0 := ⟨RX5, TX5, 12, rfl, ⟨ml_X5_66, mi_X5_readLine, mz_X5_readLine, mk_X5, mc_X5_readLine⟩, by decide, rfl, by decide +kernel, by decide +kernel, by decide +kernel⟩
theorem vo_X5_75 : vc_ok RX5 75 yX2_at cX2_at 2 (some .int) 2 1 := ⟨RX2, TX2, 1, rfl, ⟨ml_X5_75, mi_X2_at, mz_X2_at, mk_X2, mc_X2_at⟩, by decide, rfl, by decide +kernel, by decide +kernel, by decide +kernel⟩
theorem vo_X5_81 : vc_ok RX5 81 yX1_allBeats cX1_allBeats 1 (some .int) 1 0 := ⟨RX1, TX1, 7, rfl, ⟨ml_X5_81, mi_X1_allBeats, mz_X1_allBeats, mk_X1, mc_X1_allBeats⟩, by decide, rfl, by decide +kernel, by decide +kernel, by decide +kernel⟩
theorem vo_X5_85 : vc_ok RX5 85 yX2_set cX2_set 3 none 2 2 := ⟨RX2, TX2, 1, rfl, ⟨ml_X5_85, mi_X2_set, mz_X2_set, mk_X2, mc_X2_set⟩, by decide, rfl, by decide +kernel, by decide +kernel, by decide +kernel⟩
theorem vo_X5_91 : vc_ok RX5 91 yX5_isWord cX5_isWord 3 (some .boolean) 5 1 := ⟨RX5, TX5, 12, rfl, ⟨ml_X5_91, mi_X5_isWord, mz_X5_isWord, mk_X5, mc_X5_isWord⟩, by decide, rfl, by decide +kernel, by decide +kernel, by decide +kernel⟩
theorem vo_X5_95 : vc_ok RX5 95 yX5_readMan cX5_readMan 1 none 5 0 := ⟨RX5, TX5, 12, rfl, ⟨ml_X5_95, mi_X5_readMan, mz_X5_readMan, mk_X5, mc_X5_readMan⟩, by decide, rfl, by decide +kernel, by decide +kernel, by decide +kernel⟩
theorem vo_X5_100 : vc_ok RX5 100 yX5_readRow cX5_readRow 3 none 5 0 := ⟨RX5, TX5, 12, rfl, ⟨ml_X5_100, mi_X5_readRow, mz_X5_readRow, mk_X5, mc_X5_readRow⟩, by decide, rfl, by decide +kernel, by decide +kernel, by decide +kernel⟩
theorem vo_X5_105 : vc_ok RX5 105 yX5_passOnce cX5_passOnce 2 none 5 1 := ⟨RX5, TX5, 12, rfl, ⟨ml_X5_105, mi_X5_passOnce, mz_X5_passOnce, mk_X5, mc_X5_passOnce⟩, by decide, rfl, by decide +kernel, by decide +kernel, by decide +kernel⟩
theorem vo_X5_109 : vc_ok RX5 109 yX5_take cX5_take 4 (some .int) 5 2 := ⟨RX5, TX5, 12, rfl, ⟨ml_X5_109, mi_X5_take, mz_X5_take, mk_X5, mc_X5_take⟩, by decide, rfl, by decide +kernel, by decide +kernel, by decide +kernel⟩
theorem vo_X5_121 : vc_ok RX5 121 yX5_readMuds cX5_readMuds 2 none 5 0 := ⟨RX5, TX5, 12, rfl, ⟨ml_X5_121, mi_X5_readMuds, mz_X5_readMuds, mk_X5, mc_X5_readMuds⟩, by decide, rfl, by decide +kernel, by decide +kernel, by decide +kernel⟩
theorem vo_X5_126 : vc_ok RX5 126 yX5_readExpr cX5_readExpr 3 none 5 1 := ⟨RX5, TX5, 12, rfl, ⟨ml_X5_126, mi_X5_readExpr, mz_X5_readExpr, mk_X5, mc_X5_readExpr⟩, by decide, rfl, by decide +kernel, by decide +kernel, by decide +kernel⟩
theorem vo_X5_129 : vc_ok RX5 129 yX5_fail cX5_fail 2 none 5 1 := ⟨RX5, TX5, 12, rfl, ⟨ml_X5_129, mi_X5_fail, mz_X5_fail, mk_X5, mc_X5_fail⟩, by decide, rfl, by decide +kernel, by decide +kernel, by decide +kernel⟩
theorem vo_X5_132 : vc_ok RX5 132 yX5_pass cX5_pass 2 none 5 1 := ⟨RX5, TX5, 12, rfl, ⟨ml_X5_132, mi_X5_pass, mz_X5_pass, mk_X5, mc_X5_pass⟩, by decide, rfl, by decide +kernel, by decide +kernel, by decide +kernel⟩
theorem vo_X5_141 : vc_ok RX5 141 yX5_isNumberNext cX5_isNumberNext 2 (some .boolean) 5 1 := ⟨RX5, TX5, 12, rfl, ⟨ml_X5_141, mi_X5_isNumberNext, mz_X5_isNumberNext, mk_X5, mc_X5_isNumberNext⟩, by decide, rfl, by decide +kernel, by decide +kernel, by decide +kernel⟩
theorem vo_X5_145 : vc_ok RX5 145 yX5_takeMan cX5_takeMan 3 (some .int) 5 1 := ⟨RX5, TX5, 12, rfl, ⟨ml_X5_145, mi_X5_takeMan, mz_X5_takeMan, mk_X5, mc_X5_takeMan⟩, by decide, rfl, by decide +kernel, by decide +kernel, by decide +kernel⟩
theorem vo_X5_150 : vc_ok RX5 150 yX5_peek cX5_peek 3 (some .int) 5 2 := ⟨RX5, TX5, 12, rfl, ⟨ml_X5_150, mi_X5_peek, mz_X5_peek, mk_X5, mc_X5_peek⟩, by decide, rfl, by decide +kernel, by decide +kernel, by decide +kernel⟩
theorem vo_X5_162 : vc_ok RX5 162 yX5_isSign cX5_isSign 2 (some .boolean) 5 1 := ⟨RX5, TX5, 12, rfl, ⟨ml_X5_162, mi_X5_isSign, mz_X5_isSign, mk_X5, mc_X5_isSign⟩, by decide, rfl, by decide +kernel, by decide +kernel, by decide +kernel⟩
theorem vo_X5_165 : vc_ok RX5 165 yX5_readAnd cX5_readAnd 3 none 5 1 := ⟨RX5, TX5, 12, rfl, ⟨ml_X5_165, mi_X5_readAnd, mz_X5_readAnd, mk_X5, mc_X5_readAnd⟩, by decide, rfl, by decide +kernel, by decide +kernel, by decide +kernel⟩
theorem vo_X5_176 : vc_ok RX5 176 yX6_add cX6_add 2 none 6 1 := ⟨RX6, TX6, 4, rfl, ⟨ml_X5_176, mi_X6_add, mz_X6_add, mk_X6, mc_X6_add⟩, by decide, rfl, by decide +kernel, by decide +kernel, by decide +kernel⟩
theorem vo_X5_179 : vc_ok RX5 179 yX5_readNot cX5_readNot 4 none 5 1 := ⟨RX5, TX5, 12, rfl, ⟨ml_X5_179, mi_X5_readNot, mz_X5_readNot, mk_X5, mc_X5_readNot⟩, by decide, rfl, by decide +kernel, by decide +kernel, by decide +kernel⟩
theorem vo_X5_186 : vc_ok RX5 186 yX5_readTest cX5_readTest 3 none 5 1 := ⟨RX5, TX5, 12, rfl, ⟨ml_X5_186, mi_X5_readTest, mz_X5_readTest, mk_X5, mc_X5_readTest⟩, by decide, rfl, by decide +kernel, by decide +kernel, by decide +kernel⟩
theorem vo_X5_189 : vc_ok RX5 189 yX5_readSum cX5_readSum 4 none 5 1 := ⟨RX5, TX5, 12, rfl, ⟨ml_X5_189, mi_X5_readSum, mz_X5_readSum, mk_X5, mc_X5_readSum⟩, by decide, rfl, by decide +kernel, by decide +kernel, by decide +kernel⟩
theorem vo_X5_192 : vc_ok RX5 192 yX5_readProduct cX5_readProduct 4 none 5 1 := ⟨RX5, TX5, 12, rfl, ⟨ml_X5_192, mi_X5_readProduct, mz_X5_readProduct, mk_X5, mc_X5_readProduct⟩, by decide, rfl, by decide +kernel, by decide +kernel, by decide +kernel⟩
theorem vo_X5_195 : vc_ok RX5 195 yX5_readPart cX5_readPart 2 none 5 1 := ⟨RX5, TX5, 12, rfl, ⟨ml_X5_195, mi_X5_readPart, mz_X5_readPart, mk_X5, mc_X5_readPart⟩, by decide, rfl, by decide +kernel, by decide +kernel, by decide +kernel⟩
theorem vo_X5_198 : vc_ok RX5 198 yX5_readValue cX5_readValue 2 none 5 0 := ⟨RX5, TX5, 12, rfl, ⟨ml_X5_198, mi_X5_readValue, mz_X5_readValue, mk_X5, mc_X5_readValue⟩, by decide, rfl, by decide +kernel, by decide +kernel, by decide +kernel⟩
theorem vo_X5_201 : vc_ok RX5 201 yX5_valueHere cX5_valueHere 1 (some .int) 5 0 := ⟨RX5, TX5, 12, rfl, ⟨ml_X5_201, mi_X5_valueHere, mz_X5_valueHere, mk_X5, mc_X5_valueHere⟩, by decide, rfl, by decide +kernel, by decide +kernel, by decide +kernel⟩
theorem vo_X5_214 : tc_ok RX5 214 yJ0_length_8abf5 cJ0_length_8abf5 1 (some .int) 0 := ⟨⟨ml_X5_214, mi_J0_length_8abf5, mz_J0_length_8abf5, mk_J0, mc_J0_length_8abf5⟩, by decide, rfl, by decide +kernel, by decide +kernel, by decide +kernel⟩
theorem vo_X5_218 : tc_ok RX5 218 yJ0_charAt_5068e cJ0_charAt_5068e 2 (some .char) 1 := ⟨⟨ml_X5_218, mi_J0_charAt_5068e, mz_J0_charAt_5068e, mk_J0, mc_J0_charAt_5068e⟩, by decide, rfl, by decide +kernel, by decide +kernel, by decide +kernel⟩
theorem vo_X5_222 : sc_ok RX5 222 yX5_isBlank cX5_isBlank 1 (some .boolean) 1 := ⟨⟨ml_X5_222, ms_X5_isBlank, mk_X5, mc_X5_isBlank⟩, by decide, by decide +kernel, by decide +kernel, by decide +kernel⟩
theorem vo_X5_225 : sc_ok RX5 225 yX5_isDigit cX5_isDigit 1 (some .boolean) 1 := ⟨⟨ml_X5_225, ms_X5_isDigit, mk_X5, mc_X5_isDigit⟩, by decide, by decide +kernel, by decide +kernel, by decide +kernel⟩
theorem vo_X5_228 : sc_ok RX5 228 yJ9_min_7cf53 cJ9_min_7cf53 2 (some .int) 2 := ⟨⟨ml_X5_228, ms_J9_min_7cf53, mk_J9, mc_J9_min_7cf53⟩, by decide, by decide +kernel, by decide +kernel, by decide +kernel⟩
theorem vo_X5_233 : sc_ok RX5 233 yX5_isLetter cX5_isLetter 1 (some .boolean) 1 := ⟨⟨ml_X5_233, ms_X5_isLetter, mk_X5, mc_X5_isLetter⟩, by decide, by decide +kernel, by decide +kernel, by decide +kernel⟩
theorem vo_X5_238 : tc_ok RX5 238 yJ0_indexOf_0f7a4 cJ0_indexOf_0f7a4 2 (some .int) 1 := ⟨⟨ml_X5_238, mi_J0_indexOf_0f7a4, mz_J0_indexOf_0f7a4, mk_J0, mc_J0_indexOf_0f7a4⟩, by decide, rfl, by decide +kernel, by decide +kernel, by decide +kernel⟩
theorem vo_X6_30 : vc_ok RX6 30 yX2_set cX2_set 3 none 2 2 := ⟨RX2, TX2, 1, rfl, ⟨ml_X6_30, mi_X2_set, mz_X2_set, mk_X2, mc_X2_set⟩, by decide, rfl, by decide +kernel, by decide +kernel, by decide +kernel⟩
theorem vo_X6_34 : vc_ok RX6 34 yX2_at cX2_at 2 (some .int) 2 1 := ⟨RX2, TX2, 1, rfl, ⟨ml_X6_34, mi_X2_at, mz_X2_at, mk_X2, mc_X2_at⟩, by decide, rfl, by decide +kernel, by decide +kernel, by decide +kernel⟩
theorem vo_X6_38 : sc_ok RX6 38 yX6_joined cX6_joined 3 (some .int) 3 := ⟨⟨ml_X6_38, ms_X6_joined, mk_X6, mc_X6_joined⟩, by decide, by decide +kernel, by decide +kernel, by decide +kernel⟩
theorem vo_X6_42 : vc_ok RX6 42 yX2_copyFrom cX2_copyFrom 3 none 2 1 := ⟨RX2, TX2, 1, rfl, ⟨ml_X6_42, mi_X2_copyFrom, mz_X2_copyFrom, mk_X2, mc_X2_copyFrom⟩, by decide, rfl, by decide +kernel, by decide +kernel, by decide +kernel⟩
theorem vo_X7_33 : vc_ok RX7 33 yX2_set cX2_set 3 none 2 2 := ⟨RX2, TX2, 1, rfl, ⟨ml_X7_33, mi_X2_set, mz_X2_set, mk_X2, mc_X2_set⟩, by decide, rfl, by decide +kernel, by decide +kernel, by decide +kernel⟩
theorem vo_X7_37 : vc_ok RX7 37 yX2_at cX2_at 2 (some .int) 2 1 := ⟨RX2, TX2, 1, rfl, ⟨ml_X7_37, mi_X2_at, mz_X2_at, mk_X2, mc_X2_at⟩, by decide, rfl, by decide +kernel, by decide +kernel, by decide +kernel⟩
theorem vo_X7_41 : vc_ok RX7 41 yX3_heardAt cX3_heardAt 3 (some .int) 3 2 := ⟨RX3, TX3, 6, rfl, ⟨ml_X7_41, mi_X3_heardAt, mz_X3_heardAt, mk_X3, mc_X3_heardAt⟩, by decide, rfl, by decide +kernel, by decide +kernel, by decide +kernel⟩
theorem vo_X7_47 : vc_ok RX7 47 yX2_copyFrom cX2_copyFrom 3 none 2 1 := ⟨RX2, TX2, 1, rfl, ⟨ml_X7_47, mi_X2_copyFrom, mz_X2_copyFrom, mk_X2, mc_X2_copyFrom⟩, by decide, rfl, by decide +kernel, by decide +kernel, by decide +kernel⟩
theorem vo_X8_32 : vc_ok RX8 32 yX3_copyFrom cX3_copyFrom 2 none 3 1 := ⟨RX3, TX3, 6, rfl, ⟨ml_X8_32, mi_X3_copyFrom, mz_X3_copyFrom, mk_X3, mc_X3_copyFrom⟩, by decide, rfl, by decide +kernel, by decide +kernel, by decide +kernel⟩
theorem vo_X8_36 : vc_ok RX8 36 yX0_copyFrom cX0_copyFrom 2 none 0 1 := ⟨RX0, TX0, 5, rfl, ⟨ml_X8_36, mi_X0_copyFrom, mz_X0_copyFrom, mk_X0, mc_X0_copyFrom⟩, by decide, rfl, by decide +kernel, by decide +kernel, by decide +kernel⟩
theorem vo_X8_39 : vc_ok RX8 39 yX7_copyFrom cX7_copyFrom 2 none 7 1 := ⟨RX7, TX7, 5, rfl, ⟨ml_X8_39, mi_X7_copyFrom, mz_X7_copyFrom, mk_X7, mc_X7_copyFrom⟩, by decide, rfl, by decide +kernel, by decide +kernel, by decide +kernel⟩
theorem vo_X9_42 : vc_ok RX9 42 yX3_turnHeel cX3_turnHeel 3 none 3 2 := ⟨RX3, TX3, 6, rfl, ⟨ml_X9_42, mi_X3_turnHeel, mz_X3_turnHeel, mk_X3, mc_X3_turnHeel⟩, by decide, rfl, by decide +kernel, by decide +kernel, by decide +kernel⟩
theorem vo_X9_46 : vc_ok RX9 46 yX7_allHold cX7_allHold 4 (some .boolean) 7 1 := ⟨RX7, TX7, 5, rfl, ⟨ml_X9_46, mi_X7_allHold, mz_X7_allHold, mk_X7, mc_X7_allHold⟩, by decide, rfl, by decide +kernel, by decide +kernel, by decide +kernel⟩
theorem vo_X9_52 : vc_ok RX9 52 yX2_set cX2_set 3 none 2 2 := ⟨RX2, TX2, 1, rfl, ⟨ml_X9_52, mi_X2_set, mz_X2_set, mk_X2, mc_X2_set⟩, by decide, rfl, by decide +kernel, by decide +kernel, by decide +kernel⟩
theorem vo_X9_55 : vc_ok RX9 55 yX2_at cX2_at 2 (some .int) 2 1 := ⟨RX2, TX2, 1, rfl, ⟨ml_X9_55, mi_X2_at, mz_X2_at, mk_X2, mc_X2_at⟩, by decide, rfl, by decide +kernel, by decide +kernel, by decide +kernel⟩
theorem vo_X9_59 : vc_ok RX9 59 yX3_heardAt cX3_heardAt 3 (some .int) 3 2 := ⟨RX3, TX3, 6, rfl, ⟨ml_X9_59, mi_X3_heardAt, mz_X3_heardAt, mk_X3, mc_X3_heardAt⟩, by decide, rfl, by decide +kernel, by decide +kernel, by decide +kernel⟩
theorem vo_X9_63 : vc_ok RX9 63 yX9_isAmong cX9_isAmong 4 (some .boolean) 9 2 := ⟨RX9, TX9, 4, rfl, ⟨ml_X9_63, mi_X9_isAmong, mz_X9_isAmong, mk_X9, mc_X9_isAmong⟩, by decide, rfl, by decide +kernel, by decide +kernel, by decide +kernel⟩
theorem vo_X11_90 : vc_ok RX11 90 yX11_lays cX11_lays 3 none 11 1 := ⟨RX11, TX11, 55, rfl, ⟨ml_X11_90, mi_X11_lays, mz_X11_lays, mk_X11, mc_X11_lays⟩, by decide, rfl, by decide +kernel, by decide +kernel, by decide +kernel⟩
theorem vo_X11_100 : vc_ok RX11 100 yX11_byteAt cX11_byteAt 2 (some .int) 11 1 := ⟨RX11, TX11, 55, rfl, ⟨ml_X11_100, mi_X11_byteAt, mz_X11_byteAt, mk_X11, mc_X11_byteAt⟩, by decide, rfl, by decide +kernel, by decide +kernel, by decide +kernel⟩
theorem vo_X11_120 : sc_ok RX11 120 yX11_isLetter cX11_isLetter 1 (some .boolean) 1 := ⟨⟨ml_X11_120, ms_X11_isLetter, mk_X11, mc_X11_isLetter⟩, by decide, by decide +kernel, by decide +kernel, by decide +kernel⟩
theorem vo_X11_124 : sc_ok RX11 124 yX11_isDigit cX11_isDigit 1 (some .boolean) 1 := ⟨⟨ml_X11_124, ms_X11_isDigit, mk_X11, mc_X11_isDigit⟩, by decide, by decide +kernel, by decide +kernel, by decide +kernel⟩
theorem vo_X11_132 : sc_ok RX11 132 yX11_spelled cX11_spelled 8 (some .long) 6 := ⟨⟨ml_X11_132, ms_X11_spelled, mk_X11, mc_X11_spelled⟩, by decide, by decide +kernel, by decide +kernel, by decide +kernel⟩
theorem vo_X11_136 : sc_ok RX11 136 yX11_letters cX11_letters 1 (some .long) 1 := ⟨⟨ml_X11_136, ms_X11_letters, mk_X11, mc_X11_letters⟩, by decide, by decide +kernel, by decide +kernel, by decide +kernel⟩
theorem vo_X11_143 : vc_ok RX11 143 yX11_isGood cX11_isGood 1 (some .boolean) 11 0 := ⟨RX11, TX11, 55, rfl, ⟨ml_X11_143, mi_X11_isGood, mz_X11_isGood, mk_X11, mc_X11_isGood⟩, by decide, rfl, by decide +kernel, by decide +kernel, by decide +kernel⟩
theorem vo_X11_147 : vc_ok RX11 147 yX11_goes cX11_goes 2 none 11 0 := ⟨RX11, TX11, 55, rfl, ⟨ml_X11_147, mi_X11_goes, mz_X11_goes, mk_X11, mc_X11_goes⟩, by decide, rfl, by decide +kernel, by decide +kernel, by decide +kernel⟩
theorem vo_X11_150 : vc_ok RX11 150 yX11_wrong cX11_wrong 2 none 11 1 := ⟨RX11, TX11, 55, rfl, ⟨ml_X11_150, mi_X11_wrong, mz_X11_wrong, mk_X11, mc_X11_wrong⟩, by decide, rfl, by decide +kernel, by decide +kernel, by decide +kernel⟩
theorem vo_X11_159 : sc_ok RX11 159 yX11_isOpen cX11_isOpen 1 (some .boolean) 1 := ⟨⟨ml_X11_159, ms_X11_isOpen, mk_X11, mc_X11_isOpen⟩, by decide, by decide +kernel, by decide +kernel, by decide +kernel⟩
theorem vo_X11_162 : sc_ok RX11 162 yX11_strength cX11_strength 1 (some .int) 1 := ⟨⟨ml_X11_162, ms_X11_strength, mk_X11, mc_X11_strength⟩, by decide, by decide +kernel, by decide +kernel, by decide +kernel⟩
theorem vo_X11_165 : vc_ok RX11 165 yX11_puts cX11_puts 2 none 11 1 := ⟨RX11, TX11, 55, rfl, ⟨ml_X11_165, mi_X11_puts, mz_X11_puts, mk_X11, mc_X11_puts⟩, by decide, rfl, by decide +kernel, by decide +kernel, by decide +kernel⟩
theorem vo_X11_168 : vc_ok RX11 168 yX11_knownWord cX11_knownWord 2 (some .int) 11 0 := ⟨RX11, TX11, 55, rfl, ⟨ml_X11_168, mi_X11_knownWord, mz_X11_knownWord, mk_X11, mc_X11_knownWord⟩, by decide, rfl, by decide +kernel, by decide +kernel, by decide +kernel⟩
theorem vo_X11_175 : vc_ok RX11 175 yX11_isSign cX11_isSign 2 (some .boolean) 11 1 := ⟨RX11, TX11, 55, rfl, ⟨ml_X11_175, mi_X11_isSign, mz_X11_isSign, mk_X11, mc_X11_isSign⟩, by decide, rfl, by decide +kernel, by decide +kernel, by decide +kernel⟩
theorem vo_X11_178 : vc_ok RX11 178 yX11_waitsFor cX11_waitsFor 2 none 11 1 := ⟨RX11, TX11, 55, rfl, ⟨ml_X11_178, mi_X11_waitsFor, mz_X11_waitsFor, mk_X11, mc_X11_waitsFor⟩, by decide, rfl, by decide +kernel, by decide +kernel, by decide +kernel⟩
theorem vo_X11_181 : vc_ok RX11 181 yX11_deeper cX11_deeper 1 none 11 0 := ⟨RX11, TX11, 55, rfl, ⟨ml_X11_181, mi_X11_deeper, mz_X11_deeper, mk_X11, mc_X11_deeper⟩, by decide, rfl, by decide +kernel, by decide +kernel, by decide +kernel⟩
theorem vo_X11_184 : vc_ok RX11 184 yX11_part cX11_part 2 none 11 0 := ⟨RX11, TX11, 55, rfl, ⟨ml_X11_184, mi_X11_part, mz_X11_part, mk_X11, mc_X11_part⟩, by decide, rfl, by decide +kernel, by decide +kernel, by decide +kernel⟩
theorem vo_X11_187 : vc_ok RX11 187 yX11_drops cX11_drops 2 none 11 1 := ⟨RX11, TX11, 55, rfl, ⟨ml_X11_187, mi_X11_drops, mz_X11_drops, mk_X11, mc_X11_drops⟩, by decide, rfl, by decide +kernel, by decide +kernel, by decide +kernel⟩
theorem vo_X11_190 : vc_ok RX11 190 yX11_operand cX11_operand 5 none 11 1 := ⟨RX11, TX11, 55, rfl, ⟨ml_X11_190, mi_X11_operand, mz_X11_operand, mk_X11, mc_X11_operand⟩, by decide, rfl, by decide +kernel, by decide +kernel, by decide +kernel⟩
theorem vo_X11_194 : vc_ok RX11 194 yX11_isOpened cX11_isOpened 2 (some .boolean) 11 0 := ⟨RX11, TX11, 55, rfl, ⟨ml_X11_194, mi_X11_isOpened, mz_X11_isOpened, mk_X11, mc_X11_isOpened⟩, by decide, rfl, by decide +kernel, by decide +kernel, by decide +kernel⟩
theorem vo_X11_197 : vc_ok RX11 197 yX11_closes cX11_closes 1 none 11 0 := ⟨RX11, TX11, 55, rfl, ⟨ml_X11_197, mi_X11_closes, mz_X11_closes, mk_X11, mc_X11_closes⟩, by decide, rfl, by decide +kernel, by decide +kernel, by decide +kernel⟩
theorem vo_X11_203 : vc_ok RX11 203 yX11_number cX11_number 4 (some .int) 11 2 := ⟨RX11, TX11, 55, rfl, ⟨ml_X11_203, mi_X11_number, mz_X11_number, mk_X11, mc_X11_number⟩, by decide, rfl, by decide +kernel, by decide +kernel, by decide +kernel⟩
theorem vo_X11_210 : vc_ok RX11 210 yX11_isPlaced cX11_isPlaced 3 (some .boolean) 11 1 := ⟨RX11, TX11, 55, rfl, ⟨ml_X11_210, mi_X11_isPlaced, mz_X11_isPlaced, mk_X11, mc_X11_isPlaced⟩, by decide, rfl, by decide +kernel, by decide +kernel, by decide +kernel⟩
theorem vo_X11_219 : vc_ok RX11 219 yX11_begins cX11_begins 3 (some .boolean) 11 2 := ⟨RX11, TX11, 55, rfl, ⟨ml_X11_219, mi_X11_begins, mz_X11_begins, mk_X11, mc_X11_begins⟩, by decide, rfl, by decide +kernel, by decide +kernel, by decide +kernel⟩
theorem vo_X11_223 : vc_ok RX11 223 yX11_readsMan cX11_readsMan 2 none 11 0 := ⟨RX11, TX11, 55, rfl, ⟨ml_X11_223, mi_X11_readsMan, mz_X11_readsMan, mk_X11, mc_X11_readsMan⟩, by decide, rfl, by decide +kernel, by decide +kernel, by decide +kernel⟩
theorem vo_X11_226 : vc_ok RX11 226 yX11_readsRow cX11_readsRow 3 none 11 0 := ⟨RX11, TX11, 55, rfl, ⟨ml_X11_226, mi_X11_readsRow, mz_X11_readsRow, mk_X11, mc_X11_readsRow⟩, by decide, rfl, by decide +kernel, by decide +kernel, by decide +kernel⟩
theorem vo_X11_229 : vc_ok RX11 229 yX11_readsMud cX11_readsMud 3 none 11 0 := ⟨RX11, TX11, 55, rfl, ⟨ml_X11_229, mi_X11_readsMud, mz_X11_readsMud, mk_X11, mc_X11_readsMud⟩, by decide, rfl, by decide +kernel, by decide +kernel, by decide +kernel⟩
theorem vo_X11_238 : vc_ok RX11 238 yX11_expression cX11_expression 3 none 11 0 := ⟨RX11, TX11, 55, rfl, ⟨ml_X11_238, mi_X11_expression, mz_X11_expression, mk_X11, mc_X11_expression⟩, by decide, rfl, by decide +kernel, by decide +kernel, by decide +kernel⟩
theorem vo_X11_241 : vc_ok RX11 241 yX11_need cX11_need 2 none 11 1 := ⟨RX11, TX11, 55, rfl, ⟨ml_X11_241, mi_X11_need, mz_X11_need, mk_X11, mc_X11_need⟩, by decide, rfl, by decide +kernel, by decide +kernel, by decide +kernel⟩
theorem vo_X11_244 : vc_ok RX11 244 yX11_right cX11_right 3 (some .boolean) 11 2 := ⟨RX11, TX11, 55, rfl, ⟨ml_X11_244, mi_X11_right, mz_X11_right, mk_X11, mc_X11_right⟩, by decide, rfl, by decide +kernel, by decide +kernel, by decide +kernel⟩
theorem vo_X11_248 : vc_ok RX11 248 yX11_line cX11_line 2 none 11 0 := ⟨RX11, TX11, 55, rfl, ⟨ml_X11_248, mi_X11_line, mz_X11_line, mk_X11, mc_X11_line⟩, by decide, rfl, by decide +kernel, by decide +kernel, by decide +kernel⟩
theorem vo_X11_260 : vc_ok RX11 260 yX11_copies cX11_copies 4 none 11 2 := ⟨RX11, TX11, 55, rfl, ⟨ml_X11_260, mi_X11_copies, mz_X11_copies, mk_X11, mc_X11_copies⟩, by decide, rfl, by decide +kernel, by decide +kernel, by decide +kernel⟩
theorem vo_X11_274 : sc_ok RX11 274 yX11_works cX11_works 3 (some .int) 3 := ⟨⟨ml_X11_274, ms_X11_works, mk_X11, mc_X11_works⟩, by decide, by decide +kernel, by decide +kernel, by decide +kernel⟩
theorem vo_X11_278 : vc_ok RX11 278 yX11_mudOf cX11_mudOf 2 (some .int) 11 1 := ⟨RX11, TX11, 55, rfl, ⟨ml_X11_278, mi_X11_mudOf, mz_X11_mudOf, mk_X11, mc_X11_mudOf⟩, by decide, rfl, by decide +kernel, by decide +kernel, by decide +kernel⟩
theorem vo_X11_281 : vc_ok RX11 281 yX11_loudOf cX11_loudOf 6 (some .int) 11 3 := ⟨RX11, TX11, 55, rfl, ⟨ml_X11_281, mi_X11_loudOf, mz_X11_loudOf, mk_X11, mc_X11_loudOf⟩, by decide, rfl, by decide +kernel, by decide +kernel, by decide +kernel⟩
theorem vo_X11_284 : sc_ok RX11 284 yX11_bits cX11_bits 3 (some .int) 1 := ⟨⟨ml_X11_284, ms_X11_bits, mk_X11, mc_X11_bits⟩, by decide, by decide +kernel, by decide +kernel, by decide +kernel⟩
theorem vo_X11_287 : vc_ok RX11 287 yX11_reckons cX11_reckons 5 (some .int) 11 1 := ⟨RX11, TX11, 55, rfl, ⟨ml_X11_287, mi_X11_reckons, mz_X11_reckons, mk_X11, mc_X11_reckons⟩, by decide, rfl, by decide +kernel, by decide +kernel, by decide +kernel⟩
theorem vo_X11_290 : vc_ok RX11 290 yX11_heardOf cX11_heardOf 9 (some .int) 11 2 := ⟨RX11, TX11, 55, rfl, ⟨ml_X11_290, mi_X11_heardOf, mz_X11_heardOf, mk_X11, mc_X11_heardOf⟩, by decide, rfl, by decide +kernel, by decide +kernel, by decide +kernel⟩
theorem vo_X11_293 : vc_ok RX11 293 yX11_nearestTo cX11_nearestTo 7 (some .int) 11 2 := ⟨RX11, TX11, 55, rfl, ⟨ml_X11_293, mi_X11_nearestTo, mz_X11_nearestTo, mk_X11, mc_X11_nearestTo⟩, by decide, rfl, by decide +kernel, by decide +kernel, by decide +kernel⟩
theorem vo_X11_302 : vc_ok RX11 302 yX11_namedOf cX11_namedOf 3 (some .int) 11 2 := ⟨RX11, TX11, 55, rfl, ⟨ml_X11_302, mi_X11_namedOf, mz_X11_namedOf, mk_X11, mc_X11_namedOf⟩, by decide, rfl, by decide +kernel, by decide +kernel, by decide +kernel⟩
theorem vo_X11_305 : sc_ok RX11 305 yX11_lesser cX11_lesser 2 (some .int) 2 := ⟨⟨ml_X11_305, ms_X11_lesser, mk_X11, mc_X11_lesser⟩, by decide, by decide +kernel, by decide +kernel, by decide +kernel⟩
theorem vo_X11_308 : vc_ok RX11 308 yX11_nightGoes cX11_nightGoes 4 none 11 1 := ⟨RX11, TX11, 55, rfl, ⟨ml_X11_308, mi_X11_nightGoes, mz_X11_nightGoes, mk_X11, mc_X11_nightGoes⟩, by decide, rfl, by decide +kernel, by decide +kernel, by decide +kernel⟩
theorem vo_X11_311 : vc_ok RX11 311 yX11_rowOf cX11_rowOf 4 (some .int) 11 2 := ⟨RX11, TX11, 55, rfl, ⟨ml_X11_311, mi_X11_rowOf, mz_X11_rowOf, mk_X11, mc_X11_rowOf⟩, by decide, rfl, by decide +kernel, by decide +kernel, by decide +kernel⟩
theorem vo_X11_314 : sc_ok RX11 314 yX11_within cX11_within 3 (some .boolean) 3 := ⟨⟨ml_X11_314, ms_X11_within, mk_X11, mc_X11_within⟩, by decide, by decide +kernel, by decide +kernel, by decide +kernel⟩
theorem vo_X11_318 : vc_ok RX11 318 yX11_honourOf cX11_honourOf 4 (some .int) 11 1 := ⟨RX11, TX11, 55, rfl, ⟨ml_X11_318, mi_X11_honourOf, mz_X11_honourOf, mk_X11, mc_X11_honourOf⟩, by decide, rfl, by decide +kernel, by decide +kernel, by decide +kernel⟩
theorem vo_X11_321 : vc_ok RX11 321 yX11_inCamp cX11_inCamp 3 (some .int) 11 0 := ⟨RX11, TX11, 55, rfl, ⟨ml_X11_321, mi_X11_inCamp, mz_X11_inCamp, mk_X11, mc_X11_inCamp⟩, by decide, rfl, by decide +kernel, by decide +kernel, by decide +kernel⟩
theorem vo_X11_324 : vc_ok RX11 324 yX11_inStep cX11_inStep 4 (some .int) 11 0 := ⟨RX11, TX11, 55, rfl, ⟨ml_X11_324, mi_X11_inStep, mz_X11_inStep, mk_X11, mc_X11_inStep⟩, by decide, rfl, by decide +kernel, by decide +kernel, by decide +kernel⟩
theorem vo_X11_327 : vc_ok RX11 327 yX11_isMan cX11_isMan 2 (some .boolean) 11 1 := ⟨RX11, TX11, 55, rfl, ⟨ml_X11_327, mi_X11_isMan, mz_X11_isMan, mk_X11, mc_X11_isMan⟩, by decide, rfl, by decide +kernel, by decide +kernel, by decide +kernel⟩
theorem vo_X11_330 : vc_ok RX11 330 yX11_isWhat cX11_isWhat 3 (some .boolean) 11 2 := ⟨RX11, TX11, 55, rfl, ⟨ml_X11_330, mi_X11_isWhat, mz_X11_isWhat, mk_X11, mc_X11_isWhat⟩, by decide, rfl, by decide +kernel, by decide +kernel, by decide +kernel⟩
theorem vo_X11_334 : vc_ok RX11 334 yX11_isRow cX11_isRow 2 (some .boolean) 11 1 := ⟨RX11, TX11, 55, rfl, ⟨ml_X11_334, mi_X11_isRow, mz_X11_isRow, mk_X11, mc_X11_isRow⟩, by decide, rfl, by decide +kernel, by decide +kernel, by decide +kernel⟩
theorem vo_X11_337 : vc_ok RX11 337 yX11_refuses cX11_refuses 2 (some .int) 11 1 := ⟨RX11, TX11, 55, rfl, ⟨ml_X11_337, mi_X11_refuses, mz_X11_refuses, mk_X11, mc_X11_refuses⟩, by decide, rfl, by decide +kernel, by decide +kernel, by decide +kernel⟩
theorem vo_X11_340 : vc_ok RX11 340 yX11_keeps cX11_keeps 2 none 11 0 := ⟨RX11, TX11, 55, rfl, ⟨ml_X11_340, mi_X11_keeps, mz_X11_keeps, mk_X11, mc_X11_keeps⟩, by decide, rfl, by decide +kernel, by decide +kernel, by decide +kernel⟩
theorem vo_X11_343 : vc_ok RX11 343 yX11_puts0 cX11_puts0 5 none 11 3 := ⟨RX11, TX11, 55, rfl, ⟨ml_X11_343, mi_X11_puts0, mz_X11_puts0, mk_X11, mc_X11_puts0⟩, by decide, rfl, by decide +kernel, by decide +kernel, by decide +kernel⟩
theorem vo_X11_347 : vc_ok RX11 347 yX11_tries cX11_tries 2 none 11 0 := ⟨RX11, TX11, 55, rfl, ⟨ml_X11_347, mi_X11_tries, mz_X11_tries, mk_X11, mc_X11_tries⟩, by decide, rfl, by decide +kernel, by decide +kernel, by decide +kernel⟩
theorem vo_X11_350 : vc_ok RX11 350 yX11_nightsGo cX11_nightsGo 3 none 11 1 := ⟨RX11, TX11, 55, rfl, ⟨ml_X11_350, mi_X11_nightsGo, mz_X11_nightsGo, mk_X11, mc_X11_nightsGo⟩, by decide, rfl, by decide +kernel, by decide +kernel, by decide +kernel⟩
theorem vo_X11_353 : vc_ok RX11 353 yX11_isNights cX11_isNights 4 (some .boolean) 11 3 := ⟨RX11, TX11, 55, rfl, ⟨ml_X11_353, mi_X11_isNights, mz_X11_isNights, mk_X11, mc_X11_isNights⟩, by decide, rfl, by decide +kernel, by decide +kernel, by decide +kernel⟩
theorem vo_X11_356 : vc_ok RX11 356 yX11_goesTo cX11_goesTo 2 none 11 1 := ⟨RX11, TX11, 55, rfl, ⟨ml_X11_356, mi_X11_goesTo, mz_X11_goesTo, mk_X11, mc_X11_goesTo⟩, by decide, rfl, by decide +kernel, by decide +kernel, by decide +kernel⟩
theorem vo_X11_359 : vc_ok RX11 359 yX11_farOf cX11_farOf 3 (some .int) 11 2 := ⟨RX11, TX11, 55, rfl, ⟨ml_X11_359, mi_X11_farOf, mz_X11_farOf, mk_X11, mc_X11_farOf⟩, by decide, rfl, by decide +kernel, by decide +kernel, by decide +kernel⟩
theorem vo_X11_363 : vc_ok RX11 363 yX11_canTry cX11_canTry 3 (some .boolean) 11 2 := ⟨RX11, TX11, 55, rfl, ⟨ml_X11_363, mi_X11_canTry, mz_X11_canTry, mk_X11, mc_X11_canTry⟩, by decide, rfl, by decide +kernel, by decide +kernel, by decide +kernel⟩
theorem vo_X11_366 : sc_ok RX11 366 yX11_power cX11_power 4 (some .int) 2 := ⟨⟨ml_X11_366, ms_X11_power, mk_X11, mc_X11_power⟩, by decide, by decide +kernel, by decide +kernel, by decide +kernel⟩
theorem vo_X11_369 : vc_ok RX11 369 yX11_isOrder cX11_isOrder 6 (some .boolean) 11 1 := ⟨RX11, TX11, 55, rfl, ⟨ml_X11_369, mi_X11_isOrder, mz_X11_isOrder, mk_X11, mc_X11_isOrder⟩, by decide, rfl, by decide +kernel, by decide +kernel, by decide +kernel⟩
theorem vo_X11_372 : vc_ok RX11 372 yX11_rightOnes cX11_rightOnes 4 (some .int) 11 0 := ⟨RX11, TX11, 55, rfl, ⟨ml_X11_372, mi_X11_rightOnes, mz_X11_rightOnes, mk_X11, mc_X11_rightOnes⟩, by decide, rfl, by decide +kernel, by decide +kernel, by decide +kernel⟩
theorem vo_X11_375 : vc_ok RX11 375 yX11_isSeen cX11_isSeen 3 (some .boolean) 11 0 := ⟨RX11, TX11, 55, rfl, ⟨ml_X11_375, mi_X11_isSeen, mz_X11_isSeen, mk_X11, mc_X11_isSeen⟩, by decide, rfl, by decide +kernel, by decide +kernel, by decide +kernel⟩
theorem vo_X11_378 : vc_ok RX11 378 yX11_triesHeel cX11_triesHeel 2 none 11 1 := ⟨RX11, TX11, 55, rfl, ⟨ml_X11_378, mi_X11_triesHeel, mz_X11_triesHeel, mk_X11, mc_X11_triesHeel⟩, by decide, rfl, by decide +kernel, by decide +kernel, by decide +kernel⟩
theorem vo_X11_381 : vc_ok RX11 381 yX11_gains cX11_gains 7 (some .int) 11 4 := ⟨RX11, TX11, 55, rfl, ⟨ml_X11_381, mi_X11_gains, mz_X11_gains, mk_X11, mc_X11_gains⟩, by decide, rfl, by decide +kernel, by decide +kernel, by decide +kernel⟩
theorem vo_X11_389 : vc_ok RX11 389 yX11_draw cX11_draw 2 (some .int) 11 1 := ⟨RX11, TX11, 55, rfl, ⟨ml_X11_389, mi_X11_draw, mz_X11_draw, mk_X11, mc_X11_draw⟩, by decide, rfl, by decide +kernel, by decide +kernel, by decide +kernel⟩
theorem vo_X11_392 : vc_ok RX11 392 yX11_happens cX11_happens 3 none 11 0 := ⟨RX11, TX11, 55, rfl, ⟨ml_X11_392, mi_X11_happens, mz_X11_happens, mk_X11, mc_X11_happens⟩, by decide, rfl, by decide +kernel, by decide +kernel, by decide +kernel⟩
theorem vo_X11_395 : vc_ok RX11 395 yX11_areBeats cX11_areBeats 2 (some .boolean) 11 1 := ⟨RX11, TX11, 55, rfl, ⟨ml_X11_395, mi_X11_areBeats, mz_X11_areBeats, mk_X11, mc_X11_areBeats⟩, by decide, rfl, by decide +kernel, by decide +kernel, by decide +kernel⟩
theorem vo_X11_398 : vc_ok RX11 398 yX11_treadsOf cX11_treadsOf 4 (some .int) 11 1 := ⟨RX11, TX11, 55, rfl, ⟨ml_X11_398, mi_X11_treadsOf, mz_X11_treadsOf, mk_X11, mc_X11_treadsOf⟩, by decide, rfl, by decide +kernel, by decide +kernel, by decide +kernel⟩
theorem vo_J0_335 : tc_ok RJ0 335 yJ0_coder_7d493 cJ0_coder_7d493 1 (some .byte) 0 := ⟨⟨ml_J0_335, mi_J0_coder_7d493, mz_J0_coder_7d493, mk_J0, mc_J0_coder_7d493⟩, by decide, rfl, by decide +kernel, by decide +kernel, by decide +kernel⟩
theorem vo_J0_492 : tc_ok RJ0 492 yJ0_isLatin1_aae02 cJ0_isLatin1_aae02 1 (some .boolean) 0 := ⟨⟨ml_J0_492, mi_J0_isLatin1_aae02, mz_J0_isLatin1_aae02, mk_J0, mc_J0_isLatin1_aae02⟩, by decide, rfl, by decide +kernel, by decide +kernel, by decide +kernel⟩
theorem vo_J0_495 : sc_ok RJ0 495 yJ1_charAt_3b067 cJ1_charAt_3b067 2 (some .char) 2 := ⟨⟨ml_J0_495, ms_J1_charAt_3b067, mk_J1, mc_J1_charAt_3b067⟩, by decide, by decide +kernel, by decide +kernel, by decide +kernel⟩
theorem vo_J0_498 : sc_ok RJ0 498 yJ2_charAt_3b067 cJ2_charAt_3b067 2 (some .char) 2 := ⟨⟨ml_J0_498, ms_J2_charAt_3b067, mk_J2, mc_J2_charAt_3b067⟩, by decide, by decide +kernel, by decide +kernel, by decide +kernel⟩
theorem vo_J0_505 : tc_ok RJ0 505 yJ0_length_8abf5 cJ0_length_8abf5 1 (some .int) 0 := ⟨⟨ml_J0_505, mi_J0_length_8abf5, mz_J0_length_8abf5, mk_J0, mc_J0_length_8abf5⟩, by decide, rfl, by decide +kernel, by decide +kernel, by decide +kernel⟩
theorem vo_J0_633 : tc_ok RJ0 633 yJ0_indexOf_7cf53 cJ0_indexOf_7cf53 3 (some .int) 2 := ⟨⟨ml_J0_633, mi_J0_indexOf_7cf53, mz_J0_indexOf_7cf53, mk_J0, mc_J0_indexOf_7cf53⟩, by decide, rfl, by decide +kernel, by decide +kernel, by decide +kernel⟩
theorem vo_J0_637 : sc_ok RJ0 637 yJ1_indexOf_4cfef cJ1_indexOf_4cfef 4 (some .int) 4 := ⟨⟨ml_J0_637, ms_J1_indexOf_4cfef, mk_J1, mc_J1_indexOf_4cfef⟩, by decide, by decide +kernel, by decide +kernel, by decide +kernel⟩
theorem vo_J0_640 : sc_ok RJ0 640 yJ2_indexOf_4cfef cJ2_indexOf_4cfef 4 (some .int) 4 := ⟨⟨ml_J0_640, ms_J2_indexOf_4cfef, mk_J2, mc_J2_indexOf_4cfef⟩, by decide, by decide +kernel, by decide +kernel, by decide +kernel⟩
theorem vo_J0_1059 : sc_ok RJ0 1059 yJ3_checkIndex_8e157 cJ3_checkIndex_8e157 3 (some .int) 3 := ⟨⟨ml_J0_1059, ms_J3_checkIndex_8e157, mk_J3, mc_J3_checkIndex_8e157⟩, by decide, by decide +kernel, by decide +kernel, by decide +kernel⟩
theorem vo_J0_1062 : sc_ok RJ0 1062 yJ3_checkFromToIndex_8c36e cJ3_checkFromToIndex_8c36e 4 (some .int) 4 := ⟨⟨ml_J0_1062, ms_J3_checkFromToIndex_8c36e, mk_J3, mc_J3_checkFromToIndex_8c36e⟩, by decide, by decide +kernel, by decide +kernel, by decide +kernel⟩
theorem vo_J1_9 : sc_ok RJ1 9 yJ0_checkIndex_df160 cJ0_checkIndex_df160 2 none 2 := ⟨⟨ml_J1_9, ms_J0_checkIndex_df160, mk_J0, mc_J0_checkIndex_df160⟩, by decide, by decide +kernel, by decide +kernel, by decide +kernel⟩
theorem vo_J1_38 : sc_ok RJ1 38 yJ9_min_7cf53 cJ9_min_7cf53 2 (some .int) 2 := ⟨⟨ml_J1_38, ms_J9_min_7cf53, mk_J9, mc_J9_min_7cf53⟩, by decide, by decide +kernel, by decide +kernel, by decide +kernel⟩
theorem vo_J1_88 : sc_ok RJ1 88 yJ1_canEncode_9a6ad cJ1_canEncode_9a6ad 1 (some .boolean) 1 := ⟨⟨ml_J1_88, ms_J1_canEncode_9a6ad, mk_J1, mc_J1_canEncode_9a6ad⟩, by decide, by decide +kernel, by decide +kernel, by decide +kernel⟩
theorem vo_J1_92 : sc_ok RJ1 92 yJ9_max_7cf53 cJ9_max_7cf53 2 (some .int) 2 := ⟨⟨ml_J1_92, ms_J9_max_7cf53, mk_J9, mc_J9_max_7cf53⟩, by decide, by decide +kernel, by decide +kernel, by decide +kernel⟩
theorem vo_J1_95 : sc_ok RJ1 95 yJ1_indexOfChar_4cfef cJ1_indexOfChar_4cfef 6 (some .int) 4 := ⟨⟨ml_J1_95, ms_J1_indexOfChar_4cfef, mk_J1, mc_J1_indexOfChar_4cfef⟩, by decide, by decide +kernel, by decide +kernel, by decide +kernel⟩
theorem vo_X3_107 : sn_ok RX3 "NightMarch" 107 yX10_holds cX10_holds 2 (some .boolean) 2 := ⟨⟨by decide +kernel, ms_X10_holds, mk_X10, mc_X10_holds⟩, by decide, by decide +kernel, by decide +kernel, by decide +kernel⟩
theorem vo_X4_61 : sn_ok RX4 "NightMarch" 61 yX10_holds cX10_holds 2 (some .boolean) 2 := ⟨⟨by decide +kernel, ms_X10_holds, mk_X10, mc_X10_holds⟩, by decide, by decide +kernel, by decide +kernel, by decide +kernel⟩
theorem vo_X5_153 : sn_ok RX5 "NightMarch" 153 yX10_holds cX10_holds 2 (some .boolean) 2 := ⟨⟨by decide +kernel, ms_X10_holds, mk_X10, mc_X10_holds⟩, by decide, by decide +kernel, by decide +kernel, by decide +kernel⟩
theorem xo_X10_94_98 : xt_ok RX10 94 98 1 := ⟨7, prog_19_method_2_code, ⟨mq_X10_94, mk_javalangIllegalArgumentException⟩, xck_ok (by decide +kernel), by decide +kernel, by decide +kernel, by decide +kernel, by decide +kernel⟩
theorem xo_X10_166_170 : xt_ok RX10 166 170 0 := ⟨13, prog_29_method_4_code, ⟨mq_X10_166, mk_javautilNoSuchElementException⟩, xck_ok (by decide +kernel), by decide +kernel, by decide +kernel, by decide +kernel, by decide +kernel⟩
