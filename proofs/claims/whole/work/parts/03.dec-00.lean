theorem dX0_init_0 : decode cX0_init 0 = .ok (.aload_n 0, 1) := by decide +kernel
theorem dX0_init_1 : decode cX0_init 1 = .ok (.invokespecial 3, 3) := by decide +kernel
theorem dX0_init_4 : decode cX0_init 4 = .ok (.aload_n 0, 1) := by decide +kernel
theorem dX0_init_5 : decode cX0_init 5 = .ok (.new 9, 3) := by decide +kernel
theorem dX0_init_8 : decode cX0_init 8 = .ok (.dup, 1) := by decide +kernel
theorem dX0_init_9 : decode cX0_init 9 = .ok (.bipush 40, 2) := by decide +kernel
theorem dX0_init_11 : decode cX0_init 11 = .ok (.invokespecial 11, 3) := by decide +kernel
theorem dX0_init_14 : decode cX0_init 14 = .ok (.putfield 14, 3) := by decide +kernel
theorem dX0_init_17 : decode cX0_init 17 = .ok (.aload_n 0, 1) := by decide +kernel
theorem dX0_init_18 : decode cX0_init 18 = .ok (.new 9, 3) := by decide +kernel
theorem dX0_init_21 : decode cX0_init 21 = .ok (.dup, 1) := by decide +kernel
theorem dX0_init_22 : decode cX0_init 22 = .ok (.bipush 40, 2) := by decide +kernel
theorem dX0_init_24 : decode cX0_init 24 = .ok (.invokespecial 11, 3) := by decide +kernel
theorem dX0_init_27 : decode cX0_init 27 = .ok (.putfield 20, 3) := by decide +kernel
theorem dX0_init_30 : decode cX0_init 30 = .ok (.aload_n 0, 1) := by decide +kernel
theorem dX0_init_31 : decode cX0_init 31 = .ok (.new 9, 3) := by decide +kernel
theorem dX0_init_34 : decode cX0_init 34 = .ok (.dup, 1) := by decide +kernel
theorem dX0_init_35 : decode cX0_init 35 = .ok (.bipush 40, 2) := by decide +kernel
theorem dX0_init_37 : decode cX0_init 37 = .ok (.invokespecial 11, 3) := by decide +kernel
theorem dX0_init_40 : decode cX0_init 40 = .ok (.putfield 23, 3) := by decide +kernel
theorem dX0_init_43 : decode cX0_init 43 = .ok (.aload_n 0, 1) := by decide +kernel
theorem dX0_init_44 : decode cX0_init 44 = .ok (.new 9, 3) := by decide +kernel
theorem dX0_init_47 : decode cX0_init 47 = .ok (.dup, 1) := by decide +kernel
theorem dX0_init_48 : decode cX0_init 48 = .ok (.sipush 320, 3) := by decide +kernel
theorem dX0_init_51 : decode cX0_init 51 = .ok (.invokespecial 11, 3) := by decide +kernel
theorem dX0_init_54 : decode cX0_init 54 = .ok (.putfield 26, 3) := by decide +kernel
theorem dX0_init_57 : decode cX0_init 57 = .ok (.aload_n 0, 1) := by decide +kernel
theorem dX0_init_58 : decode cX0_init 58 = .ok (.iconst 0, 1) := by decide +kernel
theorem dX0_init_59 : decode cX0_init 59 = .ok (.putfield 29, 3) := by decide +kernel
theorem dX0_init_62 : decode cX0_init 62 = .ok (.return_, 1) := by decide +kernel
theorem dX0_keep_0 : decode cX0_keep 0 = .ok (.aload_n 0, 1) := by decide +kernel
theorem dX0_keep_1 : decode cX0_keep 1 = .ok (.getfield 29, 3) := by decide +kernel
theorem dX0_keep_4 : decode cX0_keep 4 = .ok (.bipush 40, 2) := by decide +kernel
theorem dX0_keep_6 : decode cX0_keep 6 = .ok (.if_icmp .lt 7, 3) := by decide +kernel
theorem dX0_keep_9 : decode cX0_keep 9 = .ok (.aload_n 0, 1) := by decide +kernel
theorem dX0_keep_10 : decode cX0_keep 10 = .ok (.invokevirtual 33, 3) := by decide +kernel
theorem dX0_keep_13 : decode cX0_keep 13 = .ok (.aload_n 0, 1) := by decide +kernel
theorem dX0_keep_14 : decode cX0_keep 14 = .ok (.getfield 14, 3) := by decide +kernel
theorem dX0_keep_17 : decode cX0_keep 17 = .ok (.aload_n 0, 1) := by decide +kernel
theorem dX0_keep_18 : decode cX0_keep 18 = .ok (.getfield 29, 3) := by decide +kernel
theorem dX0_keep_21 : decode cX0_keep 21 = .ok (.iload_n 1, 1) := by decide +kernel
theorem dX0_keep_22 : decode cX0_keep 22 = .ok (.invokevirtual 36, 3) := by decide +kernel
theorem dX0_keep_25 : decode cX0_keep 25 = .ok (.aload_n 0, 1) := by decide +kernel
theorem dX0_keep_26 : decode cX0_keep 26 = .ok (.getfield 20, 3) := by decide +kernel
theorem dX0_keep_29 : decode cX0_keep 29 = .ok (.aload_n 0, 1) := by decide +kernel
theorem dX0_keep_30 : decode cX0_keep 30 = .ok (.getfield 29, 3) := by decide +kernel
theorem dX0_keep_33 : decode cX0_keep 33 = .ok (.iload_n 2, 1) := by decide +kernel
theorem dX0_keep_34 : decode cX0_keep 34 = .ok (.invokevirtual 36, 3) := by decide +kernel
theorem dX0_keep_37 : decode cX0_keep 37 = .ok (.aload_n 0, 1) := by decide +kernel
theorem dX0_keep_38 : decode cX0_keep 38 = .ok (.getfield 23, 3) := by decide +kernel
theorem dX0_keep_41 : decode cX0_keep 41 = .ok (.aload_n 0, 1) := by decide +kernel
theorem dX0_keep_42 : decode cX0_keep 42 = .ok (.getfield 29, 3) := by decide +kernel
theorem dX0_keep_45 : decode cX0_keep 45 = .ok (.iload_n 3, 1) := by decide +kernel
theorem dX0_keep_46 : decode cX0_keep 46 = .ok (.invokevirtual 36, 3) := by decide +kernel
theorem dX0_keep_49 : decode cX0_keep 49 = .ok (.iconst 0, 1) := by decide +kernel
theorem dX0_keep_50 : decode cX0_keep 50 = .ok (.istore 5, 2) := by decide +kernel
theorem dX0_keep_52 : decode cX0_keep 52 = .ok (.iload 5, 2) := by decide +kernel
theorem dX0_keep_54 : decode cX0_keep 54 = .ok (.bipush 8, 2) := by decide +kernel
theorem dX0_keep_56 : decode cX0_keep 56 = .ok (.if_icmp .ge 36, 3) := by decide +kernel
theorem dX0_keep_59 : decode cX0_keep 59 = .ok (.aload_n 0, 1) := by decide +kernel
theorem dX0_keep_60 : decode cX0_keep 60 = .ok (.getfield 26, 3) := by decide +kernel
theorem dX0_keep_63 : decode cX0_keep 63 = .ok (.aload_n 0, 1) := by decide +kernel
theorem dX0_keep_64 : decode cX0_keep 64 = .ok (.getfield 29, 3) := by decide +kernel
theorem dX0_keep_67 : decode cX0_keep 67 = .ok (.bipush 8, 2) := by decide +kernel
theorem dX0_keep_69 : decode cX0_keep 69 = .ok (.imul, 1) := by decide +kernel
theorem dX0_keep_70 : decode cX0_keep 70 = .ok (.iload 5, 2) := by decide +kernel
theorem dX0_keep_72 : decode cX0_keep 72 = .ok (.iadd, 1) := by decide +kernel
theorem dX0_keep_73 : decode cX0_keep 73 = .ok (.aload 4, 2) := by decide +kernel
theorem dX0_keep_75 : decode cX0_keep 75 = .ok (.getfield 40, 3) := by decide +kernel
theorem dX0_keep_78 : decode cX0_keep 78 = .ok (.iload 5, 2) := by decide +kernel
theorem dX0_keep_80 : decode cX0_keep 80 = .ok (.invokevirtual 43, 3) := by decide +kernel
theorem dX0_keep_83 : decode cX0_keep 83 = .ok (.invokevirtual 36, 3) := by decide +kernel
theorem dX0_keep_86 : decode cX0_keep 86 = .ok (.iinc 5 1, 3) := by decide +kernel
theorem dX0_keep_89 : decode cX0_keep 89 = .ok (.goto (-37), 3) := by decide +kernel
theorem dX0_keep_92 : decode cX0_keep 92 = .ok (.aload_n 0, 1) := by decide +kernel
theorem dX0_keep_93 : decode cX0_keep 93 = .ok (.dup, 1) := by decide +kernel
theorem dX0_keep_94 : decode cX0_keep 94 = .ok (.getfield 29, 3) := by decide +kernel
theorem dX0_keep_97 : decode cX0_keep 97 = .ok (.iconst 1, 1) := by decide +kernel
theorem dX0_keep_98 : decode cX0_keep 98 = .ok (.iadd, 1) := by decide +kernel
theorem dX0_keep_99 : decode cX0_keep 99 = .ok (.putfield 29, 3) := by decide +kernel
theorem dX0_keep_102 : decode cX0_keep 102 = .ok (.return_, 1) := by decide +kernel
theorem dX0_dropEarliest_0 : decode cX0_dropEarliest 0 = .ok (.iconst 1, 1) := by decide +kernel
theorem dX0_dropEarliest_1 : decode cX0_dropEarliest 1 = .ok (.istore_n 1, 1) := by decide +kernel
theorem dX0_dropEarliest_2 : decode cX0_dropEarliest 2 = .ok (.iload_n 1, 1) := by decide +kernel
theorem dX0_dropEarliest_3 : decode cX0_dropEarliest 3 = .ok (.aload_n 0, 1) := by decide +kernel
theorem dX0_dropEarliest_4 : decode cX0_dropEarliest 4 = .ok (.getfield 29, 3) := by decide +kernel
theorem dX0_dropEarliest_7 : decode cX0_dropEarliest 7 = .ok (.if_icmp .ge 63, 3) := by decide +kernel
theorem dX0_dropEarliest_10 : decode cX0_dropEarliest 10 = .ok (.aload_n 0, 1) := by decide +kernel
theorem dX0_dropEarliest_11 : decode cX0_dropEarliest 11 = .ok (.getfield 14, 3) := by decide +kernel
theorem dX0_dropEarliest_14 : decode cX0_dropEarliest 14 = .ok (.iload_n 1, 1) := by decide +kernel
theorem dX0_dropEarliest_15 : decode cX0_dropEarliest 15 = .ok (.iconst 1, 1) := by decide +kernel
theorem dX0_dropEarliest_16 : decode cX0_dropEarliest 16 = .ok (.isub, 1) := by decide +kernel
theorem dX0_dropEarliest_17 : decode cX0_dropEarliest 17 = .ok (.aload_n 0, 1) := by decide +kernel
theorem dX0_dropEarliest_18 : decode cX0_dropEarliest 18 = .ok (.getfield 14, 3) := by decide +kernel
theorem dX0_dropEarliest_21 : decode cX0_dropEarliest 21 = .ok (.iload_n 1, 1) := by decide +kernel
theorem dX0_dropEarliest_22 : decode cX0_dropEarliest 22 = .ok (.invokevirtual 43, 3) := by decide +kernel
theorem dX0_dropEarliest_25 : decode cX0_dropEarliest 25 = .ok (.invokevirtual 36, 3) := by decide +kernel
theorem dX0_dropEarliest_28 : decode cX0_dropEarliest 28 = .ok (.aload_n 0, 1) := by decide +kernel
theorem dX0_dropEarliest_29 : decode cX0_dropEarliest 29 = .ok (.getfield 20, 3) := by decide +kernel
theorem dX0_dropEarliest_32 : decode cX0_dropEarliest 32 = .ok (.iload_n 1, 1) := by decide +kernel
theorem dX0_dropEarliest_33 : decode cX0_dropEarliest 33 = .ok (.iconst 1, 1) := by decide +kernel
theorem dX0_dropEarliest_34 : decode cX0_dropEarliest 34 = .ok (.isub, 1) := by decide +kernel
theorem dX0_dropEarliest_35 : decode cX0_dropEarliest 35 = .ok (.aload_n 0, 1) := by decide +kernel
theorem dX0_dropEarliest_36 : decode cX0_dropEarliest 36 = .ok (.getfield 20, 3) := by decide +kernel
theorem dX0_dropEarliest_39 : decode cX0_dropEarliest 39 = .ok (.iload_n 1, 1) := by decide +kernel
theorem dX0_dropEarliest_40 : decode cX0_dropEarliest 40 = .ok (.invokevirtual 43, 3) := by decide +kernel
theorem dX0_dropEarliest_43 : decode cX0_dropEarliest 43 = .ok (.invokevirtual 36, 3) := by decide +kernel
theorem dX0_dropEarliest_46 : decode cX0_dropEarliest 46 = .ok (.aload_n 0, 1) := by decide +kernel
theorem dX0_dropEarliest_47 : decode cX0_dropEarliest 47 = .ok (.getfield 23, 3) := by decide +kernel
theorem dX0_dropEarliest_50 : decode cX0_dropEarliest 50 = .ok (.iload_n 1, 1) := by decide +kernel
theorem dX0_dropEarliest_51 : decode cX0_dropEarliest 51 = .ok (.iconst 1, 1) := by decide +kernel
theorem dX0_dropEarliest_52 : decode cX0_dropEarliest 52 = .ok (.isub, 1) := by decide +kernel
theorem dX0_dropEarliest_53 : decode cX0_dropEarliest 53 = .ok (.aload_n 0, 1) := by decide +kernel
theorem dX0_dropEarliest_54 : decode cX0_dropEarliest 54 = .ok (.getfield 23, 3) := by decide +kernel
theorem dX0_dropEarliest_57 : decode cX0_dropEarliest 57 = .ok (.iload_n 1, 1) := by decide +kernel
theorem dX0_dropEarliest_58 : decode cX0_dropEarliest 58 = .ok (.invokevirtual 43, 3) := by decide +kernel
theorem dX0_dropEarliest_61 : decode cX0_dropEarliest 61 = .ok (.invokevirtual 36, 3) := by decide +kernel
theorem dX0_dropEarliest_64 : decode cX0_dropEarliest 64 = .ok (.iinc 1 1, 3) := by decide +kernel
theorem dX0_dropEarliest_67 : decode cX0_dropEarliest 67 = .ok (.goto (-65), 3) := by decide +kernel
theorem dX0_dropEarliest_70 : decode cX0_dropEarliest 70 = .ok (.bipush 8, 2) := by decide +kernel
theorem dX0_dropEarliest_72 : decode cX0_dropEarliest 72 = .ok (.istore_n 1, 1) := by decide +kernel
theorem dX0_dropEarliest_73 : decode cX0_dropEarliest 73 = .ok (.iload_n 1, 1) := by decide +kernel
theorem dX0_dropEarliest_74 : decode cX0_dropEarliest 74 = .ok (.aload_n 0, 1) := by decide +kernel
theorem dX0_dropEarliest_75 : decode cX0_dropEarliest 75 = .ok (.getfield 29, 3) := by decide +kernel
theorem dX0_dropEarliest_78 : decode cX0_dropEarliest 78 = .ok (.bipush 8, 2) := by decide +kernel
theorem dX0_dropEarliest_80 : decode cX0_dropEarliest 80 = .ok (.imul, 1) := by decide +kernel
theorem dX0_dropEarliest_81 : decode cX0_dropEarliest 81 = .ok (.if_icmp .ge 28, 3) := by decide +kernel
theorem dX0_dropEarliest_84 : decode cX0_dropEarliest 84 = .ok (.aload_n 0, 1) := by decide +kernel
theorem dX0_dropEarliest_85 : decode cX0_dropEarliest 85 = .ok (.getfield 26, 3) := by decide +kernel
theorem dX0_dropEarliest_88 : decode cX0_dropEarliest 88 = .ok (.iload_n 1, 1) := by decide +kernel
theorem dX0_dropEarliest_89 : decode cX0_dropEarliest 89 = .ok (.bipush 8, 2) := by decide +kernel
theorem dX0_dropEarliest_91 : decode cX0_dropEarliest 91 = .ok (.isub, 1) := by decide +kernel
theorem dX0_dropEarliest_92 : decode cX0_dropEarliest 92 = .ok (.aload_n 0, 1) := by decide +kernel
theorem dX0_dropEarliest_93 : decode cX0_dropEarliest 93 = .ok (.getfield 26, 3) := by decide +kernel
theorem dX0_dropEarliest_96 : decode cX0_dropEarliest 96 = .ok (.iload_n 1, 1) := by decide +kernel
theorem dX0_dropEarliest_97 : decode cX0_dropEarliest 97 = .ok (.invokevirtual 43, 3) := by decide +kernel
theorem dX0_dropEarliest_100 : decode cX0_dropEarliest 100 = .ok (.invokevirtual 36, 3) := by decide +kernel
theorem dX0_dropEarliest_103 : decode cX0_dropEarliest 103 = .ok (.iinc 1 1, 3) := by decide +kernel
theorem dX0_dropEarliest_106 : decode cX0_dropEarliest 106 = .ok (.goto (-33), 3) := by decide +kernel
theorem dX0_dropEarliest_109 : decode cX0_dropEarliest 109 = .ok (.aload_n 0, 1) := by decide +kernel
theorem dX0_dropEarliest_110 : decode cX0_dropEarliest 110 = .ok (.dup, 1) := by decide +kernel
theorem dX0_dropEarliest_111 : decode cX0_dropEarliest 111 = .ok (.getfield 29, 3) := by decide +kernel
theorem dX0_dropEarliest_114 : decode cX0_dropEarliest 114 = .ok (.iconst 1, 1) := by decide +kernel
theorem dX0_dropEarliest_115 : decode cX0_dropEarliest 115 = .ok (.isub, 1) := by decide +kernel
theorem dX0_dropEarliest_116 : decode cX0_dropEarliest 116 = .ok (.putfield 29, 3) := by decide +kernel
theorem dX0_dropEarliest_119 : decode cX0_dropEarliest 119 = .ok (.return_, 1) := by decide +kernel
theorem dX0_takeBack_0 : decode cX0_takeBack 0 = .ok (.aload_n 0, 1) := by decide +kernel
theorem dX0_takeBack_1 : decode cX0_takeBack 1 = .ok (.dup, 1) := by decide +kernel
theorem dX0_takeBack_2 : decode cX0_takeBack 2 = .ok (.getfield 29, 3) := by decide +kernel
theorem dX0_takeBack_5 : decode cX0_takeBack 5 = .ok (.iconst 1, 1) := by decide +kernel
theorem dX0_takeBack_6 : decode cX0_takeBack 6 = .ok (.isub, 1) := by decide +kernel
theorem dX0_takeBack_7 : decode cX0_takeBack 7 = .ok (.putfield 29, 3) := by decide +kernel
theorem dX0_takeBack_10 : decode cX0_takeBack 10 = .ok (.aload_n 0, 1) := by decide +kernel
theorem dX0_takeBack_11 : decode cX0_takeBack 11 = .ok (.getfield 20, 3) := by decide +kernel
theorem dX0_takeBack_14 : decode cX0_takeBack 14 = .ok (.aload_n 0, 1) := by decide +kernel
theorem dX0_takeBack_15 : decode cX0_takeBack 15 = .ok (.getfield 29, 3) := by decide +kernel
theorem dX0_takeBack_18 : decode cX0_takeBack 18 = .ok (.invokevirtual 43, 3) := by decide +kernel
theorem dX0_takeBack_21 : decode cX0_takeBack 21 = .ok (.istore_n 2, 1) := by decide +kernel
theorem dX0_takeBack_22 : decode cX0_takeBack 22 = .ok (.aload_n 0, 1) := by decide +kernel
theorem dX0_takeBack_23 : decode cX0_takeBack 23 = .ok (.getfield 23, 3) := by decide +kernel
theorem dX0_takeBack_26 : decode cX0_takeBack 26 = .ok (.aload_n 0, 1) := by decide +kernel
theorem dX0_takeBack_27 : decode cX0_takeBack 27 = .ok (.getfield 29, 3) := by decide +kernel
theorem dX0_takeBack_30 : decode cX0_takeBack 30 = .ok (.invokevirtual 43, 3) := by decide +kernel
theorem dX0_takeBack_33 : decode cX0_takeBack 33 = .ok (.istore_n 3, 1) := by decide +kernel
theorem dX0_takeBack_34 : decode cX0_takeBack 34 = .ok (.aload_n 0, 1) := by decide +kernel
theorem dX0_takeBack_35 : decode cX0_takeBack 35 = .ok (.getfield 14, 3) := by decide +kernel
theorem dX0_takeBack_38 : decode cX0_takeBack 38 = .ok (.aload_n 0, 1) := by decide +kernel
theorem dX0_takeBack_39 : decode cX0_takeBack 39 = .ok (.getfield 29, 3) := by decide +kernel
theorem dX0_takeBack_42 : decode cX0_takeBack 42 = .ok (.invokevirtual 43, 3) := by decide +kernel
theorem dX0_takeBack_45 : decode cX0_takeBack 45 = .ok (.tableswitch 70 0 3 #[31, 40, 49, 58], 31) := by decide +kernel
theorem dX0_takeBack_76 : decode cX0_takeBack 76 = .ok (.aload_n 0, 1) := by decide +kernel
theorem dX0_takeBack_77 : decode cX0_takeBack 77 = .ok (.aload_n 1, 1) := by decide +kernel
theorem dX0_takeBack_78 : decode cX0_takeBack 78 = .ok (.iload_n 2, 1) := by decide +kernel
theorem dX0_takeBack_79 : decode cX0_takeBack 79 = .ok (.invokevirtual 47, 3) := by decide +kernel
theorem dX0_takeBack_82 : decode cX0_takeBack 82 = .ok (.goto 39, 3) := by decide +kernel
theorem dX0_takeBack_85 : decode cX0_takeBack 85 = .ok (.aload_n 1, 1) := by decide +kernel
theorem dX0_takeBack_86 : decode cX0_takeBack 86 = .ok (.iload_n 2, 1) := by decide +kernel
theorem dX0_takeBack_87 : decode cX0_takeBack 87 = .ok (.iload_n 3, 1) := by decide +kernel
theorem dX0_takeBack_88 : decode cX0_takeBack 88 = .ok (.invokevirtual 51, 3) := by decide +kernel
theorem dX0_takeBack_91 : decode cX0_takeBack 91 = .ok (.goto 30, 3) := by decide +kernel
theorem dX0_takeBack_94 : decode cX0_takeBack 94 = .ok (.aload_n 1, 1) := by decide +kernel
theorem dX0_takeBack_95 : decode cX0_takeBack 95 = .ok (.iload_n 2, 1) := by decide +kernel
theorem dX0_takeBack_96 : decode cX0_takeBack 96 = .ok (.iload_n 3, 1) := by decide +kernel
theorem dX0_takeBack_97 : decode cX0_takeBack 97 = .ok (.invokevirtual 54, 3) := by decide +kernel
theorem dX0_takeBack_100 : decode cX0_takeBack 100 = .ok (.goto 21, 3) := by decide +kernel
theorem dX0_takeBack_103 : decode cX0_takeBack 103 = .ok (.aload_n 1, 1) := by decide +kernel
theorem dX0_takeBack_104 : decode cX0_takeBack 104 = .ok (.getfield 57, 3) := by decide +kernel
theorem dX0_takeBack_107 : decode cX0_takeBack 107 = .ok (.iload_n 2, 1) := by decide +kernel
theorem dX0_takeBack_108 : decode cX0_takeBack 108 = .ok (.iload_n 3, 1) := by decide +kernel
theorem dX0_takeBack_109 : decode cX0_takeBack 109 = .ok (.invokevirtual 36, 3) := by decide +kernel
theorem dX0_takeBack_112 : decode cX0_takeBack 112 = .ok (.goto 9, 3) := by decide +kernel
theorem dX0_takeBack_115 : decode cX0_takeBack 115 = .ok (.aload_n 1, 1) := by decide +kernel
theorem dX0_takeBack_116 : decode cX0_takeBack 116 = .ok (.iload_n 2, 1) := by decide +kernel
theorem dX0_takeBack_117 : decode cX0_takeBack 117 = .ok (.iload_n 3, 1) := by decide +kernel
theorem dX0_takeBack_118 : decode cX0_takeBack 118 = .ok (.invokevirtual 60, 3) := by decide +kernel
theorem dX0_takeBack_121 : decode cX0_takeBack 121 = .ok (.aload_n 0, 1) := by decide +kernel
theorem dX0_takeBack_122 : decode cX0_takeBack 122 = .ok (.getfield 29, 3) := by decide +kernel
theorem dX0_takeBack_125 : decode cX0_takeBack 125 = .ok (.ireturn, 1) := by decide +kernel
theorem dX0_takeNightsBack_0 : decode cX0_takeNightsBack 0 = .ok (.iconst 0, 1) := by decide +kernel
theorem dX0_takeNightsBack_1 : decode cX0_takeNightsBack 1 = .ok (.istore_n 3, 1) := by decide +kernel
theorem dX0_takeNightsBack_2 : decode cX0_takeNightsBack 2 = .ok (.iload_n 3, 1) := by decide +kernel
theorem dX0_takeNightsBack_3 : decode cX0_takeNightsBack 3 = .ok (.iload_n 2, 1) := by decide +kernel
theorem dX0_takeNightsBack_4 : decode cX0_takeNightsBack 4 = .ok (.if_icmp .ge 13, 3) := by decide +kernel
theorem dX0_takeNightsBack_7 : decode cX0_takeNightsBack 7 = .ok (.aload_n 1, 1) := by decide +kernel
theorem dX0_takeNightsBack_8 : decode cX0_takeNightsBack 8 = .ok (.invokevirtual 63, 3) := by decide +kernel
theorem dX0_takeNightsBack_11 : decode cX0_takeNightsBack 11 = .ok (.iinc 3 1, 3) := by decide +kernel
theorem dX0_takeNightsBack_14 : decode cX0_takeNightsBack 14 = .ok (.goto (-12), 3) := by decide +kernel
theorem dX0_takeNightsBack_17 : decode cX0_takeNightsBack 17 = .ok (.iconst 0, 1) := by decide +kernel
theorem dX0_takeNightsBack_18 : decode cX0_takeNightsBack 18 = .ok (.istore_n 3, 1) := by decide +kernel
theorem dX0_takeNightsBack_19 : decode cX0_takeNightsBack 19 = .ok (.iload_n 3, 1) := by decide +kernel
theorem dX0_takeNightsBack_20 : decode cX0_takeNightsBack 20 = .ok (.bipush 8, 2) := by decide +kernel
theorem dX0_takeNightsBack_22 : decode cX0_takeNightsBack 22 = .ok (.if_icmp .ge 33, 3) := by decide +kernel
theorem dX0_takeNightsBack_25 : decode cX0_takeNightsBack 25 = .ok (.aload_n 1, 1) := by decide +kernel
theorem dX0_takeNightsBack_26 : decode cX0_takeNightsBack 26 = .ok (.getfield 40, 3) := by decide +kernel
theorem dX0_takeNightsBack_29 : decode cX0_takeNightsBack 29 = .ok (.iload_n 3, 1) := by decide +kernel
theorem dX0_takeNightsBack_30 : decode cX0_takeNightsBack 30 = .ok (.aload_n 0, 1) := by decide +kernel
theorem dX0_takeNightsBack_31 : decode cX0_takeNightsBack 31 = .ok (.getfield 26, 3) := by decide +kernel
theorem dX0_takeNightsBack_34 : decode cX0_takeNightsBack 34 = .ok (.aload_n 0, 1) := by decide +kernel
theorem dX0_takeNightsBack_35 : decode cX0_takeNightsBack 35 = .ok (.getfield 29, 3) := by decide +kernel
theorem dX0_takeNightsBack_38 : decode cX0_takeNightsBack 38 = .ok (.bipush 8, 2) := by decide +kernel
theorem dX0_takeNightsBack_40 : decode cX0_takeNightsBack 40 = .ok (.imul, 1) := by decide +kernel
theorem dX0_takeNightsBack_41 : decode cX0_takeNightsBack 41 = .ok (.iload_n 3, 1) := by decide +kernel
theorem dX0_takeNightsBack_42 : decode cX0_takeNightsBack 42 = .ok (.iadd, 1) := by decide +kernel
theorem dX0_takeNightsBack_43 : decode cX0_takeNightsBack 43 = .ok (.invokevirtual 43, 3) := by decide +kernel
theorem dX0_takeNightsBack_46 : decode cX0_takeNightsBack 46 = .ok (.invokevirtual 36, 3) := by decide +kernel
theorem dX0_takeNightsBack_49 : decode cX0_takeNightsBack 49 = .ok (.iinc 3 1, 3) := by decide +kernel
theorem dX0_takeNightsBack_52 : decode cX0_takeNightsBack 52 = .ok (.goto (-33), 3) := by decide +kernel
theorem dX0_takeNightsBack_55 : decode cX0_takeNightsBack 55 = .ok (.return_, 1) := by decide +kernel
theorem dX0_copyFrom_0 : decode cX0_copyFrom 0 = .ok (.aload_n 0, 1) := by decide +kernel
theorem dX0_copyFrom_1 : decode cX0_copyFrom 1 = .ok (.getfield 14, 3) := by decide +kernel
theorem dX0_copyFrom_4 : decode cX0_copyFrom 4 = .ok (.aload_n 1, 1) := by decide +kernel
theorem dX0_copyFrom_5 : decode cX0_copyFrom 5 = .ok (.getfield 14, 3) := by decide +kernel
theorem dX0_copyFrom_8 : decode cX0_copyFrom 8 = .ok (.invokevirtual 66, 3) := by decide +kernel
theorem dX0_copyFrom_11 : decode cX0_copyFrom 11 = .ok (.aload_n 0, 1) := by decide +kernel
theorem dX0_copyFrom_12 : decode cX0_copyFrom 12 = .ok (.getfield 20, 3) := by decide +kernel
theorem dX0_copyFrom_15 : decode cX0_copyFrom 15 = .ok (.aload_n 1, 1) := by decide +kernel
theorem dX0_copyFrom_16 : decode cX0_copyFrom 16 = .ok (.getfield 20, 3) := by decide +kernel
theorem dX0_copyFrom_19 : decode cX0_copyFrom 19 = .ok (.invokevirtual 66, 3) := by decide +kernel
theorem dX0_copyFrom_22 : decode cX0_copyFrom 22 = .ok (.aload_n 0, 1) := by decide +kernel
theorem dX0_copyFrom_23 : decode cX0_copyFrom 23 = .ok (.getfield 23, 3) := by decide +kernel
theorem dX0_copyFrom_26 : decode cX0_copyFrom 26 = .ok (.aload_n 1, 1) := by decide +kernel
theorem dX0_copyFrom_27 : decode cX0_copyFrom 27 = .ok (.getfield 23, 3) := by decide +kernel
theorem dX0_copyFrom_30 : decode cX0_copyFrom 30 = .ok (.invokevirtual 66, 3) := by decide +kernel
theorem dX0_copyFrom_33 : decode cX0_copyFrom 33 = .ok (.aload_n 0, 1) := by decide +kernel
theorem dX0_copyFrom_34 : decode cX0_copyFrom 34 = .ok (.getfield 26, 3) := by decide +kernel
theorem dX0_copyFrom_37 : decode cX0_copyFrom 37 = .ok (.aload_n 1, 1) := by decide +kernel
theorem dX0_copyFrom_38 : decode cX0_copyFrom 38 = .ok (.getfield 26, 3) := by decide +kernel
theorem dX0_copyFrom_41 : decode cX0_copyFrom 41 = .ok (.invokevirtual 66, 3) := by decide +kernel
theorem dX0_copyFrom_44 : decode cX0_copyFrom 44 = .ok (.aload_n 0, 1) := by decide +kernel
theorem dX0_copyFrom_45 : decode cX0_copyFrom 45 = .ok (.aload_n 1, 1) := by decide +kernel
theorem dX0_copyFrom_46 : decode cX0_copyFrom 46 = .ok (.getfield 29, 3) := by decide +kernel
theorem dX0_copyFrom_49 : decode cX0_copyFrom 49 = .ok (.putfield 29, 3) := by decide +kernel
theorem dX0_copyFrom_52 : decode cX0_copyFrom 52 = .ok (.return_, 1) := by decide +kernel
theorem dX1_init_0 : decode cX1_init 0 = .ok (.aload_n 0, 1) := by decide +kernel
theorem dX1_init_1 : decode cX1_init 1 = .ok (.invokespecial 3, 3) := by decide +kernel
theorem dX1_init_4 : decode cX1_init 4 = .ok (.aload_n 0, 1) := by decide +kernel
theorem dX1_init_5 : decode cX1_init 5 = .ok (.bipush 8, 2) := by decide +kernel
theorem dX1_init_7 : decode cX1_init 7 = .ok (.putfield 9, 3) := by decide +kernel
theorem dX1_init_10 : decode cX1_init 10 = .ok (.aload_n 0, 1) := by decide +kernel
theorem dX1_init_11 : decode cX1_init 11 = .ok (.iconst 0, 1) := by decide +kernel
theorem dX1_init_12 : decode cX1_init 12 = .ok (.putfield 15, 3) := by decide +kernel
theorem dX1_init_15 : decode cX1_init 15 = .ok (.aload_n 0, 1) := by decide +kernel
theorem dX1_init_16 : decode cX1_init 16 = .ok (.iconst 0, 1) := by decide +kernel
theorem dX1_init_17 : decode cX1_init 17 = .ok (.putfield 18, 3) := by decide +kernel
theorem dX1_init_20 : decode cX1_init 20 = .ok (.aload_n 0, 1) := by decide +kernel
theorem dX1_init_21 : decode cX1_init 21 = .ok (.iconst 2, 1) := by decide +kernel
theorem dX1_init_22 : decode cX1_init 22 = .ok (.putfield 21, 3) := by decide +kernel
theorem dX1_init_25 : decode cX1_init 25 = .ok (.aload_n 0, 1) := by decide +kernel
theorem dX1_init_26 : decode cX1_init 26 = .ok (.iconst 0, 1) := by decide +kernel
theorem dX1_init_27 : decode cX1_init 27 = .ok (.putfield 24, 3) := by decide +kernel
theorem dX1_init_30 : decode cX1_init 30 = .ok (.aload_n 0, 1) := by decide +kernel
theorem dX1_init_31 : decode cX1_init 31 = .ok (.new 27, 3) := by decide +kernel
theorem dX1_init_34 : decode cX1_init 34 = .ok (.dup, 1) := by decide +kernel
theorem dX1_init_35 : decode cX1_init 35 = .ok (.bipush 8, 2) := by decide +kernel
theorem dX1_init_37 : decode cX1_init 37 = .ok (.invokespecial 29, 3) := by decide +kernel
theorem dX1_init_40 : decode cX1_init 40 = .ok (.putfield 32, 3) := by decide +kernel
theorem dX1_init_43 : decode cX1_init 43 = .ok (.aload_n 0, 1) := by decide +kernel
theorem dX1_init_44 : decode cX1_init 44 = .ok (.new 36, 3) := by decide +kernel
theorem dX1_init_47 : decode cX1_init 47 = .ok (.dup, 1) := by decide +kernel
theorem dX1_init_48 : decode cX1_init 48 = .ok (.invokespecial 38, 3) := by decide +kernel
theorem dX1_init_51 : decode cX1_init 51 = .ok (.putfield 39, 3) := by decide +kernel
theorem dX1_init_54 : decode cX1_init 54 = .ok (.return_, 1) := by decide +kernel
theorem dX1_clear_0 : decode cX1_clear 0 = .ok (.aload_n 0, 1) := by decide +kernel
theorem dX1_clear_1 : decode cX1_clear 1 = .ok (.bipush 8, 2) := by decide +kernel
theorem dX1_clear_3 : decode cX1_clear 3 = .ok (.putfield 9, 3) := by decide +kernel
theorem dX1_clear_6 : decode cX1_clear 6 = .ok (.aload_n 0, 1) := by decide +kernel
theorem dX1_clear_7 : decode cX1_clear 7 = .ok (.iconst 0, 1) := by decide +kernel
theorem dX1_clear_8 : decode cX1_clear 8 = .ok (.putfield 15, 3) := by decide +kernel
theorem dX1_clear_11 : decode cX1_clear 11 = .ok (.aload_n 0, 1) := by decide +kernel
theorem dX1_clear_12 : decode cX1_clear 12 = .ok (.iconst 0, 1) := by decide +kernel
theorem dX1_clear_13 : decode cX1_clear 13 = .ok (.putfield 18, 3) := by decide +kernel
theorem dX1_clear_16 : decode cX1_clear 16 = .ok (.aload_n 0, 1) := by decide +kernel
theorem dX1_clear_17 : decode cX1_clear 17 = .ok (.iconst 2, 1) := by decide +kernel
theorem dX1_clear_18 : decode cX1_clear 18 = .ok (.putfield 21, 3) := by decide +kernel
theorem dX1_clear_21 : decode cX1_clear 21 = .ok (.aload_n 0, 1) := by decide +kernel
theorem dX1_clear_22 : decode cX1_clear 22 = .ok (.iconst 0, 1) := by decide +kernel
theorem dX1_clear_23 : decode cX1_clear 23 = .ok (.putfield 24, 3) := by decide +kernel
theorem dX1_clear_26 : decode cX1_clear 26 = .ok (.aload_n 0, 1) := by decide +kernel
theorem dX1_clear_27 : decode cX1_clear 27 = .ok (.getfield 39, 3) := by decide +kernel
theorem dX1_clear_30 : decode cX1_clear 30 = .ok (.iconst 0, 1) := by decide +kernel
theorem dX1_clear_31 : decode cX1_clear 31 = .ok (.putfield 43, 3) := by decide +kernel
theorem dX1_clear_34 : decode cX1_clear 34 = .ok (.return_, 1) := by decide +kernel
theorem dX1_copyFrom_0 : decode cX1_copyFrom 0 = .ok (.aload_n 0, 1) := by decide +kernel
theorem dX1_copyFrom_1 : decode cX1_copyFrom 1 = .ok (.aload_n 1, 1) := by decide +kernel
theorem dX1_copyFrom_2 : decode cX1_copyFrom 2 = .ok (.getfield 9, 3) := by decide +kernel
theorem dX1_copyFrom_5 : decode cX1_copyFrom 5 = .ok (.putfield 9, 3) := by decide +kernel
theorem dX1_copyFrom_8 : decode cX1_copyFrom 8 = .ok (.aload_n 0, 1) := by decide +kernel
theorem dX1_copyFrom_9 : decode cX1_copyFrom 9 = .ok (.aload_n 1, 1) := by decide +kernel
theorem dX1_copyFrom_10 : decode cX1_copyFrom 10 = .ok (.getfield 15, 3) := by decide +kernel
theorem dX1_copyFrom_13 : decode cX1_copyFrom 13 = .ok (.putfield 15, 3) := by decide +kernel
theorem dX1_copyFrom_16 : decode cX1_copyFrom 16 = .ok (.aload_n 0, 1) := by decide +kernel
theorem dX1_copyFrom_17 : decode cX1_copyFrom 17 = .ok (.aload_n 1, 1) := by decide +kernel
theorem dX1_copyFrom_18 : decode cX1_copyFrom 18 = .ok (.getfield 18, 3) := by decide +kernel
theorem dX1_copyFrom_21 : decode cX1_copyFrom 21 = .ok (.putfield 18, 3) := by decide +kernel
theorem dX1_copyFrom_24 : decode cX1_copyFrom 24 = .ok (.aload_n 0, 1) := by decide +kernel
theorem dX1_copyFrom_25 : decode cX1_copyFrom 25 = .ok (.aload_n 1, 1) := by decide +kernel
theorem dX1_copyFrom_26 : decode cX1_copyFrom 26 = .ok (.getfield 21, 3) := by decide +kernel
theorem dX1_copyFrom_29 : decode cX1_copyFrom 29 = .ok (.putfield 21, 3) := by decide +kernel
theorem dX1_copyFrom_32 : decode cX1_copyFrom 32 = .ok (.aload_n 0, 1) := by decide +kernel
theorem dX1_copyFrom_33 : decode cX1_copyFrom 33 = .ok (.aload_n 1, 1) := by decide +kernel
theorem dX1_copyFrom_34 : decode cX1_copyFrom 34 = .ok (.getfield 24, 3) := by decide +kernel
theorem dX1_copyFrom_37 : decode cX1_copyFrom 37 = .ok (.putfield 24, 3) := by decide +kernel
theorem dX1_copyFrom_40 : decode cX1_copyFrom 40 = .ok (.aload_n 0, 1) := by decide +kernel
theorem dX1_copyFrom_41 : decode cX1_copyFrom 41 = .ok (.getfield 32, 3) := by decide +kernel
theorem dX1_copyFrom_44 : decode cX1_copyFrom 44 = .ok (.aload_n 1, 1) := by decide +kernel
theorem dX1_copyFrom_45 : decode cX1_copyFrom 45 = .ok (.getfield 32, 3) := by decide +kernel
theorem dX1_copyFrom_48 : decode cX1_copyFrom 48 = .ok (.invokevirtual 46, 3) := by decide +kernel
theorem dX1_copyFrom_51 : decode cX1_copyFrom 51 = .ok (.aload_n 0, 1) := by decide +kernel
theorem dX1_copyFrom_52 : decode cX1_copyFrom 52 = .ok (.getfield 39, 3) := by decide +kernel
theorem dX1_copyFrom_55 : decode cX1_copyFrom 55 = .ok (.aload_n 1, 1) := by decide +kernel
theorem dX1_copyFrom_56 : decode cX1_copyFrom 56 = .ok (.getfield 39, 3) := by decide +kernel
theorem dX1_copyFrom_59 : decode cX1_copyFrom 59 = .ok (.invokevirtual 50, 3) := by decide +kernel
theorem dX1_copyFrom_62 : decode cX1_copyFrom 62 = .ok (.return_, 1) := by decide +kernel
theorem dX1_allBeats_0 : decode cX1_allBeats 0 = .ok (.iconst 1, 1) := by decide +kernel
theorem dX1_allBeats_1 : decode cX1_allBeats 1 = .ok (.aload_n 0, 1) := by decide +kernel
theorem dX1_allBeats_2 : decode cX1_allBeats 2 = .ok (.getfield 9, 3) := by decide +kernel
theorem dX1_allBeats_5 : decode cX1_allBeats 5 = .ok (.ishl, 1) := by decide +kernel
theorem dX1_allBeats_6 : decode cX1_allBeats 6 = .ok (.iconst 1, 1) := by decide +kernel
theorem dX1_allBeats_7 : decode cX1_allBeats 7 = .ok (.isub, 1) := by decide +kernel
theorem dX1_allBeats_8 : decode cX1_allBeats 8 = .ok (.ireturn, 1) := by decide +kernel
theorem dX1_allMen_0 : decode cX1_allMen 0 = .ok (.iconst 1, 1) := by decide +kernel
theorem dX1_allMen_1 : decode cX1_allMen 1 = .ok (.aload_n 0, 1) := by decide +kernel
theorem dX1_allMen_2 : decode cX1_allMen 2 = .ok (.getfield 15, 3) := by decide +kernel
theorem dX1_allMen_5 : decode cX1_allMen 5 = .ok (.ishl, 1) := by decide +kernel
theorem dX1_allMen_6 : decode cX1_allMen 6 = .ok (.iconst 1, 1) := by decide +kernel
theorem dX1_allMen_7 : decode cX1_allMen 7 = .ok (.isub, 1) := by decide +kernel
theorem dX1_allMen_8 : decode cX1_allMen 8 = .ok (.ireturn, 1) := by decide +kernel
theorem dX1_mudOf_0 : decode cX1_mudOf 0 = .ok (.aload_n 0, 1) := by decide +kernel
theorem dX1_mudOf_1 : decode cX1_mudOf 1 = .ok (.getfield 24, 3) := by decide +kernel
theorem dX1_mudOf_4 : decode cX1_mudOf 4 = .ok (.ifCond .gt 7, 3) := by decide +kernel
theorem dX1_mudOf_7 : decode cX1_mudOf 7 = .ok (.iconst 2, 1) := by decide +kernel
theorem dX1_mudOf_8 : decode cX1_mudOf 8 = .ok (.goto 16, 3) := by decide +kernel
theorem dX1_mudOf_11 : decode cX1_mudOf 11 = .ok (.aload_n 0, 1) := by decide +kernel
theorem dX1_mudOf_12 : decode cX1_mudOf 12 = .ok (.getfield 32, 3) := by decide +kernel
theorem dX1_mudOf_15 : decode cX1_mudOf 15 = .ok (.iload_n 1, 1) := by decide +kernel
theorem dX1_mudOf_16 : decode cX1_mudOf 16 = .ok (.aload_n 0, 1) := by decide +kernel
theorem dX1_mudOf_17 : decode cX1_mudOf 17 = .ok (.getfield 24, 3) := by decide +kernel
theorem dX1_mudOf_20 : decode cX1_mudOf 20 = .ok (.irem, 1) := by decide +kernel
theorem dX1_mudOf_21 : decode cX1_mudOf 21 = .ok (.invokevirtual 53, 3) := by decide +kernel
theorem dX1_mudOf_24 : decode cX1_mudOf 24 = .ok (.ireturn, 1) := by decide +kernel
theorem dX2_init_0 : decode cX2_init 0 = .ok (.aload_n 0, 1) := by decide +kernel
theorem dX2_init_1 : decode cX2_init 1 = .ok (.invokespecial 1, 3) := by decide +kernel
theorem dX2_init_4 : decode cX2_init 4 = .ok (.aload_n 0, 1) := by decide +kernel
theorem dX2_init_5 : decode cX2_init 5 = .ok (.iload_n 1, 1) := by decide +kernel
theorem dX2_init_6 : decode cX2_init 6 = .ok (.iconst 0, 1) := by decide +kernel
theorem dX2_init_7 : decode cX2_init 7 = .ok (.invokestatic 7, 3) := by decide +kernel
theorem dX2_init_10 : decode cX2_init 10 = .ok (.newarray .int, 2) := by decide +kernel
theorem dX2_init_12 : decode cX2_init 12 = .ok (.putfield 13, 3) := by decide +kernel
theorem dX2_init_15 : decode cX2_init 15 = .ok (.return_, 1) := by decide +kernel
theorem dX2_at_0 : decode cX2_at 0 = .ok (.iload_n 1, 1) := by decide +kernel
theorem dX2_at_1 : decode cX2_at 1 = .ok (.ifCond .lt 21, 3) := by decide +kernel
theorem dX2_at_4 : decode cX2_at 4 = .ok (.iload_n 1, 1) := by decide +kernel
theorem dX2_at_5 : decode cX2_at 5 = .ok (.aload_n 0, 1) := by decide +kernel
theorem dX2_at_6 : decode cX2_at 6 = .ok (.getfield 13, 3) := by decide +kernel
theorem dX2_at_9 : decode cX2_at 9 = .ok (.arraylength, 1) := by decide +kernel
theorem dX2_at_10 : decode cX2_at 10 = .ok (.if_icmp .ge 12, 3) := by decide +kernel
theorem dX2_at_13 : decode cX2_at 13 = .ok (.aload_n 0, 1) := by decide +kernel
theorem dX2_at_14 : decode cX2_at 14 = .ok (.getfield 13, 3) := by decide +kernel
theorem dX2_at_17 : decode cX2_at 17 = .ok (.iload_n 1, 1) := by decide +kernel
theorem dX2_at_18 : decode cX2_at 18 = .ok (.iaload, 1) := by decide +kernel
theorem dX2_at_19 : decode cX2_at 19 = .ok (.goto 4, 3) := by decide +kernel
theorem dX2_at_22 : decode cX2_at 22 = .ok (.iconst 0, 1) := by decide +kernel
theorem dX2_at_23 : decode cX2_at 23 = .ok (.ireturn, 1) := by decide +kernel
theorem dX2_set_0 : decode cX2_set 0 = .ok (.iload_n 1, 1) := by decide +kernel
theorem dX2_set_1 : decode cX2_set 1 = .ok (.ifCond .lt 19, 3) := by decide +kernel
theorem dX2_set_4 : decode cX2_set 4 = .ok (.iload_n 1, 1) := by decide +kernel
theorem dX2_set_5 : decode cX2_set 5 = .ok (.aload_n 0, 1) := by decide +kernel
theorem dX2_set_6 : decode cX2_set 6 = .ok (.getfield 13, 3) := by decide +kernel
theorem dX2_set_9 : decode cX2_set 9 = .ok (.arraylength, 1) := by decide +kernel
theorem dX2_set_10 : decode cX2_set 10 = .ok (.if_icmp .ge 10, 3) := by decide +kernel
theorem dX2_set_13 : decode cX2_set 13 = .ok (.aload_n 0, 1) := by decide +kernel
theorem dX2_set_14 : decode cX2_set 14 = .ok (.getfield 13, 3) := by decide +kernel
theorem dX2_set_17 : decode cX2_set 17 = .ok (.iload_n 1, 1) := by decide +kernel
theorem dX2_set_18 : decode cX2_set 18 = .ok (.iload_n 2, 1) := by decide +kernel
theorem dX2_set_19 : decode cX2_set 19 = .ok (.iastore, 1) := by decide +kernel
theorem dX2_set_20 : decode cX2_set 20 = .ok (.return_, 1) := by decide +kernel
theorem dX2_fill_0 : decode cX2_fill 0 = .ok (.iconst 0, 1) := by decide +kernel
theorem dX2_fill_1 : decode cX2_fill 1 = .ok (.istore_n 2, 1) := by decide +kernel
theorem dX2_fill_2 : decode cX2_fill 2 = .ok (.iload_n 2, 1) := by decide +kernel
theorem dX2_fill_3 : decode cX2_fill 3 = .ok (.aload_n 0, 1) := by decide +kernel
theorem dX2_fill_4 : decode cX2_fill 4 = .ok (.getfield 13, 3) := by decide +kernel
theorem dX2_fill_7 : decode cX2_fill 7 = .ok (.arraylength, 1) := by decide +kernel
theorem dX2_fill_8 : decode cX2_fill 8 = .ok (.if_icmp .ge 16, 3) := by decide +kernel
theorem dX2_fill_11 : decode cX2_fill 11 = .ok (.aload_n 0, 1) := by decide +kernel
theorem dX2_fill_12 : decode cX2_fill 12 = .ok (.getfield 13, 3) := by decide +kernel
theorem dX2_fill_15 : decode cX2_fill 15 = .ok (.iload_n 2, 1) := by decide +kernel
theorem dX2_fill_16 : decode cX2_fill 16 = .ok (.iload_n 1, 1) := by decide +kernel
theorem dX2_fill_17 : decode cX2_fill 17 = .ok (.iastore, 1) := by decide +kernel
theorem dX2_fill_18 : decode cX2_fill 18 = .ok (.iinc 2 1, 3) := by decide +kernel
theorem dX2_fill_21 : decode cX2_fill 21 = .ok (.goto (-19), 3) := by decide +kernel
theorem dX2_fill_24 : decode cX2_fill 24 = .ok (.return_, 1) := by decide +kernel
theorem dX2_copyFrom_0 : decode cX2_copyFrom 0 = .ok (.iconst 0, 1) := by decide +kernel
theorem dX2_copyFrom_1 : decode cX2_copyFrom 1 = .ok (.istore_n 2, 1) := by decide +kernel
theorem dX2_copyFrom_2 : decode cX2_copyFrom 2 = .ok (.iload_n 2, 1) := by decide +kernel
theorem dX2_copyFrom_3 : decode cX2_copyFrom 3 = .ok (.aload_n 0, 1) := by decide +kernel
theorem dX2_copyFrom_4 : decode cX2_copyFrom 4 = .ok (.getfield 13, 3) := by decide +kernel
theorem dX2_copyFrom_7 : decode cX2_copyFrom 7 = .ok (.arraylength, 1) := by decide +kernel
theorem dX2_copyFrom_8 : decode cX2_copyFrom 8 = .ok (.if_icmp .ge 30, 3) := by decide +kernel
theorem dX2_copyFrom_11 : decode cX2_copyFrom 11 = .ok (.iload_n 2, 1) := by decide +kernel
theorem dX2_copyFrom_12 : decode cX2_copyFrom 12 = .ok (.aload_n 1, 1) := by decide +kernel
theorem dX2_copyFrom_13 : decode cX2_copyFrom 13 = .ok (.getfield 13, 3) := by decide +kernel
theorem dX2_copyFrom_16 : decode cX2_copyFrom 16 = .ok (.arraylength, 1) := by decide +kernel
theorem dX2_copyFrom_17 : decode cX2_copyFrom 17 = .ok (.if_icmp .ge 21, 3) := by decide +kernel
theorem dX2_copyFrom_20 : decode cX2_copyFrom 20 = .ok (.aload_n 0, 1) := by decide +kernel
theorem dX2_copyFrom_21 : decode cX2_copyFrom 21 = .ok (.getfield 13, 3) := by decide +kernel
theorem dX2_copyFrom_24 : decode cX2_copyFrom 24 = .ok (.iload_n 2, 1) := by decide +kernel
theorem dX2_copyFrom_25 : decode cX2_copyFrom 25 = .ok (.aload_n 1, 1) := by decide +kernel
theorem dX2_copyFrom_26 : decode cX2_copyFrom 26 = .ok (.getfield 13, 3) := by decide +kernel
theorem dX2_copyFrom_29 : decode cX2_copyFrom 29 = .ok (.iload_n 2, 1) := by decide +kernel
theorem dX2_copyFrom_30 : decode cX2_copyFrom 30 = .ok (.iaload, 1) := by decide +kernel
theorem dX2_copyFrom_31 : decode cX2_copyFrom 31 = .ok (.iastore, 1) := by decide +kernel
theorem dX2_copyFrom_32 : decode cX2_copyFrom 32 = .ok (.iinc 2 1, 3) := by decide +kernel
theorem dX2_copyFrom_35 : decode cX2_copyFrom 35 = .ok (.goto (-33), 3) := by decide +kernel
theorem dX2_copyFrom_38 : decode cX2_copyFrom 38 = .ok (.return_, 1) := by decide +kernel
theorem dX3_init_0 : decode cX3_init 0 = .ok (.aload_n 0, 1) := by decide +kernel
theorem dX3_init_1 : decode cX3_init 1 = .ok (.invokespecial 3, 3) := by decide +kernel
theorem dX3_init_4 : decode cX3_init 4 = .ok (.aload_n 0, 1) := by decide +kernel
theorem dX3_init_5 : decode cX3_init 5 = .ok (.iconst 0, 1) := by decide +kernel
theorem dX3_init_6 : decode cX3_init 6 = .ok (.putfield 9, 3) := by decide +kernel
theorem dX3_init_9 : decode cX3_init 9 = .ok (.aload_n 0, 1) := by decide +kernel
theorem dX3_init_10 : decode cX3_init 10 = .ok (.new 15, 3) := by decide +kernel
theorem dX3_init_13 : decode cX3_init 13 = .ok (.dup, 1) := by decide +kernel
theorem dX3_init_14 : decode cX3_init 14 = .ok (.bipush 8, 2) := by decide +kernel
theorem dX3_init_16 : decode cX3_init 16 = .ok (.invokespecial 17, 3) := by decide +kernel
theorem dX3_init_19 : decode cX3_init 19 = .ok (.putfield 20, 3) := by decide +kernel
theorem dX3_init_22 : decode cX3_init 22 = .ok (.aload_n 0, 1) := by decide +kernel
theorem dX3_init_23 : decode cX3_init 23 = .ok (.new 15, 3) := by decide +kernel
theorem dX3_init_26 : decode cX3_init 26 = .ok (.dup, 1) := by decide +kernel
theorem dX3_init_27 : decode cX3_init 27 = .ok (.bipush 8, 2) := by decide +kernel
theorem dX3_init_29 : decode cX3_init 29 = .ok (.invokespecial 17, 3) := by decide +kernel
theorem dX3_init_32 : decode cX3_init 32 = .ok (.putfield 24, 3) := by decide +kernel
theorem dX3_init_35 : decode cX3_init 35 = .ok (.aload_n 0, 1) := by decide +kernel
theorem dX3_init_36 : decode cX3_init 36 = .ok (.new 15, 3) := by decide +kernel
theorem dX3_init_39 : decode cX3_init 39 = .ok (.dup, 1) := by decide +kernel
theorem dX3_init_40 : decode cX3_init 40 = .ok (.bipush 8, 2) := by decide +kernel
theorem dX3_init_42 : decode cX3_init 42 = .ok (.invokespecial 17, 3) := by decide +kernel
theorem dX3_init_45 : decode cX3_init 45 = .ok (.putfield 27, 3) := by decide +kernel
theorem dX3_init_48 : decode cX3_init 48 = .ok (.aload_n 0, 1) := by decide +kernel
theorem dX3_init_49 : decode cX3_init 49 = .ok (.new 15, 3) := by decide +kernel
theorem dX3_init_52 : decode cX3_init 52 = .ok (.dup, 1) := by decide +kernel
theorem dX3_init_53 : decode cX3_init 53 = .ok (.bipush 8, 2) := by decide +kernel
theorem dX3_init_55 : decode cX3_init 55 = .ok (.invokespecial 17, 3) := by decide +kernel
theorem dX3_init_58 : decode cX3_init 58 = .ok (.putfield 30, 3) := by decide +kernel
theorem dX3_init_61 : decode cX3_init 61 = .ok (.aload_n 0, 1) := by decide +kernel
theorem dX3_init_62 : decode cX3_init 62 = .ok (.aload_n 1, 1) := by decide +kernel
theorem dX3_init_63 : decode cX3_init 63 = .ok (.putfield 33, 3) := by decide +kernel
theorem dX3_init_66 : decode cX3_init 66 = .ok (.return_, 1) := by decide +kernel
theorem dX3_clear_0 : decode cX3_clear 0 = .ok (.aload_n 0, 1) := by decide +kernel
theorem dX3_clear_1 : decode cX3_clear 1 = .ok (.iconst 0, 1) := by decide +kernel
theorem dX3_clear_2 : decode cX3_clear 2 = .ok (.putfield 9, 3) := by decide +kernel
theorem dX3_clear_5 : decode cX3_clear 5 = .ok (.aload_n 0, 1) := by decide +kernel
theorem dX3_clear_6 : decode cX3_clear 6 = .ok (.getfield 20, 3) := by decide +kernel
theorem dX3_clear_9 : decode cX3_clear 9 = .ok (.iconst 0, 1) := by decide +kernel
theorem dX3_clear_10 : decode cX3_clear 10 = .ok (.invokevirtual 37, 3) := by decide +kernel
theorem dX3_clear_13 : decode cX3_clear 13 = .ok (.aload_n 0, 1) := by decide +kernel
theorem dX3_clear_14 : decode cX3_clear 14 = .ok (.getfield 24, 3) := by decide +kernel
theorem dX3_clear_17 : decode cX3_clear 17 = .ok (.iconst 0, 1) := by decide +kernel
theorem dX3_clear_18 : decode cX3_clear 18 = .ok (.invokevirtual 37, 3) := by decide +kernel
theorem dX3_clear_21 : decode cX3_clear 21 = .ok (.aload_n 0, 1) := by decide +kernel
theorem dX3_clear_22 : decode cX3_clear 22 = .ok (.getfield 27, 3) := by decide +kernel
theorem dX3_clear_25 : decode cX3_clear 25 = .ok (.iconst 0, 1) := by decide +kernel
theorem dX3_clear_26 : decode cX3_clear 26 = .ok (.invokevirtual 37, 3) := by decide +kernel
theorem dX3_clear_29 : decode cX3_clear 29 = .ok (.aload_n 0, 1) := by decide +kernel
theorem dX3_clear_30 : decode cX3_clear 30 = .ok (.getfield 30, 3) := by decide +kernel
theorem dX3_clear_33 : decode cX3_clear 33 = .ok (.iconst 0, 1) := by decide +kernel
theorem dX3_clear_34 : decode cX3_clear 34 = .ok (.invokevirtual 37, 3) := by decide +kernel
theorem dX3_clear_37 : decode cX3_clear 37 = .ok (.return_, 1) := by decide +kernel
theorem dX3_copyFrom_0 : decode cX3_copyFrom 0 = .ok (.aload_n 0, 1) := by decide +kernel
theorem dX3_copyFrom_1 : decode cX3_copyFrom 1 = .ok (.aload_n 1, 1) := by decide +kernel
theorem dX3_copyFrom_2 : decode cX3_copyFrom 2 = .ok (.getfield 9, 3) := by decide +kernel
theorem dX3_copyFrom_5 : decode cX3_copyFrom 5 = .ok (.putfield 9, 3) := by decide +kernel
theorem dX3_copyFrom_8 : decode cX3_copyFrom 8 = .ok (.aload_n 0, 1) := by decide +kernel
theorem dX3_copyFrom_9 : decode cX3_copyFrom 9 = .ok (.getfield 20, 3) := by decide +kernel
theorem dX3_copyFrom_12 : decode cX3_copyFrom 12 = .ok (.aload_n 1, 1) := by decide +kernel
theorem dX3_copyFrom_13 : decode cX3_copyFrom 13 = .ok (.getfield 20, 3) := by decide +kernel
theorem dX3_copyFrom_16 : decode cX3_copyFrom 16 = .ok (.invokevirtual 40, 3) := by decide +kernel
theorem dX3_copyFrom_19 : decode cX3_copyFrom 19 = .ok (.aload_n 0, 1) := by decide +kernel
theorem dX3_copyFrom_20 : decode cX3_copyFrom 20 = .ok (.getfield 24, 3) := by decide +kernel
theorem dX3_copyFrom_23 : decode cX3_copyFrom 23 = .ok (.aload_n 1, 1) := by decide +kernel
theorem dX3_copyFrom_24 : decode cX3_copyFrom 24 = .ok (.getfield 24, 3) := by decide +kernel
theorem dX3_copyFrom_27 : decode cX3_copyFrom 27 = .ok (.invokevirtual 40, 3) := by decide +kernel
theorem dX3_copyFrom_30 : decode cX3_copyFrom 30 = .ok (.aload_n 0, 1) := by decide +kernel
theorem dX3_copyFrom_31 : decode cX3_copyFrom 31 = .ok (.getfield 27, 3) := by decide +kernel
theorem dX3_copyFrom_34 : decode cX3_copyFrom 34 = .ok (.aload_n 1, 1) := by decide +kernel
theorem dX3_copyFrom_35 : decode cX3_copyFrom 35 = .ok (.getfield 27, 3) := by decide +kernel
theorem dX3_copyFrom_38 : decode cX3_copyFrom 38 = .ok (.invokevirtual 40, 3) := by decide +kernel
theorem dX3_copyFrom_41 : decode cX3_copyFrom 41 = .ok (.aload_n 0, 1) := by decide +kernel
theorem dX3_copyFrom_42 : decode cX3_copyFrom 42 = .ok (.getfield 30, 3) := by decide +kernel
theorem dX3_copyFrom_45 : decode cX3_copyFrom 45 = .ok (.aload_n 1, 1) := by decide +kernel
theorem dX3_copyFrom_46 : decode cX3_copyFrom 46 = .ok (.getfield 30, 3) := by decide +kernel
theorem dX3_copyFrom_49 : decode cX3_copyFrom 49 = .ok (.invokevirtual 40, 3) := by decide +kernel
theorem dX3_copyFrom_52 : decode cX3_copyFrom 52 = .ok (.return_, 1) := by decide +kernel
theorem dX3_mudIn_0 : decode cX3_mudIn 0 = .ok (.aload_n 0, 1) := by decide +kernel
theorem dX3_mudIn_1 : decode cX3_mudIn 1 = .ok (.getfield 33, 3) := by decide +kernel
theorem dX3_mudIn_4 : decode cX3_mudIn 4 = .ok (.aload_n 0, 1) := by decide +kernel
theorem dX3_mudIn_5 : decode cX3_mudIn 5 = .ok (.getfield 9, 3) := by decide +kernel
theorem dX3_mudIn_8 : decode cX3_mudIn 8 = .ok (.iload_n 1, 1) := by decide +kernel
theorem dX3_mudIn_9 : decode cX3_mudIn 9 = .ok (.iadd, 1) := by decide +kernel
theorem dX3_mudIn_10 : decode cX3_mudIn 10 = .ok (.invokevirtual 44, 3) := by decide +kernel
theorem dX3_mudIn_13 : decode cX3_mudIn 13 = .ok (.ireturn, 1) := by decide +kernel
theorem dX3_menAt_0 : decode cX3_menAt 0 = .ok (.iload_n 1, 1) := by decide +kernel
theorem dX3_menAt_1 : decode cX3_menAt 1 = .ok (.ifCond .lt 14, 3) := by decide +kernel
theorem dX3_menAt_4 : decode cX3_menAt 4 = .ok (.iload_n 1, 1) := by decide +kernel
theorem dX3_menAt_5 : decode cX3_menAt 5 = .ok (.aload_n 0, 1) := by decide +kernel
theorem dX3_menAt_6 : decode cX3_menAt 6 = .ok (.getfield 33, 3) := by decide +kernel
theorem dX3_menAt_9 : decode cX3_menAt 9 = .ok (.getfield 50, 3) := by decide +kernel
theorem dX3_menAt_12 : decode cX3_menAt 12 = .ok (.if_icmp .lt 5, 3) := by decide +kernel
theorem dX3_menAt_15 : decode cX3_menAt 15 = .ok (.iconst 0, 1) := by decide +kernel
theorem dX3_menAt_16 : decode cX3_menAt 16 = .ok (.ireturn, 1) := by decide +kernel
theorem dX3_menAt_17 : decode cX3_menAt 17 = .ok (.aload_n 0, 1) := by decide +kernel
theorem dX3_menAt_18 : decode cX3_menAt 18 = .ok (.getfield 30, 3) := by decide +kernel
theorem dX3_menAt_21 : decode cX3_menAt 21 = .ok (.iload_n 1, 1) := by decide +kernel
theorem dX3_menAt_22 : decode cX3_menAt 22 = .ok (.iload_n 2, 1) := by decide +kernel
theorem dX3_menAt_23 : decode cX3_menAt 23 = .ok (.iadd, 1) := by decide +kernel
theorem dX3_menAt_24 : decode cX3_menAt 24 = .ok (.aload_n 0, 1) := by decide +kernel
theorem dX3_menAt_25 : decode cX3_menAt 25 = .ok (.getfield 33, 3) := by decide +kernel
theorem dX3_menAt_28 : decode cX3_menAt 28 = .ok (.getfield 50, 3) := by decide +kernel
theorem dX3_menAt_31 : decode cX3_menAt 31 = .ok (.irem, 1) := by decide +kernel
theorem dX3_menAt_32 : decode cX3_menAt 32 = .ok (.invokevirtual 52, 3) := by decide +kernel
theorem dX3_menAt_35 : decode cX3_menAt 35 = .ok (.ireturn, 1) := by decide +kernel
theorem dX3_besideAt_0 : decode cX3_besideAt 0 = .ok (.aload_n 0, 1) := by decide +kernel
theorem dX3_besideAt_1 : decode cX3_besideAt 1 = .ok (.iload_n 1, 1) := by decide +kernel
theorem dX3_besideAt_2 : decode cX3_besideAt 2 = .ok (.iconst 1, 1) := by decide +kernel
theorem dX3_besideAt_3 : decode cX3_besideAt 3 = .ok (.isub, 1) := by decide +kernel
theorem dX3_besideAt_4 : decode cX3_besideAt 4 = .ok (.iload_n 2, 1) := by decide +kernel
theorem dX3_besideAt_5 : decode cX3_besideAt 5 = .ok (.invokevirtual 55, 3) := by decide +kernel
theorem dX3_besideAt_8 : decode cX3_besideAt 8 = .ok (.aload_n 0, 1) := by decide +kernel
theorem dX3_besideAt_9 : decode cX3_besideAt 9 = .ok (.iload_n 1, 1) := by decide +kernel
theorem dX3_besideAt_10 : decode cX3_besideAt 10 = .ok (.iconst 1, 1) := by decide +kernel
theorem dX3_besideAt_11 : decode cX3_besideAt 11 = .ok (.iadd, 1) := by decide +kernel
theorem dX3_besideAt_12 : decode cX3_besideAt 12 = .ok (.iload_n 2, 1) := by decide +kernel
theorem dX3_besideAt_13 : decode cX3_besideAt 13 = .ok (.invokevirtual 55, 3) := by decide +kernel
theorem dX3_besideAt_16 : decode cX3_besideAt 16 = .ok (.ior, 1) := by decide +kernel
theorem dX3_besideAt_17 : decode cX3_besideAt 17 = .ok (.ireturn, 1) := by decide +kernel
theorem dX3_heardAt_0 : decode cX3_heardAt 0 = .ok (.aload_n 0, 1) := by decide +kernel
theorem dX3_heardAt_1 : decode cX3_heardAt 1 = .ok (.aload_n 0, 1) := by decide +kernel
theorem dX3_heardAt_2 : decode cX3_heardAt 2 = .ok (.iload_n 1, 1) := by decide +kernel
theorem dX3_heardAt_3 : decode cX3_heardAt 3 = .ok (.iload_n 2, 1) := by decide +kernel
theorem dX3_heardAt_4 : decode cX3_heardAt 4 = .ok (.invokevirtual 55, 3) := by decide +kernel
theorem dX3_heardAt_7 : decode cX3_heardAt 7 = .ok (.aload_n 0, 1) := by decide +kernel
theorem dX3_heardAt_8 : decode cX3_heardAt 8 = .ok (.iload_n 1, 1) := by decide +kernel
theorem dX3_heardAt_9 : decode cX3_heardAt 9 = .ok (.iload_n 2, 1) := by decide +kernel
theorem dX3_heardAt_10 : decode cX3_heardAt 10 = .ok (.invokevirtual 59, 3) := by decide +kernel
theorem dX3_heardAt_13 : decode cX3_heardAt 13 = .ok (.aload_n 0, 1) := by decide +kernel
theorem dX3_heardAt_14 : decode cX3_heardAt 14 = .ok (.iload_n 2, 1) := by decide +kernel
theorem dX3_heardAt_15 : decode cX3_heardAt 15 = .ok (.invokevirtual 62, 3) := by decide +kernel
theorem dX3_heardAt_18 : decode cX3_heardAt 18 = .ok (.invokevirtual 65, 3) := by decide +kernel
theorem dX3_heardAt_21 : decode cX3_heardAt 21 = .ok (.ireturn, 1) := by decide +kernel
theorem dX3_namedAt_0 : decode cX3_namedAt 0 = .ok (.aload_n 0, 1) := by decide +kernel
theorem dX3_namedAt_1 : decode cX3_namedAt 1 = .ok (.aload_n 0, 1) := by decide +kernel
theorem dX3_namedAt_2 : decode cX3_namedAt 2 = .ok (.aload_n 0, 1) := by decide +kernel
theorem dX3_namedAt_3 : decode cX3_namedAt 3 = .ok (.iload_n 1, 1) := by decide +kernel
theorem dX3_namedAt_4 : decode cX3_namedAt 4 = .ok (.iload_n 2, 1) := by decide +kernel
theorem dX3_namedAt_5 : decode cX3_namedAt 5 = .ok (.invokevirtual 55, 3) := by decide +kernel
theorem dX3_namedAt_8 : decode cX3_namedAt 8 = .ok (.aload_n 0, 1) := by decide +kernel
theorem dX3_namedAt_9 : decode cX3_namedAt 9 = .ok (.iload_n 1, 1) := by decide +kernel
theorem dX3_namedAt_10 : decode cX3_namedAt 10 = .ok (.iload_n 2, 1) := by decide +kernel
theorem dX3_namedAt_11 : decode cX3_namedAt 11 = .ok (.invokevirtual 59, 3) := by decide +kernel
theorem dX3_namedAt_14 : decode cX3_namedAt 14 = .ok (.iload_n 3, 1) := by decide +kernel
theorem dX3_namedAt_15 : decode cX3_namedAt 15 = .ok (.invokevirtual 65, 3) := by decide +kernel
theorem dX3_namedAt_18 : decode cX3_namedAt 18 = .ok (.invokevirtual 69, 3) := by decide +kernel
theorem dX3_namedAt_21 : decode cX3_namedAt 21 = .ok (.ireturn, 1) := by decide +kernel
theorem dX3_heard_0 : decode cX3_heard 0 = .ok (.iconst 0, 1) := by decide +kernel
theorem dX3_heard_1 : decode cX3_heard 1 = .ok (.istore 4, 2) := by decide +kernel
theorem dX3_heard_3 : decode cX3_heard 3 = .ok (.iconst 0, 1) := by decide +kernel
theorem dX3_heard_4 : decode cX3_heard 4 = .ok (.istore 5, 2) := by decide +kernel
theorem dX3_heard_6 : decode cX3_heard 6 = .ok (.iconst 0, 1) := by decide +kernel
theorem dX3_heard_7 : decode cX3_heard 7 = .ok (.istore 6, 2) := by decide +kernel
theorem dX3_heard_9 : decode cX3_heard 9 = .ok (.iload 6, 2) := by decide +kernel
theorem dX3_heard_11 : decode cX3_heard 11 = .ok (.aload_n 0, 1) := by decide +kernel
theorem dX3_heard_12 : decode cX3_heard 12 = .ok (.getfield 33, 3) := by decide +kernel
theorem dX3_heard_15 : decode cX3_heard 15 = .ok (.getfield 72, 3) := by decide +kernel
theorem dX3_heard_18 : decode cX3_heard 18 = .ok (.if_icmp .ge 32, 3) := by decide +kernel
theorem dX3_heard_21 : decode cX3_heard 21 = .ok (.aload_n 0, 1) := by decide +kernel
theorem dX3_heard_22 : decode cX3_heard 22 = .ok (.iload 6, 2) := by decide +kernel
theorem dX3_heard_24 : decode cX3_heard 24 = .ok (.iload_n 1, 1) := by decide +kernel
theorem dX3_heard_25 : decode cX3_heard 25 = .ok (.iload_n 2, 1) := by decide +kernel
theorem dX3_heard_26 : decode cX3_heard 26 = .ok (.iload_n 3, 1) := by decide +kernel
theorem dX3_heard_27 : decode cX3_heard 27 = .ok (.iload 5, 2) := by decide +kernel
theorem dX3_heard_29 : decode cX3_heard 29 = .ok (.invokevirtual 75, 3) := by decide +kernel
theorem dX3_heard_32 : decode cX3_heard 32 = .ok (.istore 5, 2) := by decide +kernel
theorem dX3_heard_34 : decode cX3_heard 34 = .ok (.iload 4, 2) := by decide +kernel
theorem dX3_heard_36 : decode cX3_heard 36 = .ok (.iload 5, 2) := by decide +kernel
theorem dX3_heard_38 : decode cX3_heard 38 = .ok (.iload 6, 2) := by decide +kernel
theorem dX3_heard_40 : decode cX3_heard 40 = .ok (.ishl, 1) := by decide +kernel
theorem dX3_heard_41 : decode cX3_heard 41 = .ok (.ior, 1) := by decide +kernel
theorem dX3_heard_42 : decode cX3_heard 42 = .ok (.istore 4, 2) := by decide +kernel
theorem dX3_heard_44 : decode cX3_heard 44 = .ok (.iinc 6 1, 3) := by decide +kernel
theorem dX3_heard_47 : decode cX3_heard 47 = .ok (.goto (-38), 3) := by decide +kernel
theorem dX3_heard_50 : decode cX3_heard 50 = .ok (.iload 4, 2) := by decide +kernel
theorem dX3_heard_52 : decode cX3_heard 52 = .ok (.ireturn, 1) := by decide +kernel
theorem dX3_hearsBeat_0 : decode cX3_hearsBeat 0 = .ok (.aload_n 0, 1) := by decide +kernel
theorem dX3_hearsBeat_1 : decode cX3_hearsBeat 1 = .ok (.iload_n 1, 1) := by decide +kernel
theorem dX3_hearsBeat_2 : decode cX3_hearsBeat 2 = .ok (.iload_n 2, 1) := by decide +kernel
theorem dX3_hearsBeat_3 : decode cX3_hearsBeat 3 = .ok (.invokevirtual 79, 3) := by decide +kernel
theorem dX3_hearsBeat_6 : decode cX3_hearsBeat 6 = .ok (.istore 6, 2) := by decide +kernel
theorem dX3_hearsBeat_8 : decode cX3_hearsBeat 8 = .ok (.aload_n 0, 1) := by decide +kernel
theorem dX3_hearsBeat_9 : decode cX3_hearsBeat 9 = .ok (.getfield 33, 3) := by decide +kernel
theorem dX3_hearsBeat_12 : decode cX3_hearsBeat 12 = .ok (.getfield 82, 3) := by decide +kernel
theorem dX3_hearsBeat_15 : decode cX3_hearsBeat 15 = .ok (.astore 7, 2) := by decide +kernel
theorem dX3_hearsBeat_17 : decode cX3_hearsBeat 17 = .ok (.aload 7, 2) := by decide +kernel
theorem dX3_hearsBeat_19 : decode cX3_hearsBeat 19 = .ok (.getfield 86, 3) := by decide +kernel
theorem dX3_hearsBeat_22 : decode cX3_hearsBeat 22 = .ok (.ifCond .ne 16, 3) := by decide +kernel
theorem dX3_hearsBeat_25 : decode cX3_hearsBeat 25 = .ok (.iload 6, 2) := by decide +kernel
theorem dX3_hearsBeat_27 : decode cX3_hearsBeat 27 = .ok (.iload 4, 2) := by decide +kernel
theorem dX3_hearsBeat_29 : decode cX3_hearsBeat 29 = .ok (.if_icmp .le 7, 3) := by decide +kernel
theorem dX3_hearsBeat_32 : decode cX3_hearsBeat 32 = .ok (.iconst 1, 1) := by decide +kernel
theorem dX3_hearsBeat_33 : decode cX3_hearsBeat 33 = .ok (.goto 4, 3) := by decide +kernel
theorem dX3_hearsBeat_36 : decode cX3_hearsBeat 36 = .ok (.iconst 0, 1) := by decide +kernel
theorem dX3_hearsBeat_37 : decode cX3_hearsBeat 37 = .ok (.ireturn, 1) := by decide +kernel
theorem dX3_hearsBeat_38 : decode cX3_hearsBeat 38 = .ok (.aload 7, 2) := by decide +kernel
theorem dX3_hearsBeat_40 : decode cX3_hearsBeat 40 = .ok (.iconst (-1), 1) := by decide +kernel
theorem dX3_hearsBeat_41 : decode cX3_hearsBeat 41 = .ok (.iload 6, 2) := by decide +kernel
theorem dX3_hearsBeat_43 : decode cX3_hearsBeat 43 = .ok (.invokevirtual 91, 3) := by decide +kernel
theorem dX3_hearsBeat_46 : decode cX3_hearsBeat 46 = .ok (.aload 7, 2) := by decide +kernel
theorem dX3_hearsBeat_48 : decode cX3_hearsBeat 48 = .ok (.bipush (-2), 2) := by decide +kernel
theorem dX3_hearsBeat_50 : decode cX3_hearsBeat 50 = .ok (.aload_n 0, 1) := by decide +kernel
theorem dX3_hearsBeat_51 : decode cX3_hearsBeat 51 = .ok (.iload_n 1, 1) := by decide +kernel
theorem dX3_hearsBeat_52 : decode cX3_hearsBeat 52 = .ok (.iload_n 3, 1) := by decide +kernel
theorem dX3_hearsBeat_53 : decode cX3_hearsBeat 53 = .ok (.invokevirtual 79, 3) := by decide +kernel
theorem dX3_hearsBeat_56 : decode cX3_hearsBeat 56 = .ok (.invokevirtual 91, 3) := by decide +kernel
theorem dX3_hearsBeat_59 : decode cX3_hearsBeat 59 = .ok (.aload 7, 2) := by decide +kernel
theorem dX3_hearsBeat_61 : decode cX3_hearsBeat 61 = .ok (.bipush (-3), 2) := by decide +kernel
theorem dX3_hearsBeat_63 : decode cX3_hearsBeat 63 = .ok (.iload 4, 2) := by decide +kernel
theorem dX3_hearsBeat_65 : decode cX3_hearsBeat 65 = .ok (.invokevirtual 91, 3) := by decide +kernel
theorem dX3_hearsBeat_68 : decode cX3_hearsBeat 68 = .ok (.aload 7, 2) := by decide +kernel
theorem dX3_hearsBeat_70 : decode cX3_hearsBeat 70 = .ok (.bipush (-4), 2) := by decide +kernel
theorem dX3_hearsBeat_72 : decode cX3_hearsBeat 72 = .ok (.iload_n 1, 1) := by decide +kernel
theorem dX3_hearsBeat_73 : decode cX3_hearsBeat 73 = .ok (.invokevirtual 91, 3) := by decide +kernel
theorem dX3_hearsBeat_76 : decode cX3_hearsBeat 76 = .ok (.aload 7, 2) := by decide +kernel
theorem dX3_hearsBeat_78 : decode cX3_hearsBeat 78 = .ok (.bipush (-5), 2) := by decide +kernel
theorem dX3_hearsBeat_80 : decode cX3_hearsBeat 80 = .ok (.iload_n 2, 1) := by decide +kernel
theorem dX3_hearsBeat_81 : decode cX3_hearsBeat 81 = .ok (.invokestatic 95, 3) := by decide +kernel
theorem dX3_hearsBeat_84 : decode cX3_hearsBeat 84 = .ok (.invokevirtual 91, 3) := by decide +kernel
theorem dX3_hearsBeat_87 : decode cX3_hearsBeat 87 = .ok (.aload 7, 2) := by decide +kernel
theorem dX3_hearsBeat_89 : decode cX3_hearsBeat 89 = .ok (.bipush (-6), 2) := by decide +kernel
theorem dX3_hearsBeat_91 : decode cX3_hearsBeat 91 = .ok (.iload 5, 2) := by decide +kernel
theorem dX3_hearsBeat_93 : decode cX3_hearsBeat 93 = .ok (.invokevirtual 91, 3) := by decide +kernel
theorem dX3_hearsBeat_96 : decode cX3_hearsBeat 96 = .ok (.aload 7, 2) := by decide +kernel
theorem dX3_hearsBeat_98 : decode cX3_hearsBeat 98 = .ok (.invokevirtual 100, 3) := by decide +kernel
theorem dX3_hearsBeat_101 : decode cX3_hearsBeat 101 = .ok (.ifCond .le 7, 3) := by decide +kernel
theorem dX3_hearsBeat_104 : decode cX3_hearsBeat 104 = .ok (.iconst 1, 1) := by decide +kernel
theorem dX3_hearsBeat_105 : decode cX3_hearsBeat 105 = .ok (.goto 4, 3) := by decide +kernel
theorem dX3_hearsBeat_108 : decode cX3_hearsBeat 108 = .ok (.iconst 0, 1) := by decide +kernel
theorem dX3_hearsBeat_109 : decode cX3_hearsBeat 109 = .ok (.ireturn, 1) := by decide +kernel
theorem dX3_loudAt_0 : decode cX3_loudAt 0 = .ok (.iconst 0, 1) := by decide +kernel
theorem dX3_loudAt_1 : decode cX3_loudAt 1 = .ok (.istore_n 3, 1) := by decide +kernel
theorem dX3_loudAt_2 : decode cX3_loudAt 2 = .ok (.iconst 0, 1) := by decide +kernel
theorem dX3_loudAt_3 : decode cX3_loudAt 3 = .ok (.istore 4, 2) := by decide +kernel
theorem dX3_loudAt_5 : decode cX3_loudAt 5 = .ok (.iload 4, 2) := by decide +kernel
theorem dX3_loudAt_7 : decode cX3_loudAt 7 = .ok (.aload_n 0, 1) := by decide +kernel
theorem dX3_loudAt_8 : decode cX3_loudAt 8 = .ok (.getfield 33, 3) := by decide +kernel
theorem dX3_loudAt_11 : decode cX3_loudAt 11 = .ok (.getfield 104, 3) := by decide +kernel
theorem dX3_loudAt_14 : decode cX3_loudAt 14 = .ok (.if_icmp .ge 46, 3) := by decide +kernel
theorem dX3_loudAt_17 : decode cX3_loudAt 17 = .ok (.iload_n 2, 1) := by decide +kernel
theorem dX3_loudAt_18 : decode cX3_loudAt 18 = .ok (.iload 4, 2) := by decide +kernel
theorem dX3_loudAt_20 : decode cX3_loudAt 20 = .ok (.invokestatic 107, 3) := by decide +kernel
theorem dX3_loudAt_23 : decode cX3_loudAt 23 = .ok (.ifCond .eq 31, 3) := by decide +kernel
theorem dX3_loudAt_26 : decode cX3_loudAt 26 = .ok (.aload_n 0, 1) := by decide +kernel
theorem dX3_loudAt_27 : decode cX3_loudAt 27 = .ok (.getfield 20, 3) := by decide +kernel
theorem dX3_loudAt_30 : decode cX3_loudAt 30 = .ok (.iload 4, 2) := by decide +kernel
theorem dX3_loudAt_32 : decode cX3_loudAt 32 = .ok (.invokevirtual 52, 3) := by decide +kernel
theorem dX3_loudAt_35 : decode cX3_loudAt 35 = .ok (.iload_n 1, 1) := by decide +kernel
theorem dX3_loudAt_36 : decode cX3_loudAt 36 = .ok (.invokestatic 107, 3) := by decide +kernel
theorem dX3_loudAt_39 : decode cX3_loudAt 39 = .ok (.ifCond .eq 15, 3) := by decide +kernel
theorem dX3_loudAt_42 : decode cX3_loudAt 42 = .ok (.iload_n 3, 1) := by decide +kernel
theorem dX3_loudAt_43 : decode cX3_loudAt 43 = .ok (.aload_n 0, 1) := by decide +kernel
theorem dX3_loudAt_44 : decode cX3_loudAt 44 = .ok (.getfield 24, 3) := by decide +kernel
theorem dX3_loudAt_47 : decode cX3_loudAt 47 = .ok (.iload 4, 2) := by decide +kernel
theorem dX3_loudAt_49 : decode cX3_loudAt 49 = .ok (.invokevirtual 52, 3) := by decide +kernel
theorem dX3_loudAt_52 : decode cX3_loudAt 52 = .ok (.iadd, 1) := by decide +kernel
theorem dX3_loudAt_53 : decode cX3_loudAt 53 = .ok (.istore_n 3, 1) := by decide +kernel
theorem dX3_loudAt_54 : decode cX3_loudAt 54 = .ok (.iinc 4 1, 3) := by decide +kernel
theorem dX3_loudAt_57 : decode cX3_loudAt 57 = .ok (.goto (-52), 3) := by decide +kernel
theorem dX3_loudAt_60 : decode cX3_loudAt 60 = .ok (.iload_n 3, 1) := by decide +kernel
theorem dX3_loudAt_61 : decode cX3_loudAt 61 = .ok (.ireturn, 1) := by decide +kernel
theorem dX3_namedBy_0 : decode cX3_namedBy 0 = .ok (.iconst (-1), 1) := by decide +kernel
theorem dX3_namedBy_1 : decode cX3_namedBy 1 = .ok (.istore_n 2, 1) := by decide +kernel
theorem dX3_namedBy_2 : decode cX3_namedBy 2 = .ok (.aload_n 0, 1) := by decide +kernel
theorem dX3_namedBy_3 : decode cX3_namedBy 3 = .ok (.getfield 33, 3) := by decide +kernel
theorem dX3_namedBy_6 : decode cX3_namedBy 6 = .ok (.getfield 111, 3) := by decide +kernel
theorem dX3_namedBy_9 : decode cX3_namedBy 9 = .ok (.iconst 1, 1) := by decide +kernel
theorem dX3_namedBy_10 : decode cX3_namedBy 10 = .ok (.iadd, 1) := by decide +kernel
theorem dX3_namedBy_11 : decode cX3_namedBy 11 = .ok (.istore_n 3, 1) := by decide +kernel
theorem dX3_namedBy_12 : decode cX3_namedBy 12 = .ok (.iconst 0, 1) := by decide +kernel
theorem dX3_namedBy_13 : decode cX3_namedBy 13 = .ok (.istore 4, 2) := by decide +kernel
theorem dX3_namedBy_15 : decode cX3_namedBy 15 = .ok (.iload 4, 2) := by decide +kernel
theorem dX3_namedBy_17 : decode cX3_namedBy 17 = .ok (.aload_n 0, 1) := by decide +kernel
theorem dX3_namedBy_18 : decode cX3_namedBy 18 = .ok (.getfield 33, 3) := by decide +kernel
theorem dX3_namedBy_21 : decode cX3_namedBy 21 = .ok (.getfield 104, 3) := by decide +kernel
theorem dX3_namedBy_24 : decode cX3_namedBy 24 = .ok (.if_icmp .ge 37, 3) := by decide +kernel
theorem dX3_namedBy_27 : decode cX3_namedBy 27 = .ok (.aload_n 0, 1) := by decide +kernel
theorem dX3_namedBy_28 : decode cX3_namedBy 28 = .ok (.getfield 20, 3) := by decide +kernel
theorem dX3_namedBy_31 : decode cX3_namedBy 31 = .ok (.iload 4, 2) := by decide +kernel
theorem dX3_namedBy_33 : decode cX3_namedBy 33 = .ok (.invokevirtual 52, 3) := by decide +kernel
theorem dX3_namedBy_36 : decode cX3_namedBy 36 = .ok (.iload_n 1, 1) := by decide +kernel
theorem dX3_namedBy_37 : decode cX3_namedBy 37 = .ok (.ixor, 1) := by decide +kernel
theorem dX3_namedBy_38 : decode cX3_namedBy 38 = .ok (.invokestatic 95, 3) := by decide +kernel
theorem dX3_namedBy_41 : decode cX3_namedBy 41 = .ok (.istore 5, 2) := by decide +kernel
theorem dX3_namedBy_43 : decode cX3_namedBy 43 = .ok (.iload 5, 2) := by decide +kernel
theorem dX3_namedBy_45 : decode cX3_namedBy 45 = .ok (.iload_n 3, 1) := by decide +kernel
theorem dX3_namedBy_46 : decode cX3_namedBy 46 = .ok (.if_icmp .ge 9, 3) := by decide +kernel
theorem dX3_namedBy_49 : decode cX3_namedBy 49 = .ok (.iload 5, 2) := by decide +kernel
theorem dX3_namedBy_51 : decode cX3_namedBy 51 = .ok (.istore_n 3, 1) := by decide +kernel
theorem dX3_namedBy_52 : decode cX3_namedBy 52 = .ok (.iload 4, 2) := by decide +kernel
theorem dX3_namedBy_54 : decode cX3_namedBy 54 = .ok (.istore_n 2, 1) := by decide +kernel
theorem dX3_namedBy_55 : decode cX3_namedBy 55 = .ok (.iinc 4 1, 3) := by decide +kernel
theorem dX3_namedBy_58 : decode cX3_namedBy 58 = .ok (.goto (-43), 3) := by decide +kernel
theorem dX3_namedBy_61 : decode cX3_namedBy 61 = .ok (.iload_n 2, 1) := by decide +kernel
theorem dX3_namedBy_62 : decode cX3_namedBy 62 = .ok (.ireturn, 1) := by decide +kernel
theorem dX3_timesNamed_0 : decode cX3_timesNamed 0 = .ok (.iconst 0, 1) := by decide +kernel
theorem dX3_timesNamed_1 : decode cX3_timesNamed 1 = .ok (.istore 4, 2) := by decide +kernel
theorem dX3_timesNamed_3 : decode cX3_timesNamed 3 = .ok (.iconst 0, 1) := by decide +kernel
theorem dX3_timesNamed_4 : decode cX3_timesNamed 4 = .ok (.istore 5, 2) := by decide +kernel
theorem dX3_timesNamed_6 : decode cX3_timesNamed 6 = .ok (.iload 5, 2) := by decide +kernel
theorem dX3_timesNamed_8 : decode cX3_timesNamed 8 = .ok (.aload_n 0, 1) := by decide +kernel
theorem dX3_timesNamed_9 : decode cX3_timesNamed 9 = .ok (.getfield 33, 3) := by decide +kernel
theorem dX3_timesNamed_12 : decode cX3_timesNamed 12 = .ok (.getfield 50, 3) := by decide +kernel
theorem dX3_timesNamed_15 : decode cX3_timesNamed 15 = .ok (.if_icmp .ge 24, 3) := by decide +kernel
theorem dX3_timesNamed_18 : decode cX3_timesNamed 18 = .ok (.aload_n 0, 1) := by decide +kernel
theorem dX3_timesNamed_19 : decode cX3_timesNamed 19 = .ok (.iload 5, 2) := by decide +kernel
theorem dX3_timesNamed_21 : decode cX3_timesNamed 21 = .ok (.iload_n 2, 1) := by decide +kernel
theorem dX3_timesNamed_22 : decode cX3_timesNamed 22 = .ok (.iload_n 3, 1) := by decide +kernel
theorem dX3_timesNamed_23 : decode cX3_timesNamed 23 = .ok (.invokevirtual 114, 3) := by decide +kernel
theorem dX3_timesNamed_26 : decode cX3_timesNamed 26 = .ok (.iload_n 1, 1) := by decide +kernel
theorem dX3_timesNamed_27 : decode cX3_timesNamed 27 = .ok (.if_icmp .ne 6, 3) := by decide +kernel
theorem dX3_timesNamed_30 : decode cX3_timesNamed 30 = .ok (.iinc 4 1, 3) := by decide +kernel
theorem dX3_timesNamed_33 : decode cX3_timesNamed 33 = .ok (.iinc 5 1, 3) := by decide +kernel
theorem dX3_timesNamed_36 : decode cX3_timesNamed 36 = .ok (.goto (-30), 3) := by decide +kernel
theorem dX3_timesNamed_39 : decode cX3_timesNamed 39 = .ok (.iload 4, 2) := by decide +kernel
theorem dX3_timesNamed_41 : decode cX3_timesNamed 41 = .ok (.ireturn, 1) := by decide +kernel
theorem dX3_namedBits_0 : decode cX3_namedBits 0 = .ok (.aload_n 0, 1) := by decide +kernel
theorem dX3_namedBits_1 : decode cX3_namedBits 1 = .ok (.iload_n 1, 1) := by decide +kernel
theorem dX3_namedBits_2 : decode cX3_namedBits 2 = .ok (.invokevirtual 62, 3) := by decide +kernel
theorem dX3_namedBits_5 : decode cX3_namedBits 5 = .ok (.istore_n 2, 1) := by decide +kernel
theorem dX3_namedBits_6 : decode cX3_namedBits 6 = .ok (.iconst 0, 1) := by decide +kernel
theorem dX3_namedBits_7 : decode cX3_namedBits 7 = .ok (.istore_n 3, 1) := by decide +kernel
theorem dX3_namedBits_8 : decode cX3_namedBits 8 = .ok (.iconst 0, 1) := by decide +kernel
theorem dX3_namedBits_9 : decode cX3_namedBits 9 = .ok (.istore 4, 2) := by decide +kernel
theorem dX3_namedBits_11 : decode cX3_namedBits 11 = .ok (.iload 4, 2) := by decide +kernel
theorem dX3_namedBits_13 : decode cX3_namedBits 13 = .ok (.aload_n 0, 1) := by decide +kernel
theorem dX3_namedBits_14 : decode cX3_namedBits 14 = .ok (.getfield 33, 3) := by decide +kernel
theorem dX3_namedBits_17 : decode cX3_namedBits 17 = .ok (.getfield 50, 3) := by decide +kernel
theorem dX3_namedBits_20 : decode cX3_namedBits 20 = .ok (.if_icmp .ge 32, 3) := by decide +kernel
theorem dX3_namedBits_23 : decode cX3_namedBits 23 = .ok (.aload_n 0, 1) := by decide +kernel
theorem dX3_namedBits_24 : decode cX3_namedBits 24 = .ok (.iload 4, 2) := by decide +kernel
theorem dX3_namedBits_26 : decode cX3_namedBits 26 = .ok (.iload_n 1, 1) := by decide +kernel
theorem dX3_namedBits_27 : decode cX3_namedBits 27 = .ok (.iload_n 2, 1) := by decide +kernel
theorem dX3_namedBits_28 : decode cX3_namedBits 28 = .ok (.invokevirtual 114, 3) := by decide +kernel
theorem dX3_namedBits_31 : decode cX3_namedBits 31 = .ok (.istore 5, 2) := by decide +kernel
theorem dX3_namedBits_33 : decode cX3_namedBits 33 = .ok (.iload 5, 2) := by decide +kernel
theorem dX3_namedBits_35 : decode cX3_namedBits 35 = .ok (.iconst (-1), 1) := by decide +kernel
theorem dX3_namedBits_36 : decode cX3_namedBits 36 = .ok (.if_icmp .eq 10, 3) := by decide +kernel
theorem dX3_namedBits_39 : decode cX3_namedBits 39 = .ok (.iload_n 3, 1) := by decide +kernel
theorem dX3_namedBits_40 : decode cX3_namedBits 40 = .ok (.iconst 1, 1) := by decide +kernel
theorem dX3_namedBits_41 : decode cX3_namedBits 41 = .ok (.iload 5, 2) := by decide +kernel
theorem dX3_namedBits_43 : decode cX3_namedBits 43 = .ok (.ishl, 1) := by decide +kernel
theorem dX3_namedBits_44 : decode cX3_namedBits 44 = .ok (.ior, 1) := by decide +kernel
theorem dX3_namedBits_45 : decode cX3_namedBits 45 = .ok (.istore_n 3, 1) := by decide +kernel
theorem dX3_namedBits_46 : decode cX3_namedBits 46 = .ok (.iinc 4 1, 3) := by decide +kernel
theorem dX3_namedBits_49 : decode cX3_namedBits 49 = .ok (.goto (-38), 3) := by decide +kernel
theorem dX3_namedBits_52 : decode cX3_namedBits 52 = .ok (.iload_n 3, 1) := by decide +kernel
theorem dX3_namedBits_53 : decode cX3_namedBits 53 = .ok (.ireturn, 1) := by decide +kernel
theorem dX3_rightRows_0 : decode cX3_rightRows 0 = .ok (.aload_n 0, 1) := by decide +kernel
theorem dX3_rightRows_1 : decode cX3_rightRows 1 = .ok (.iload_n 1, 1) := by decide +kernel
theorem dX3_rightRows_2 : decode cX3_rightRows 2 = .ok (.invokevirtual 62, 3) := by decide +kernel
theorem dX3_rightRows_5 : decode cX3_rightRows 5 = .ok (.istore_n 2, 1) := by decide +kernel
theorem dX3_rightRows_6 : decode cX3_rightRows 6 = .ok (.iconst 0, 1) := by decide +kernel
theorem dX3_rightRows_7 : decode cX3_rightRows 7 = .ok (.istore_n 3, 1) := by decide +kernel
theorem dX3_rightRows_8 : decode cX3_rightRows 8 = .ok (.iconst 0, 1) := by decide +kernel
theorem dX3_rightRows_9 : decode cX3_rightRows 9 = .ok (.istore 4, 2) := by decide +kernel
theorem dX3_rightRows_11 : decode cX3_rightRows 11 = .ok (.iload 4, 2) := by decide +kernel
theorem dX3_rightRows_13 : decode cX3_rightRows 13 = .ok (.aload_n 0, 1) := by decide +kernel
theorem dX3_rightRows_14 : decode cX3_rightRows 14 = .ok (.getfield 33, 3) := by decide +kernel
theorem dX3_rightRows_17 : decode cX3_rightRows 17 = .ok (.getfield 50, 3) := by decide +kernel
theorem dX3_rightRows_20 : decode cX3_rightRows 20 = .ok (.if_icmp .ge 43, 3) := by decide +kernel
theorem dX3_rightRows_23 : decode cX3_rightRows 23 = .ok (.aload_n 0, 1) := by decide +kernel
theorem dX3_rightRows_24 : decode cX3_rightRows 24 = .ok (.iload 4, 2) := by decide +kernel
theorem dX3_rightRows_26 : decode cX3_rightRows 26 = .ok (.iload_n 1, 1) := by decide +kernel
theorem dX3_rightRows_27 : decode cX3_rightRows 27 = .ok (.iload_n 2, 1) := by decide +kernel
theorem dX3_rightRows_28 : decode cX3_rightRows 28 = .ok (.invokevirtual 114, 3) := by decide +kernel
theorem dX3_rightRows_31 : decode cX3_rightRows 31 = .ok (.istore 5, 2) := by decide +kernel
theorem dX3_rightRows_33 : decode cX3_rightRows 33 = .ok (.iload 5, 2) := by decide +kernel
theorem dX3_rightRows_35 : decode cX3_rightRows 35 = .ok (.iconst (-1), 1) := by decide +kernel
theorem dX3_rightRows_36 : decode cX3_rightRows 36 = .ok (.if_icmp .eq 21, 3) := by decide +kernel
theorem dX3_rightRows_39 : decode cX3_rightRows 39 = .ok (.aload_n 0, 1) := by decide +kernel
theorem dX3_rightRows_40 : decode cX3_rightRows 40 = .ok (.iload 4, 2) := by decide +kernel
theorem dX3_rightRows_42 : decode cX3_rightRows 42 = .ok (.iload_n 1, 1) := by decide +kernel
theorem dX3_rightRows_43 : decode cX3_rightRows 43 = .ok (.invokevirtual 55, 3) := by decide +kernel
theorem dX3_rightRows_46 : decode cX3_rightRows 46 = .ok (.iload 5, 2) := by decide +kernel
theorem dX3_rightRows_48 : decode cX3_rightRows 48 = .ok (.invokestatic 107, 3) := by decide +kernel
theorem dX3_rightRows_51 : decode cX3_rightRows 51 = .ok (.ifCond .eq 6, 3) := by decide +kernel
theorem dX3_rightRows_54 : decode cX3_rightRows 54 = .ok (.iinc 3 1, 3) := by decide +kernel
theorem dX3_rightRows_57 : decode cX3_rightRows 57 = .ok (.iinc 4 1, 3) := by decide +kernel
theorem dX3_rightRows_60 : decode cX3_rightRows 60 = .ok (.goto (-49), 3) := by decide +kernel
theorem dX3_rightRows_63 : decode cX3_rightRows 63 = .ok (.iload_n 3, 1) := by decide +kernel
theorem dX3_rightRows_64 : decode cX3_rightRows 64 = .ok (.ireturn, 1) := by decide +kernel
theorem dX3_parade_0 : decode cX3_parade 0 = .ok (.iconst 0, 1) := by decide +kernel
theorem dX3_parade_1 : decode cX3_parade 1 = .ok (.istore_n 3, 1) := by decide +kernel
theorem dX3_parade_2 : decode cX3_parade 2 = .ok (.iconst 0, 1) := by decide +kernel
theorem dX3_parade_3 : decode cX3_parade 3 = .ok (.istore 4, 2) := by decide +kernel
theorem dX3_parade_5 : decode cX3_parade 5 = .ok (.iload 4, 2) := by decide +kernel
theorem dX3_parade_7 : decode cX3_parade 7 = .ok (.aload_n 0, 1) := by decide +kernel
theorem dX3_parade_8 : decode cX3_parade 8 = .ok (.getfield 33, 3) := by decide +kernel
theorem dX3_parade_11 : decode cX3_parade 11 = .ok (.getfield 50, 3) := by decide +kernel
theorem dX3_parade_14 : decode cX3_parade 14 = .ok (.if_icmp .ge 73, 3) := by decide +kernel
theorem dX3_parade_17 : decode cX3_parade 17 = .ok (.aload_n 0, 1) := by decide +kernel
theorem dX3_parade_18 : decode cX3_parade 18 = .ok (.iload 4, 2) := by decide +kernel
theorem dX3_parade_20 : decode cX3_parade 20 = .ok (.iload_n 1, 1) := by decide +kernel
theorem dX3_parade_21 : decode cX3_parade 21 = .ok (.iload_n 2, 1) := by decide +kernel
theorem dX3_parade_22 : decode cX3_parade 22 = .ok (.invokevirtual 114, 3) := by decide +kernel
theorem dX3_parade_25 : decode cX3_parade 25 = .ok (.istore 5, 2) := by decide +kernel
theorem dX3_parade_27 : decode cX3_parade 27 = .ok (.iload 5, 2) := by decide +kernel
theorem dX3_parade_29 : decode cX3_parade 29 = .ok (.iconst (-1), 1) := by decide +kernel
theorem dX3_parade_30 : decode cX3_parade 30 = .ok (.if_icmp .eq 51, 3) := by decide +kernel
theorem dX3_parade_33 : decode cX3_parade 33 = .ok (.aload_n 0, 1) := by decide +kernel
theorem dX3_parade_34 : decode cX3_parade 34 = .ok (.getfield 27, 3) := by decide +kernel
theorem dX3_parade_37 : decode cX3_parade 37 = .ok (.iload 5, 2) := by decide +kernel
theorem dX3_parade_39 : decode cX3_parade 39 = .ok (.bipush 99, 2) := by decide +kernel
theorem dX3_parade_41 : decode cX3_parade 41 = .ok (.aload_n 0, 1) := by decide +kernel
theorem dX3_parade_42 : decode cX3_parade 42 = .ok (.getfield 27, 3) := by decide +kernel
theorem dX3_parade_45 : decode cX3_parade 45 = .ok (.iload 5, 2) := by decide +kernel
theorem dX3_parade_47 : decode cX3_parade 47 = .ok (.invokevirtual 52, 3) := by decide +kernel
theorem dX3_parade_50 : decode cX3_parade 50 = .ok (.iconst 1, 1) := by decide +kernel
theorem dX3_parade_51 : decode cX3_parade 51 = .ok (.iadd, 1) := by decide +kernel
theorem dX3_parade_52 : decode cX3_parade 52 = .ok (.invokestatic 117, 3) := by decide +kernel
theorem dX3_parade_55 : decode cX3_parade 55 = .ok (.invokevirtual 122, 3) := by decide +kernel
theorem dX3_parade_58 : decode cX3_parade 58 = .ok (.iload_n 3, 1) := by decide +kernel
theorem dX3_parade_59 : decode cX3_parade 59 = .ok (.aload_n 0, 1) := by decide +kernel
theorem dX3_parade_60 : decode cX3_parade 60 = .ok (.iload 4, 2) := by decide +kernel
theorem dX3_parade_62 : decode cX3_parade 62 = .ok (.iload_n 1, 1) := by decide +kernel
theorem dX3_parade_63 : decode cX3_parade 63 = .ok (.invokevirtual 55, 3) := by decide +kernel
theorem dX3_parade_66 : decode cX3_parade 66 = .ok (.iload 5, 2) := by decide +kernel
theorem dX3_parade_68 : decode cX3_parade 68 = .ok (.invokestatic 107, 3) := by decide +kernel
theorem dX3_parade_71 : decode cX3_parade 71 = .ok (.ifCond .eq 7, 3) := by decide +kernel
theorem dX3_parade_74 : decode cX3_parade 74 = .ok (.iconst 0, 1) := by decide +kernel
theorem dX3_parade_75 : decode cX3_parade 75 = .ok (.goto 4, 3) := by decide +kernel
theorem dX3_parade_78 : decode cX3_parade 78 = .ok (.iconst 1, 1) := by decide +kernel
theorem dX3_parade_79 : decode cX3_parade 79 = .ok (.iadd, 1) := by decide +kernel
theorem dX3_parade_80 : decode cX3_parade 80 = .ok (.istore_n 3, 1) := by decide +kernel
theorem dX3_parade_81 : decode cX3_parade 81 = .ok (.iinc 4 1, 3) := by decide +kernel
theorem dX3_parade_84 : decode cX3_parade 84 = .ok (.goto (-79), 3) := by decide +kernel
theorem dX3_parade_87 : decode cX3_parade 87 = .ok (.iload_n 3, 1) := by decide +kernel
theorem dX3_parade_88 : decode cX3_parade 88 = .ok (.ireturn, 1) := by decide +kernel
theorem dX3_goBy_0 : decode cX3_goBy 0 = .ok (.aload_n 0, 1) := by decide +kernel
theorem dX3_goBy_1 : decode cX3_goBy 1 = .ok (.iconst 0, 1) := by decide +kernel
theorem dX3_goBy_2 : decode cX3_goBy 2 = .ok (.aload_n 0, 1) := by decide +kernel
theorem dX3_goBy_3 : decode cX3_goBy 3 = .ok (.iconst 0, 1) := by decide +kernel
theorem dX3_goBy_4 : decode cX3_goBy 4 = .ok (.invokevirtual 62, 3) := by decide +kernel
theorem dX3_goBy_7 : decode cX3_goBy 7 = .ok (.invokevirtual 125, 3) := by decide +kernel
theorem dX3_goBy_10 : decode cX3_goBy 10 = .ok (.pop, 1) := by decide +kernel
theorem dX3_goBy_11 : decode cX3_goBy 11 = .ok (.aload_n 0, 1) := by decide +kernel
theorem dX3_goBy_12 : decode cX3_goBy 12 = .ok (.getfield 30, 3) := by decide +kernel
theorem dX3_goBy_15 : decode cX3_goBy 15 = .ok (.iconst 0, 1) := by decide +kernel
theorem dX3_goBy_16 : decode cX3_goBy 16 = .ok (.invokevirtual 52, 3) := by decide +kernel
theorem dX3_goBy_19 : decode cX3_goBy 19 = .ok (.istore_n 1, 1) := by decide +kernel
theorem dX3_goBy_20 : decode cX3_goBy 20 = .ok (.iconst 1, 1) := by decide +kernel
theorem dX3_goBy_21 : decode cX3_goBy 21 = .ok (.istore_n 2, 1) := by decide +kernel
theorem dX3_goBy_22 : decode cX3_goBy 22 = .ok (.iload_n 2, 1) := by decide +kernel
theorem dX3_goBy_23 : decode cX3_goBy 23 = .ok (.aload_n 0, 1) := by decide +kernel
theorem dX3_goBy_24 : decode cX3_goBy 24 = .ok (.getfield 33, 3) := by decide +kernel
theorem dX3_goBy_27 : decode cX3_goBy 27 = .ok (.getfield 50, 3) := by decide +kernel
theorem dX3_goBy_30 : decode cX3_goBy 30 = .ok (.if_icmp .ge 27, 3) := by decide +kernel
theorem dX3_goBy_33 : decode cX3_goBy 33 = .ok (.aload_n 0, 1) := by decide +kernel
theorem dX3_goBy_34 : decode cX3_goBy 34 = .ok (.getfield 30, 3) := by decide +kernel
theorem dX3_goBy_37 : decode cX3_goBy 37 = .ok (.iload_n 2, 1) := by decide +kernel
theorem dX3_goBy_38 : decode cX3_goBy 38 = .ok (.iconst 1, 1) := by decide +kernel
theorem dX3_goBy_39 : decode cX3_goBy 39 = .ok (.isub, 1) := by decide +kernel
theorem dX3_goBy_40 : decode cX3_goBy 40 = .ok (.aload_n 0, 1) := by decide +kernel
theorem dX3_goBy_41 : decode cX3_goBy 41 = .ok (.getfield 30, 3) := by decide +kernel
theorem dX3_goBy_44 : decode cX3_goBy 44 = .ok (.iload_n 2, 1) := by decide +kernel
theorem dX3_goBy_45 : decode cX3_goBy 45 = .ok (.invokevirtual 52, 3) := by decide +kernel
theorem dX3_goBy_48 : decode cX3_goBy 48 = .ok (.invokevirtual 122, 3) := by decide +kernel
theorem dX3_goBy_51 : decode cX3_goBy 51 = .ok (.iinc 2 1, 3) := by decide +kernel
theorem dX3_goBy_54 : decode cX3_goBy 54 = .ok (.goto (-32), 3) := by decide +kernel
theorem dX3_goBy_57 : decode cX3_goBy 57 = .ok (.aload_n 0, 1) := by decide +kernel
theorem dX3_goBy_58 : decode cX3_goBy 58 = .ok (.getfield 30, 3) := by decide +kernel
theorem dX3_goBy_61 : decode cX3_goBy 61 = .ok (.aload_n 0, 1) := by decide +kernel
theorem dX3_goBy_62 : decode cX3_goBy 62 = .ok (.getfield 33, 3) := by decide +kernel
theorem dX3_goBy_65 : decode cX3_goBy 65 = .ok (.getfield 50, 3) := by decide +kernel
theorem dX3_goBy_68 : decode cX3_goBy 68 = .ok (.iconst 1, 1) := by decide +kernel
theorem dX3_goBy_69 : decode cX3_goBy 69 = .ok (.isub, 1) := by decide +kernel
theorem dX3_goBy_70 : decode cX3_goBy 70 = .ok (.iload_n 1, 1) := by decide +kernel
theorem dX3_goBy_71 : decode cX3_goBy 71 = .ok (.invokevirtual 122, 3) := by decide +kernel
theorem dX3_goBy_74 : decode cX3_goBy 74 = .ok (.aload_n 0, 1) := by decide +kernel
theorem dX3_goBy_75 : decode cX3_goBy 75 = .ok (.dup, 1) := by decide +kernel
theorem dX3_goBy_76 : decode cX3_goBy 76 = .ok (.getfield 9, 3) := by decide +kernel
theorem dX3_goBy_79 : decode cX3_goBy 79 = .ok (.iconst 1, 1) := by decide +kernel
theorem dX3_goBy_80 : decode cX3_goBy 80 = .ok (.iadd, 1) := by decide +kernel
theorem dX3_goBy_81 : decode cX3_goBy 81 = .ok (.putfield 9, 3) := by decide +kernel
theorem dX3_goBy_84 : decode cX3_goBy 84 = .ok (.return_, 1) := by decide +kernel
theorem dX3_goBack_0 : decode cX3_goBack 0 = .ok (.aload_n 0, 1) := by decide +kernel
theorem dX3_goBack_1 : decode cX3_goBack 1 = .ok (.getfield 30, 3) := by decide +kernel
theorem dX3_goBack_4 : decode cX3_goBack 4 = .ok (.aload_n 0, 1) := by decide +kernel
theorem dX3_goBack_5 : decode cX3_goBack 5 = .ok (.getfield 33, 3) := by decide +kernel
theorem dX3_goBack_8 : decode cX3_goBack 8 = .ok (.getfield 50, 3) := by decide +kernel
theorem dX3_goBack_11 : decode cX3_goBack 11 = .ok (.iconst 1, 1) := by decide +kernel
theorem dX3_goBack_12 : decode cX3_goBack 12 = .ok (.isub, 1) := by decide +kernel
theorem dX3_goBack_13 : decode cX3_goBack 13 = .ok (.invokevirtual 52, 3) := by decide +kernel
theorem dX3_goBack_16 : decode cX3_goBack 16 = .ok (.istore_n 1, 1) := by decide +kernel
theorem dX3_goBack_17 : decode cX3_goBack 17 = .ok (.aload_n 0, 1) := by decide +kernel
theorem dX3_goBack_18 : decode cX3_goBack 18 = .ok (.getfield 33, 3) := by decide +kernel
theorem dX3_goBack_21 : decode cX3_goBack 21 = .ok (.getfield 50, 3) := by decide +kernel
theorem dX3_goBack_24 : decode cX3_goBack 24 = .ok (.iconst 1, 1) := by decide +kernel
theorem dX3_goBack_25 : decode cX3_goBack 25 = .ok (.isub, 1) := by decide +kernel
theorem dX3_goBack_26 : decode cX3_goBack 26 = .ok (.istore_n 2, 1) := by decide +kernel
theorem dX3_goBack_27 : decode cX3_goBack 27 = .ok (.iload_n 2, 1) := by decide +kernel
theorem dX3_goBack_28 : decode cX3_goBack 28 = .ok (.ifCond .le 27, 3) := by decide +kernel
theorem dX3_goBack_31 : decode cX3_goBack 31 = .ok (.aload_n 0, 1) := by decide +kernel
theorem dX3_goBack_32 : decode cX3_goBack 32 = .ok (.getfield 30, 3) := by decide +kernel
theorem dX3_goBack_35 : decode cX3_goBack 35 = .ok (.iload_n 2, 1) := by decide +kernel
theorem dX3_goBack_36 : decode cX3_goBack 36 = .ok (.aload_n 0, 1) := by decide +kernel
theorem dX3_goBack_37 : decode cX3_goBack 37 = .ok (.getfield 30, 3) := by decide +kernel
theorem dX3_goBack_40 : decode cX3_goBack 40 = .ok (.iload_n 2, 1) := by decide +kernel
theorem dX3_goBack_41 : decode cX3_goBack 41 = .ok (.iconst 1, 1) := by decide +kernel
theorem dX3_goBack_42 : decode cX3_goBack 42 = .ok (.isub, 1) := by decide +kernel
theorem dX3_goBack_43 : decode cX3_goBack 43 = .ok (.invokevirtual 52, 3) := by decide +kernel
theorem dX3_goBack_46 : decode cX3_goBack 46 = .ok (.invokevirtual 122, 3) := by decide +kernel
theorem dX3_goBack_49 : decode cX3_goBack 49 = .ok (.iinc 2 (-1), 3) := by decide +kernel
theorem dX3_goBack_52 : decode cX3_goBack 52 = .ok (.goto (-25), 3) := by decide +kernel
theorem dX3_goBack_55 : decode cX3_goBack 55 = .ok (.aload_n 0, 1) := by decide +kernel
theorem dX3_goBack_56 : decode cX3_goBack 56 = .ok (.getfield 33, 3) := by decide +kernel
theorem dX3_goBack_59 : decode cX3_goBack 59 = .ok (.getfield 50, 3) := by decide +kernel
theorem dX3_goBack_62 : decode cX3_goBack 62 = .ok (.ifCond .le 12, 3) := by decide +kernel
theorem dX3_goBack_65 : decode cX3_goBack 65 = .ok (.aload_n 0, 1) := by decide +kernel
theorem dX3_goBack_66 : decode cX3_goBack 66 = .ok (.getfield 30, 3) := by decide +kernel
theorem dX3_goBack_69 : decode cX3_goBack 69 = .ok (.iconst 0, 1) := by decide +kernel
theorem dX3_goBack_70 : decode cX3_goBack 70 = .ok (.iload_n 1, 1) := by decide +kernel
theorem dX3_goBack_71 : decode cX3_goBack 71 = .ok (.invokevirtual 122, 3) := by decide +kernel
theorem dX3_goBack_74 : decode cX3_goBack 74 = .ok (.aload_n 0, 1) := by decide +kernel
theorem dX3_goBack_75 : decode cX3_goBack 75 = .ok (.dup, 1) := by decide +kernel
theorem dX3_goBack_76 : decode cX3_goBack 76 = .ok (.getfield 9, 3) := by decide +kernel
theorem dX3_goBack_79 : decode cX3_goBack 79 = .ok (.iconst 1, 1) := by decide +kernel
theorem dX3_goBack_80 : decode cX3_goBack 80 = .ok (.isub, 1) := by decide +kernel
theorem dX3_goBack_81 : decode cX3_goBack 81 = .ok (.putfield 9, 3) := by decide +kernel
theorem dX3_goBack_84 : decode cX3_goBack 84 = .ok (.return_, 1) := by decide +kernel
theorem dX3_honourAfter_0 : decode cX3_honourAfter 0 = .ok (.aload_n 0, 1) := by decide +kernel
theorem dX3_honourAfter_1 : decode cX3_honourAfter 1 = .ok (.getfield 27, 3) := by decide +kernel
theorem dX3_honourAfter_4 : decode cX3_honourAfter 4 = .ok (.iload_n 1, 1) := by decide +kernel
theorem dX3_honourAfter_5 : decode cX3_honourAfter 5 = .ok (.invokevirtual 52, 3) := by decide +kernel
theorem dX3_honourAfter_8 : decode cX3_honourAfter 8 = .ok (.istore_n 3, 1) := by decide +kernel
theorem dX3_honourAfter_9 : decode cX3_honourAfter 9 = .ok (.iconst 0, 1) := by decide +kernel
theorem dX3_honourAfter_10 : decode cX3_honourAfter 10 = .ok (.istore 4, 2) := by decide +kernel
theorem dX3_honourAfter_12 : decode cX3_honourAfter 12 = .ok (.iload 4, 2) := by decide +kernel
theorem dX3_honourAfter_14 : decode cX3_honourAfter 14 = .ok (.iload_n 2, 1) := by decide +kernel
theorem dX3_honourAfter_15 : decode cX3_honourAfter 15 = .ok (.if_icmp .ge 25, 3) := by decide +kernel
theorem dX3_honourAfter_18 : decode cX3_honourAfter 18 = .ok (.iload_n 3, 1) := by decide +kernel
theorem dX3_honourAfter_19 : decode cX3_honourAfter 19 = .ok (.aload_n 0, 1) := by decide +kernel
theorem dX3_honourAfter_20 : decode cX3_honourAfter 20 = .ok (.iload_n 1, 1) := by decide +kernel
theorem dX3_honourAfter_21 : decode cX3_honourAfter 21 = .ok (.iload 4, 2) := by decide +kernel
theorem dX3_honourAfter_23 : decode cX3_honourAfter 23 = .ok (.aload_n 0, 1) := by decide +kernel
theorem dX3_honourAfter_24 : decode cX3_honourAfter 24 = .ok (.iload 4, 2) := by decide +kernel
theorem dX3_honourAfter_26 : decode cX3_honourAfter 26 = .ok (.invokevirtual 62, 3) := by decide +kernel
theorem dX3_honourAfter_29 : decode cX3_honourAfter 29 = .ok (.invokevirtual 128, 3) := by decide +kernel
theorem dX3_honourAfter_32 : decode cX3_honourAfter 32 = .ok (.iadd, 1) := by decide +kernel
theorem dX3_honourAfter_33 : decode cX3_honourAfter 33 = .ok (.istore_n 3, 1) := by decide +kernel
theorem dX3_honourAfter_34 : decode cX3_honourAfter 34 = .ok (.iinc 4 1, 3) := by decide +kernel
theorem dX3_honourAfter_37 : decode cX3_honourAfter 37 = .ok (.goto (-25), 3) := by decide +kernel
theorem dX3_honourAfter_40 : decode cX3_honourAfter 40 = .ok (.bipush 99, 2) := by decide +kernel
theorem dX3_honourAfter_42 : decode cX3_honourAfter 42 = .ok (.iload_n 3, 1) := by decide +kernel
theorem dX3_honourAfter_43 : decode cX3_honourAfter 43 = .ok (.invokestatic 117, 3) := by decide +kernel
theorem dX3_honourAfter_46 : decode cX3_honourAfter 46 = .ok (.ireturn, 1) := by decide +kernel
theorem dX3_honourOfAll_0 : decode cX3_honourOfAll 0 = .ok (.iconst 0, 1) := by decide +kernel
theorem dX3_honourOfAll_1 : decode cX3_honourOfAll 1 = .ok (.istore_n 1, 1) := by decide +kernel
theorem dX3_honourOfAll_2 : decode cX3_honourOfAll 2 = .ok (.iconst 0, 1) := by decide +kernel
theorem dX3_honourOfAll_3 : decode cX3_honourOfAll 3 = .ok (.istore_n 2, 1) := by decide +kernel
theorem dX3_honourOfAll_4 : decode cX3_honourOfAll 4 = .ok (.iload_n 2, 1) := by decide +kernel
theorem dX3_honourOfAll_5 : decode cX3_honourOfAll 5 = .ok (.aload_n 0, 1) := by decide +kernel
theorem dX3_honourOfAll_6 : decode cX3_honourOfAll 6 = .ok (.getfield 33, 3) := by decide +kernel
theorem dX3_honourOfAll_9 : decode cX3_honourOfAll 9 = .ok (.getfield 104, 3) := by decide +kernel
theorem dX3_honourOfAll_12 : decode cX3_honourOfAll 12 = .ok (.if_icmp .ge 20, 3) := by decide +kernel
theorem dX3_honourOfAll_15 : decode cX3_honourOfAll 15 = .ok (.iload_n 1, 1) := by decide +kernel
theorem dX3_honourOfAll_16 : decode cX3_honourOfAll 16 = .ok (.aload_n 0, 1) := by decide +kernel
theorem dX3_honourOfAll_17 : decode cX3_honourOfAll 17 = .ok (.getfield 27, 3) := by decide +kernel
theorem dX3_honourOfAll_20 : decode cX3_honourOfAll 20 = .ok (.iload_n 2, 1) := by decide +kernel
theorem dX3_honourOfAll_21 : decode cX3_honourOfAll 21 = .ok (.invokevirtual 52, 3) := by decide +kernel
theorem dX3_honourOfAll_24 : decode cX3_honourOfAll 24 = .ok (.iadd, 1) := by decide +kernel
theorem dX3_honourOfAll_25 : decode cX3_honourOfAll 25 = .ok (.istore_n 1, 1) := by decide +kernel
theorem dX3_honourOfAll_26 : decode cX3_honourOfAll 26 = .ok (.iinc 2 1, 3) := by decide +kernel
theorem dX3_honourOfAll_29 : decode cX3_honourOfAll 29 = .ok (.goto (-25), 3) := by decide +kernel
theorem dX3_honourOfAll_32 : decode cX3_honourOfAll 32 = .ok (.iload_n 1, 1) := by decide +kernel
theorem dX3_honourOfAll_33 : decode cX3_honourOfAll 33 = .ok (.ireturn, 1) := by decide +kernel
theorem dX3_mostHonoured_0 : decode cX3_mostHonoured 0 = .ok (.iconst (-1), 1) := by decide +kernel
theorem dX3_mostHonoured_1 : decode cX3_mostHonoured 1 = .ok (.istore_n 1, 1) := by decide +kernel
theorem dX3_mostHonoured_2 : decode cX3_mostHonoured 2 = .ok (.iconst (-1), 1) := by decide +kernel
theorem dX3_mostHonoured_3 : decode cX3_mostHonoured 3 = .ok (.istore_n 2, 1) := by decide +kernel
theorem dX3_mostHonoured_4 : decode cX3_mostHonoured 4 = .ok (.iconst 0, 1) := by decide +kernel
theorem dX3_mostHonoured_5 : decode cX3_mostHonoured 5 = .ok (.istore_n 3, 1) := by decide +kernel
theorem dX3_mostHonoured_6 : decode cX3_mostHonoured 6 = .ok (.iload_n 3, 1) := by decide +kernel
theorem dX3_mostHonoured_7 : decode cX3_mostHonoured 7 = .ok (.aload_n 0, 1) := by decide +kernel
theorem dX3_mostHonoured_8 : decode cX3_mostHonoured 8 = .ok (.getfield 33, 3) := by decide +kernel
theorem dX3_mostHonoured_11 : decode cX3_mostHonoured 11 = .ok (.getfield 104, 3) := by decide +kernel
theorem dX3_mostHonoured_14 : decode cX3_mostHonoured 14 = .ok (.if_icmp .ge 32, 3) := by decide +kernel
theorem dX3_mostHonoured_17 : decode cX3_mostHonoured 17 = .ok (.aload_n 0, 1) := by decide +kernel
theorem dX3_mostHonoured_18 : decode cX3_mostHonoured 18 = .ok (.getfield 27, 3) := by decide +kernel
theorem dX3_mostHonoured_21 : decode cX3_mostHonoured 21 = .ok (.iload_n 3, 1) := by decide +kernel
theorem dX3_mostHonoured_22 : decode cX3_mostHonoured 22 = .ok (.invokevirtual 52, 3) := by decide +kernel
theorem dX3_mostHonoured_25 : decode cX3_mostHonoured 25 = .ok (.iload_n 2, 1) := by decide +kernel
theorem dX3_mostHonoured_26 : decode cX3_mostHonoured 26 = .ok (.if_icmp .le 14, 3) := by decide +kernel
theorem dX3_mostHonoured_29 : decode cX3_mostHonoured 29 = .ok (.aload_n 0, 1) := by decide +kernel
theorem dX3_mostHonoured_30 : decode cX3_mostHonoured 30 = .ok (.getfield 27, 3) := by decide +kernel
theorem dX3_mostHonoured_33 : decode cX3_mostHonoured 33 = .ok (.iload_n 3, 1) := by decide +kernel
theorem dX3_mostHonoured_34 : decode cX3_mostHonoured 34 = .ok (.invokevirtual 52, 3) := by decide +kernel
theorem dX3_mostHonoured_37 : decode cX3_mostHonoured 37 = .ok (.istore_n 2, 1) := by decide +kernel
theorem dX3_mostHonoured_38 : decode cX3_mostHonoured 38 = .ok (.iload_n 3, 1) := by decide +kernel
theorem dX3_mostHonoured_39 : decode cX3_mostHonoured 39 = .ok (.istore_n 1, 1) := by decide +kernel
theorem dX3_mostHonoured_40 : decode cX3_mostHonoured 40 = .ok (.iinc 3 1, 3) := by decide +kernel
theorem dX3_mostHonoured_43 : decode cX3_mostHonoured 43 = .ok (.goto (-37), 3) := by decide +kernel
theorem dX3_mostHonoured_46 : decode cX3_mostHonoured 46 = .ok (.iload_n 1, 1) := by decide +kernel
theorem dX3_mostHonoured_47 : decode cX3_mostHonoured 47 = .ok (.ireturn, 1) := by decide +kernel
theorem dX3_rowOf_0 : decode cX3_rowOf 0 = .ok (.iconst 0, 1) := by decide +kernel
theorem dX3_rowOf_1 : decode cX3_rowOf 1 = .ok (.istore_n 2, 1) := by decide +kernel
theorem dX3_rowOf_2 : decode cX3_rowOf 2 = .ok (.iload_n 2, 1) := by decide +kernel
theorem dX3_rowOf_3 : decode cX3_rowOf 3 = .ok (.aload_n 0, 1) := by decide +kernel
theorem dX3_rowOf_4 : decode cX3_rowOf 4 = .ok (.getfield 33, 3) := by decide +kernel
theorem dX3_rowOf_7 : decode cX3_rowOf 7 = .ok (.getfield 50, 3) := by decide +kernel
theorem dX3_rowOf_10 : decode cX3_rowOf 10 = .ok (.if_icmp .ge 26, 3) := by decide +kernel
theorem dX3_rowOf_13 : decode cX3_rowOf 13 = .ok (.aload_n 0, 1) := by decide +kernel
theorem dX3_rowOf_14 : decode cX3_rowOf 14 = .ok (.getfield 30, 3) := by decide +kernel
theorem dX3_rowOf_17 : decode cX3_rowOf 17 = .ok (.iload_n 2, 1) := by decide +kernel
theorem dX3_rowOf_18 : decode cX3_rowOf 18 = .ok (.invokevirtual 52, 3) := by decide +kernel
theorem dX3_rowOf_21 : decode cX3_rowOf 21 = .ok (.iload_n 1, 1) := by decide +kernel
theorem dX3_rowOf_22 : decode cX3_rowOf 22 = .ok (.invokestatic 107, 3) := by decide +kernel
theorem dX3_rowOf_25 : decode cX3_rowOf 25 = .ok (.ifCond .eq 5, 3) := by decide +kernel
theorem dX3_rowOf_28 : decode cX3_rowOf 28 = .ok (.iload_n 2, 1) := by decide +kernel
theorem dX3_rowOf_29 : decode cX3_rowOf 29 = .ok (.ireturn, 1) := by decide +kernel
theorem dX3_rowOf_30 : decode cX3_rowOf 30 = .ok (.iinc 2 1, 3) := by decide +kernel
theorem dX3_rowOf_33 : decode cX3_rowOf 33 = .ok (.goto (-31), 3) := by decide +kernel
theorem dX3_rowOf_36 : decode cX3_rowOf 36 = .ok (.iconst (-1), 1) := by decide +kernel
theorem dX3_rowOf_37 : decode cX3_rowOf 37 = .ok (.ireturn, 1) := by decide +kernel
theorem dX3_menInCamp_0 : decode cX3_menInCamp 0 = .ok (.aload_n 0, 1) := by decide +kernel
theorem dX3_menInCamp_1 : decode cX3_menInCamp 1 = .ok (.getfield 33, 3) := by decide +kernel
theorem dX3_menInCamp_4 : decode cX3_menInCamp 4 = .ok (.invokevirtual 131, 3) := by decide +kernel
theorem dX3_menInCamp_7 : decode cX3_menInCamp 7 = .ok (.istore_n 1, 1) := by decide +kernel
theorem dX3_menInCamp_8 : decode cX3_menInCamp 8 = .ok (.iconst 0, 1) := by decide +kernel
theorem dX3_menInCamp_9 : decode cX3_menInCamp 9 = .ok (.istore_n 2, 1) := by decide +kernel
theorem dX3_menInCamp_10 : decode cX3_menInCamp 10 = .ok (.iload_n 2, 1) := by decide +kernel
theorem dX3_menInCamp_11 : decode cX3_menInCamp 11 = .ok (.aload_n 0, 1) := by decide +kernel
theorem dX3_menInCamp_12 : decode cX3_menInCamp 12 = .ok (.getfield 33, 3) := by decide +kernel
theorem dX3_menInCamp_15 : decode cX3_menInCamp 15 = .ok (.getfield 50, 3) := by decide +kernel
theorem dX3_menInCamp_18 : decode cX3_menInCamp 18 = .ok (.if_icmp .ge 22, 3) := by decide +kernel
theorem dX3_menInCamp_21 : decode cX3_menInCamp 21 = .ok (.iload_n 1, 1) := by decide +kernel
theorem dX3_menInCamp_22 : decode cX3_menInCamp 22 = .ok (.aload_n 0, 1) := by decide +kernel
theorem dX3_menInCamp_23 : decode cX3_menInCamp 23 = .ok (.getfield 30, 3) := by decide +kernel
theorem dX3_menInCamp_26 : decode cX3_menInCamp 26 = .ok (.iload_n 2, 1) := by decide +kernel
theorem dX3_menInCamp_27 : decode cX3_menInCamp 27 = .ok (.invokevirtual 52, 3) := by decide +kernel
theorem dX3_menInCamp_30 : decode cX3_menInCamp 30 = .ok (.iconst (-1), 1) := by decide +kernel
theorem dX3_menInCamp_31 : decode cX3_menInCamp 31 = .ok (.ixor, 1) := by decide +kernel
theorem dX3_menInCamp_32 : decode cX3_menInCamp 32 = .ok (.iand, 1) := by decide +kernel
theorem dX3_menInCamp_33 : decode cX3_menInCamp 33 = .ok (.istore_n 1, 1) := by decide +kernel
theorem dX3_menInCamp_34 : decode cX3_menInCamp 34 = .ok (.iinc 2 1, 3) := by decide +kernel
theorem dX3_menInCamp_37 : decode cX3_menInCamp 37 = .ok (.goto (-27), 3) := by decide +kernel
theorem dX3_menInCamp_40 : decode cX3_menInCamp 40 = .ok (.iload_n 1, 1) := by decide +kernel
theorem dX3_menInCamp_41 : decode cX3_menInCamp 41 = .ok (.ireturn, 1) := by decide +kernel
theorem dX3_isFullFor_0 : decode cX3_isFullFor 0 = .ok (.aload_n 0, 1) := by decide +kernel
theorem dX3_isFullFor_1 : decode cX3_isFullFor 1 = .ok (.getfield 30, 3) := by decide +kernel
theorem dX3_isFullFor_4 : decode cX3_isFullFor 4 = .ok (.iload_n 2, 1) := by decide +kernel
theorem dX3_isFullFor_5 : decode cX3_isFullFor 5 = .ok (.invokevirtual 52, 3) := by decide +kernel
theorem dX3_isFullFor_8 : decode cX3_isFullFor 8 = .ok (.iconst 1, 1) := by decide +kernel
theorem dX3_isFullFor_9 : decode cX3_isFullFor 9 = .ok (.iload_n 1, 1) := by decide +kernel
theorem dX3_isFullFor_10 : decode cX3_isFullFor 10 = .ok (.ishl, 1) := by decide +kernel
theorem dX3_isFullFor_11 : decode cX3_isFullFor 11 = .ok (.iconst (-1), 1) := by decide +kernel
theorem dX3_isFullFor_12 : decode cX3_isFullFor 12 = .ok (.ixor, 1) := by decide +kernel
theorem dX3_isFullFor_13 : decode cX3_isFullFor 13 = .ok (.iand, 1) := by decide +kernel
theorem dX3_isFullFor_14 : decode cX3_isFullFor 14 = .ok (.invokestatic 95, 3) := by decide +kernel
theorem dX3_isFullFor_17 : decode cX3_isFullFor 17 = .ok (.iconst 4, 1) := by decide +kernel
theorem dX3_isFullFor_18 : decode cX3_isFullFor 18 = .ok (.if_icmp .lt 7, 3) := by decide +kernel
theorem dX3_isFullFor_21 : decode cX3_isFullFor 21 = .ok (.iconst 1, 1) := by decide +kernel
theorem dX3_isFullFor_22 : decode cX3_isFullFor 22 = .ok (.goto 4, 3) := by decide +kernel
theorem dX3_isFullFor_25 : decode cX3_isFullFor 25 = .ok (.iconst 0, 1) := by decide +kernel
theorem dX3_isFullFor_26 : decode cX3_isFullFor 26 = .ok (.ireturn, 1) := by decide +kernel
theorem dX3_place_0 : decode cX3_place 0 = .ok (.iconst 0, 1) := by decide +kernel
theorem dX3_place_1 : decode cX3_place 1 = .ok (.istore_n 3, 1) := by decide +kernel
theorem dX3_place_2 : decode cX3_place 2 = .ok (.iload_n 3, 1) := by decide +kernel
theorem dX3_place_3 : decode cX3_place 3 = .ok (.aload_n 0, 1) := by decide +kernel
theorem dX3_place_4 : decode cX3_place 4 = .ok (.getfield 33, 3) := by decide +kernel
theorem dX3_place_7 : decode cX3_place 7 = .ok (.getfield 50, 3) := by decide +kernel
theorem dX3_place_10 : decode cX3_place 10 = .ok (.if_icmp .ge 31, 3) := by decide +kernel
theorem dX3_place_13 : decode cX3_place 13 = .ok (.aload_n 0, 1) := by decide +kernel
theorem dX3_place_14 : decode cX3_place 14 = .ok (.getfield 30, 3) := by decide +kernel
theorem dX3_place_17 : decode cX3_place 17 = .ok (.iload_n 3, 1) := by decide +kernel
theorem dX3_place_18 : decode cX3_place 18 = .ok (.aload_n 0, 1) := by decide +kernel
theorem dX3_place_19 : decode cX3_place 19 = .ok (.getfield 30, 3) := by decide +kernel
theorem dX3_place_22 : decode cX3_place 22 = .ok (.iload_n 3, 1) := by decide +kernel
theorem dX3_place_23 : decode cX3_place 23 = .ok (.invokevirtual 52, 3) := by decide +kernel
theorem dX3_place_26 : decode cX3_place 26 = .ok (.iconst 1, 1) := by decide +kernel
theorem dX3_place_27 : decode cX3_place 27 = .ok (.iload_n 1, 1) := by decide +kernel
theorem dX3_place_28 : decode cX3_place 28 = .ok (.ishl, 1) := by decide +kernel
theorem dX3_place_29 : decode cX3_place 29 = .ok (.iconst (-1), 1) := by decide +kernel
theorem dX3_place_30 : decode cX3_place 30 = .ok (.ixor, 1) := by decide +kernel
theorem dX3_place_31 : decode cX3_place 31 = .ok (.iand, 1) := by decide +kernel
theorem dX3_place_32 : decode cX3_place 32 = .ok (.invokevirtual 122, 3) := by decide +kernel
theorem dX3_place_35 : decode cX3_place 35 = .ok (.iinc 3 1, 3) := by decide +kernel
theorem dX3_place_38 : decode cX3_place 38 = .ok (.goto (-36), 3) := by decide +kernel
theorem dX3_place_41 : decode cX3_place 41 = .ok (.iload_n 2, 1) := by decide +kernel
theorem dX3_place_42 : decode cX3_place 42 = .ok (.iconst (-1), 1) := by decide +kernel
theorem dX3_place_43 : decode cX3_place 43 = .ok (.if_icmp .eq 23, 3) := by decide +kernel
theorem dX3_place_46 : decode cX3_place 46 = .ok (.aload_n 0, 1) := by decide +kernel
theorem dX3_place_47 : decode cX3_place 47 = .ok (.getfield 30, 3) := by decide +kernel
theorem dX3_place_50 : decode cX3_place 50 = .ok (.iload_n 2, 1) := by decide +kernel
theorem dX3_place_51 : decode cX3_place 51 = .ok (.aload_n 0, 1) := by decide +kernel
theorem dX3_place_52 : decode cX3_place 52 = .ok (.getfield 30, 3) := by decide +kernel
theorem dX3_place_55 : decode cX3_place 55 = .ok (.iload_n 2, 1) := by decide +kernel
theorem dX3_place_56 : decode cX3_place 56 = .ok (.invokevirtual 52, 3) := by decide +kernel
theorem dX3_place_59 : decode cX3_place 59 = .ok (.iconst 1, 1) := by decide +kernel
theorem dX3_place_60 : decode cX3_place 60 = .ok (.iload_n 1, 1) := by decide +kernel
theorem dX3_place_61 : decode cX3_place 61 = .ok (.ishl, 1) := by decide +kernel
theorem dX3_place_62 : decode cX3_place 62 = .ok (.ior, 1) := by decide +kernel
theorem dX3_place_63 : decode cX3_place 63 = .ok (.invokevirtual 122, 3) := by decide +kernel
theorem dX3_place_66 : decode cX3_place 66 = .ok (.return_, 1) := by decide +kernel
theorem dX3_turnHeel_0 : decode cX3_turnHeel 0 = .ok (.aload_n 0, 1) := by decide +kernel
theorem dX3_turnHeel_1 : decode cX3_turnHeel 1 = .ok (.getfield 20, 3) := by decide +kernel
theorem dX3_turnHeel_4 : decode cX3_turnHeel 4 = .ok (.iload_n 1, 1) := by decide +kernel
theorem dX3_turnHeel_5 : decode cX3_turnHeel 5 = .ok (.aload_n 0, 1) := by decide +kernel
theorem dX3_turnHeel_6 : decode cX3_turnHeel 6 = .ok (.getfield 20, 3) := by decide +kernel
theorem dX3_turnHeel_9 : decode cX3_turnHeel 9 = .ok (.iload_n 1, 1) := by decide +kernel
theorem dX3_turnHeel_10 : decode cX3_turnHeel 10 = .ok (.invokevirtual 52, 3) := by decide +kernel
theorem dX3_turnHeel_13 : decode cX3_turnHeel 13 = .ok (.iconst 1, 1) := by decide +kernel
theorem dX3_turnHeel_14 : decode cX3_turnHeel 14 = .ok (.iload_n 2, 1) := by decide +kernel
theorem dX3_turnHeel_15 : decode cX3_turnHeel 15 = .ok (.ishl, 1) := by decide +kernel
theorem dX3_turnHeel_16 : decode cX3_turnHeel 16 = .ok (.ixor, 1) := by decide +kernel
theorem dX3_turnHeel_17 : decode cX3_turnHeel 17 = .ok (.invokevirtual 122, 3) := by decide +kernel
theorem dX3_turnHeel_20 : decode cX3_turnHeel 20 = .ok (.return_, 1) := by decide +kernel
theorem dX3_exchange_0 : decode cX3_exchange 0 = .ok (.aload_n 0, 1) := by decide +kernel
theorem dX3_exchange_1 : decode cX3_exchange 1 = .ok (.getfield 30, 3) := by decide +kernel
theorem dX3_exchange_4 : decode cX3_exchange 4 = .ok (.iload_n 1, 1) := by decide +kernel
theorem dX3_exchange_5 : decode cX3_exchange 5 = .ok (.invokevirtual 52, 3) := by decide +kernel
theorem dX3_exchange_8 : decode cX3_exchange 8 = .ok (.istore_n 3, 1) := by decide +kernel
theorem dX3_exchange_9 : decode cX3_exchange 9 = .ok (.aload_n 0, 1) := by decide +kernel
theorem dX3_exchange_10 : decode cX3_exchange 10 = .ok (.getfield 30, 3) := by decide +kernel
theorem dX3_exchange_13 : decode cX3_exchange 13 = .ok (.iload_n 1, 1) := by decide +kernel
theorem dX3_exchange_14 : decode cX3_exchange 14 = .ok (.aload_n 0, 1) := by decide +kernel
theorem dX3_exchange_15 : decode cX3_exchange 15 = .ok (.getfield 30, 3) := by decide +kernel
theorem dX3_exchange_18 : decode cX3_exchange 18 = .ok (.iload_n 2, 1) := by decide +kernel
theorem dX3_exchange_19 : decode cX3_exchange 19 = .ok (.invokevirtual 52, 3) := by decide +kernel
theorem dX3_exchange_22 : decode cX3_exchange 22 = .ok (.invokevirtual 122, 3) := by decide +kernel
theorem dX3_exchange_25 : decode cX3_exchange 25 = .ok (.aload_n 0, 1) := by decide +kernel
theorem dX3_exchange_26 : decode cX3_exchange 26 = .ok (.getfield 30, 3) := by decide +kernel
theorem dX3_exchange_29 : decode cX3_exchange 29 = .ok (.iload_n 2, 1) := by decide +kernel
theorem dX3_exchange_30 : decode cX3_exchange 30 = .ok (.iload_n 3, 1) := by decide +kernel
theorem dX3_exchange_31 : decode cX3_exchange 31 = .ok (.invokevirtual 122, 3) := by decide +kernel
theorem dX3_exchange_34 : decode cX3_exchange 34 = .ok (.return_, 1) := by decide +kernel
theorem dX3_couplesInStep_0 : decode cX3_couplesInStep 0 = .ok (.iconst 0, 1) := by decide +kernel
theorem dX3_couplesInStep_1 : decode cX3_couplesInStep 1 = .ok (.istore_n 1, 1) := by decide +kernel
theorem dX3_couplesInStep_2 : decode cX3_couplesInStep 2 = .ok (.iconst 0, 1) := by decide +kernel
theorem dX3_couplesInStep_3 : decode cX3_couplesInStep 3 = .ok (.istore_n 2, 1) := by decide +kernel
theorem dX3_couplesInStep_4 : decode cX3_couplesInStep 4 = .ok (.iload_n 2, 1) := by decide +kernel
theorem dX3_couplesInStep_5 : decode cX3_couplesInStep 5 = .ok (.aload_n 0, 1) := by decide +kernel
theorem dX3_couplesInStep_6 : decode cX3_couplesInStep 6 = .ok (.getfield 33, 3) := by decide +kernel
theorem dX3_couplesInStep_9 : decode cX3_couplesInStep 9 = .ok (.getfield 50, 3) := by decide +kernel
theorem dX3_couplesInStep_12 : decode cX3_couplesInStep 12 = .ok (.if_icmp .ge 58, 3) := by decide +kernel
theorem dX3_couplesInStep_15 : decode cX3_couplesInStep 15 = .ok (.aload_n 0, 1) := by decide +kernel
theorem dX3_couplesInStep_16 : decode cX3_couplesInStep 16 = .ok (.iload_n 2, 1) := by decide +kernel
theorem dX3_couplesInStep_17 : decode cX3_couplesInStep 17 = .ok (.iconst 0, 1) := by decide +kernel
theorem dX3_couplesInStep_18 : decode cX3_couplesInStep 18 = .ok (.invokevirtual 134, 3) := by decide +kernel
theorem dX3_couplesInStep_21 : decode cX3_couplesInStep 21 = .ok (.istore_n 3, 1) := by decide +kernel
theorem dX3_couplesInStep_22 : decode cX3_couplesInStep 22 = .ok (.iload_n 2, 1) := by decide +kernel
theorem dX3_couplesInStep_23 : decode cX3_couplesInStep 23 = .ok (.iconst 1, 1) := by decide +kernel
theorem dX3_couplesInStep_24 : decode cX3_couplesInStep 24 = .ok (.iadd, 1) := by decide +kernel
theorem dX3_couplesInStep_25 : decode cX3_couplesInStep 25 = .ok (.istore 4, 2) := by decide +kernel
theorem dX3_couplesInStep_27 : decode cX3_couplesInStep 27 = .ok (.iload 4, 2) := by decide +kernel
theorem dX3_couplesInStep_29 : decode cX3_couplesInStep 29 = .ok (.aload_n 0, 1) := by decide +kernel
theorem dX3_couplesInStep_30 : decode cX3_couplesInStep 30 = .ok (.getfield 33, 3) := by decide +kernel
theorem dX3_couplesInStep_33 : decode cX3_couplesInStep 33 = .ok (.getfield 50, 3) := by decide +kernel
theorem dX3_couplesInStep_36 : decode cX3_couplesInStep 36 = .ok (.if_icmp .ge 28, 3) := by decide +kernel
theorem dX3_couplesInStep_39 : decode cX3_couplesInStep 39 = .ok (.iload_n 1, 1) := by decide +kernel
theorem dX3_couplesInStep_40 : decode cX3_couplesInStep 40 = .ok (.aload_n 0, 1) := by decide +kernel
theorem dX3_couplesInStep_41 : decode cX3_couplesInStep 41 = .ok (.iload 4, 2) := by decide +kernel
theorem dX3_couplesInStep_43 : decode cX3_couplesInStep 43 = .ok (.iconst 0, 1) := by decide +kernel
theorem dX3_couplesInStep_44 : decode cX3_couplesInStep 44 = .ok (.invokevirtual 134, 3) := by decide +kernel
theorem dX3_couplesInStep_47 : decode cX3_couplesInStep 47 = .ok (.iload_n 3, 1) := by decide +kernel
theorem dX3_couplesInStep_48 : decode cX3_couplesInStep 48 = .ok (.if_icmp .ne 7, 3) := by decide +kernel
theorem dX3_couplesInStep_51 : decode cX3_couplesInStep 51 = .ok (.iconst 1, 1) := by decide +kernel
theorem dX3_couplesInStep_52 : decode cX3_couplesInStep 52 = .ok (.goto 4, 3) := by decide +kernel
theorem dX3_couplesInStep_55 : decode cX3_couplesInStep 55 = .ok (.iconst 0, 1) := by decide +kernel
theorem dX3_couplesInStep_56 : decode cX3_couplesInStep 56 = .ok (.iadd, 1) := by decide +kernel
theorem dX3_couplesInStep_57 : decode cX3_couplesInStep 57 = .ok (.istore_n 1, 1) := by decide +kernel
theorem dX3_couplesInStep_58 : decode cX3_couplesInStep 58 = .ok (.iinc 4 1, 3) := by decide +kernel
theorem dX3_couplesInStep_61 : decode cX3_couplesInStep 61 = .ok (.goto (-34), 3) := by decide +kernel
theorem dX3_couplesInStep_64 : decode cX3_couplesInStep 64 = .ok (.iinc 2 1, 3) := by decide +kernel
theorem dX3_couplesInStep_67 : decode cX3_couplesInStep 67 = .ok (.goto (-63), 3) := by decide +kernel
theorem dX3_couplesInStep_70 : decode cX3_couplesInStep 70 = .ok (.iload_n 1, 1) := by decide +kernel
theorem dX3_couplesInStep_71 : decode cX3_couplesInStep 71 = .ok (.ireturn, 1) := by decide +kernel
theorem dX3_loudTogether_0 : decode cX3_loudTogether 0 = .ok (.iconst 0, 1) := by decide +kernel
theorem dX3_loudTogether_1 : decode cX3_loudTogether 1 = .ok (.istore_n 2, 1) := by decide +kernel
theorem dX3_loudTogether_2 : decode cX3_loudTogether 2 = .ok (.iconst 0, 1) := by decide +kernel
theorem dX3_loudTogether_3 : decode cX3_loudTogether 3 = .ok (.istore_n 3, 1) := by decide +kernel
theorem dX3_loudTogether_4 : decode cX3_loudTogether 4 = .ok (.iload_n 3, 1) := by decide +kernel
theorem dX3_loudTogether_5 : decode cX3_loudTogether 5 = .ok (.aload_n 0, 1) := by decide +kernel
theorem dX3_loudTogether_6 : decode cX3_loudTogether 6 = .ok (.getfield 33, 3) := by decide +kernel
theorem dX3_loudTogether_9 : decode cX3_loudTogether 9 = .ok (.getfield 104, 3) := by decide +kernel
theorem dX3_loudTogether_12 : decode cX3_loudTogether 12 = .ok (.if_icmp .ge 39, 3) := by decide +kernel
theorem dX3_loudTogether_15 : decode cX3_loudTogether 15 = .ok (.iload_n 2, 1) := by decide +kernel
theorem dX3_loudTogether_16 : decode cX3_loudTogether 16 = .ok (.aload_n 0, 1) := by decide +kernel
theorem dX3_loudTogether_17 : decode cX3_loudTogether 17 = .ok (.getfield 30, 3) := by decide +kernel
theorem dX3_loudTogether_20 : decode cX3_loudTogether 20 = .ok (.iload_n 1, 1) := by decide +kernel
theorem dX3_loudTogether_21 : decode cX3_loudTogether 21 = .ok (.invokevirtual 52, 3) := by decide +kernel
theorem dX3_loudTogether_24 : decode cX3_loudTogether 24 = .ok (.iload_n 3, 1) := by decide +kernel
theorem dX3_loudTogether_25 : decode cX3_loudTogether 25 = .ok (.invokestatic 107, 3) := by decide +kernel
theorem dX3_loudTogether_28 : decode cX3_loudTogether 28 = .ok (.ifCond .eq 14, 3) := by decide +kernel
theorem dX3_loudTogether_31 : decode cX3_loudTogether 31 = .ok (.aload_n 0, 1) := by decide +kernel
theorem dX3_loudTogether_32 : decode cX3_loudTogether 32 = .ok (.getfield 24, 3) := by decide +kernel
theorem dX3_loudTogether_35 : decode cX3_loudTogether 35 = .ok (.iload_n 3, 1) := by decide +kernel
theorem dX3_loudTogether_36 : decode cX3_loudTogether 36 = .ok (.invokevirtual 52, 3) := by decide +kernel
theorem dX3_loudTogether_39 : decode cX3_loudTogether 39 = .ok (.goto 4, 3) := by decide +kernel
theorem dX3_loudTogether_42 : decode cX3_loudTogether 42 = .ok (.iconst 0, 1) := by decide +kernel
theorem dX3_loudTogether_43 : decode cX3_loudTogether 43 = .ok (.iadd, 1) := by decide +kernel
theorem dX3_loudTogether_44 : decode cX3_loudTogether 44 = .ok (.istore_n 2, 1) := by decide +kernel
theorem dX3_loudTogether_45 : decode cX3_loudTogether 45 = .ok (.iinc 3 1, 3) := by decide +kernel
theorem dX3_loudTogether_48 : decode cX3_loudTogether 48 = .ok (.goto (-44), 3) := by decide +kernel
theorem dX3_loudTogether_51 : decode cX3_loudTogether 51 = .ok (.iload_n 2, 1) := by decide +kernel
theorem dX3_loudTogether_52 : decode cX3_loudTogether 52 = .ok (.ireturn, 1) := by decide +kernel
theorem dX3_farFrom_0 : decode cX3_farFrom 0 = .ok (.aload_n 0, 1) := by decide +kernel
theorem dX3_farFrom_1 : decode cX3_farFrom 1 = .ok (.getfield 20, 3) := by decide +kernel
theorem dX3_farFrom_4 : decode cX3_farFrom 4 = .ok (.iload_n 1, 1) := by decide +kernel
theorem dX3_farFrom_5 : decode cX3_farFrom 5 = .ok (.invokevirtual 52, 3) := by decide +kernel
theorem dX3_farFrom_8 : decode cX3_farFrom 8 = .ok (.iload_n 2, 1) := by decide +kernel
theorem dX3_farFrom_9 : decode cX3_farFrom 9 = .ok (.ixor, 1) := by decide +kernel
theorem dX3_farFrom_10 : decode cX3_farFrom 10 = .ok (.invokestatic 95, 3) := by decide +kernel
theorem dX3_farFrom_13 : decode cX3_farFrom 13 = .ok (.ireturn, 1) := by decide +kernel
theorem dX3_leastFar_0 : decode cX3_leastFar 0 = .ok (.bipush 13, 2) := by decide +kernel
theorem dX3_leastFar_2 : decode cX3_leastFar 2 = .ok (.istore_n 2, 1) := by decide +kernel
theorem dX3_leastFar_3 : decode cX3_leastFar 3 = .ok (.iconst 0, 1) := by decide +kernel
theorem dX3_leastFar_4 : decode cX3_leastFar 4 = .ok (.istore_n 3, 1) := by decide +kernel
theorem dX3_leastFar_5 : decode cX3_leastFar 5 = .ok (.iload_n 3, 1) := by decide +kernel
theorem dX3_leastFar_6 : decode cX3_leastFar 6 = .ok (.aload_n 0, 1) := by decide +kernel
theorem dX3_leastFar_7 : decode cX3_leastFar 7 = .ok (.getfield 33, 3) := by decide +kernel
theorem dX3_leastFar_10 : decode cX3_leastFar 10 = .ok (.getfield 104, 3) := by decide +kernel
theorem dX3_leastFar_13 : decode cX3_leastFar 13 = .ok (.if_icmp .ge 20, 3) := by decide +kernel
theorem dX3_leastFar_16 : decode cX3_leastFar 16 = .ok (.iload_n 2, 1) := by decide +kernel
theorem dX3_leastFar_17 : decode cX3_leastFar 17 = .ok (.aload_n 0, 1) := by decide +kernel
theorem dX3_leastFar_18 : decode cX3_leastFar 18 = .ok (.iload_n 3, 1) := by decide +kernel
theorem dX3_leastFar_19 : decode cX3_leastFar 19 = .ok (.iload_n 1, 1) := by decide +kernel
theorem dX3_leastFar_20 : decode cX3_leastFar 20 = .ok (.invokevirtual 137, 3) := by decide +kernel
theorem dX3_leastFar_23 : decode cX3_leastFar 23 = .ok (.invokestatic 117, 3) := by decide +kernel
theorem dX3_leastFar_26 : decode cX3_leastFar 26 = .ok (.istore_n 2, 1) := by decide +kernel
theorem dX3_leastFar_27 : decode cX3_leastFar 27 = .ok (.iinc 3 1, 3) := by decide +kernel
theorem dX3_leastFar_30 : decode cX3_leastFar 30 = .ok (.goto (-25), 3) := by decide +kernel
theorem dX3_leastFar_33 : decode cX3_leastFar 33 = .ok (.iload_n 2, 1) := by decide +kernel
theorem dX3_leastFar_34 : decode cX3_leastFar 34 = .ok (.ireturn, 1) := by decide +kernel
theorem dX3_isToldApart_0 : decode cX3_isToldApart 0 = .ok (.iconst 0, 1) := by decide +kernel
theorem dX3_isToldApart_1 : decode cX3_isToldApart 1 = .ok (.istore_n 3, 1) := by decide +kernel
theorem dX3_isToldApart_2 : decode cX3_isToldApart 2 = .ok (.iload_n 3, 1) := by decide +kernel
theorem dX3_isToldApart_3 : decode cX3_isToldApart 3 = .ok (.aload_n 0, 1) := by decide +kernel
theorem dX3_isToldApart_4 : decode cX3_isToldApart 4 = .ok (.getfield 33, 3) := by decide +kernel
theorem dX3_isToldApart_7 : decode cX3_isToldApart 7 = .ok (.getfield 104, 3) := by decide +kernel
theorem dX3_isToldApart_10 : decode cX3_isToldApart 10 = .ok (.if_icmp .ge 69, 3) := by decide +kernel
theorem dX3_isToldApart_13 : decode cX3_isToldApart 13 = .ok (.iload_n 3, 1) := by decide +kernel
theorem dX3_isToldApart_14 : decode cX3_isToldApart 14 = .ok (.iconst 1, 1) := by decide +kernel
theorem dX3_isToldApart_15 : decode cX3_isToldApart 15 = .ok (.iadd, 1) := by decide +kernel
theorem dX3_isToldApart_16 : decode cX3_isToldApart 16 = .ok (.istore 4, 2) := by decide +kernel
theorem dX3_isToldApart_18 : decode cX3_isToldApart 18 = .ok (.iload 4, 2) := by decide +kernel
theorem dX3_isToldApart_20 : decode cX3_isToldApart 20 = .ok (.aload_n 0, 1) := by decide +kernel
theorem dX3_isToldApart_21 : decode cX3_isToldApart 21 = .ok (.getfield 33, 3) := by decide +kernel
theorem dX3_isToldApart_24 : decode cX3_isToldApart 24 = .ok (.getfield 104, 3) := by decide +kernel
theorem dX3_isToldApart_27 : decode cX3_isToldApart 27 = .ok (.if_icmp .ge 46, 3) := by decide +kernel
theorem dX3_isToldApart_30 : decode cX3_isToldApart 30 = .ok (.iload_n 1, 1) := by decide +kernel
theorem dX3_isToldApart_31 : decode cX3_isToldApart 31 = .ok (.iload_n 3, 1) := by decide +kernel
theorem dX3_isToldApart_32 : decode cX3_isToldApart 32 = .ok (.invokestatic 107, 3) := by decide +kernel
theorem dX3_isToldApart_35 : decode cX3_isToldApart 35 = .ok (.ifCond .eq 32, 3) := by decide +kernel
theorem dX3_isToldApart_38 : decode cX3_isToldApart 38 = .ok (.iload_n 1, 1) := by decide +kernel
theorem dX3_isToldApart_39 : decode cX3_isToldApart 39 = .ok (.iload 4, 2) := by decide +kernel
theorem dX3_isToldApart_41 : decode cX3_isToldApart 41 = .ok (.invokestatic 107, 3) := by decide +kernel
theorem dX3_isToldApart_44 : decode cX3_isToldApart 44 = .ok (.ifCond .eq 23, 3) := by decide +kernel
theorem dX3_isToldApart_47 : decode cX3_isToldApart 47 = .ok (.aload_n 0, 1) := by decide +kernel
theorem dX3_isToldApart_48 : decode cX3_isToldApart 48 = .ok (.iload_n 3, 1) := by decide +kernel
theorem dX3_isToldApart_49 : decode cX3_isToldApart 49 = .ok (.aload_n 0, 1) := by decide +kernel
theorem dX3_isToldApart_50 : decode cX3_isToldApart 50 = .ok (.getfield 20, 3) := by decide +kernel
theorem dX3_isToldApart_53 : decode cX3_isToldApart 53 = .ok (.iload 4, 2) := by decide +kernel
theorem dX3_isToldApart_55 : decode cX3_isToldApart 55 = .ok (.invokevirtual 52, 3) := by decide +kernel
theorem dX3_isToldApart_58 : decode cX3_isToldApart 58 = .ok (.invokevirtual 137, 3) := by decide +kernel
theorem dX3_isToldApart_61 : decode cX3_isToldApart 61 = .ok (.iload_n 2, 1) := by decide +kernel
theorem dX3_isToldApart_62 : decode cX3_isToldApart 62 = .ok (.if_icmp .ge 5, 3) := by decide +kernel
theorem dX3_isToldApart_65 : decode cX3_isToldApart 65 = .ok (.iconst 0, 1) := by decide +kernel
theorem dX3_isToldApart_66 : decode cX3_isToldApart 66 = .ok (.ireturn, 1) := by decide +kernel
theorem dX3_isToldApart_67 : decode cX3_isToldApart 67 = .ok (.iinc 4 1, 3) := by decide +kernel
theorem dX3_isToldApart_70 : decode cX3_isToldApart 70 = .ok (.goto (-52), 3) := by decide +kernel
theorem dX3_isToldApart_73 : decode cX3_isToldApart 73 = .ok (.iinc 3 1, 3) := by decide +kernel
theorem dX3_isToldApart_76 : decode cX3_isToldApart 76 = .ok (.goto (-74), 3) := by decide +kernel
theorem dX3_isToldApart_79 : decode cX3_isToldApart 79 = .ok (.iconst 1, 1) := by decide +kernel
theorem dX3_isToldApart_80 : decode cX3_isToldApart 80 = .ok (.ireturn, 1) := by decide +kernel
theorem dX3_treadsTogether_0 : decode cX3_treadsTogether 0 = .ok (.iconst 0, 1) := by decide +kernel
theorem dX3_treadsTogether_1 : decode cX3_treadsTogether 1 = .ok (.istore_n 2, 1) := by decide +kernel
theorem dX3_treadsTogether_2 : decode cX3_treadsTogether 2 = .ok (.iconst 0, 1) := by decide +kernel
theorem dX3_treadsTogether_3 : decode cX3_treadsTogether 3 = .ok (.istore_n 3, 1) := by decide +kernel
theorem dX3_treadsTogether_4 : decode cX3_treadsTogether 4 = .ok (.iload_n 3, 1) := by decide +kernel
theorem dX3_treadsTogether_5 : decode cX3_treadsTogether 5 = .ok (.aload_n 0, 1) := by decide +kernel
theorem dX3_treadsTogether_6 : decode cX3_treadsTogether 6 = .ok (.getfield 33, 3) := by decide +kernel
theorem dX3_treadsTogether_9 : decode cX3_treadsTogether 9 = .ok (.getfield 104, 3) := by decide +kernel
theorem dX3_treadsTogether_12 : decode cX3_treadsTogether 12 = .ok (.if_icmp .ge 32, 3) := by decide +kernel
theorem dX3_treadsTogether_15 : decode cX3_treadsTogether 15 = .ok (.iload_n 2, 1) := by decide +kernel
theorem dX3_treadsTogether_16 : decode cX3_treadsTogether 16 = .ok (.iload_n 1, 1) := by decide +kernel
theorem dX3_treadsTogether_17 : decode cX3_treadsTogether 17 = .ok (.iload_n 3, 1) := by decide +kernel
theorem dX3_treadsTogether_18 : decode cX3_treadsTogether 18 = .ok (.invokestatic 107, 3) := by decide +kernel
theorem dX3_treadsTogether_21 : decode cX3_treadsTogether 21 = .ok (.ifCond .eq 14, 3) := by decide +kernel
theorem dX3_treadsTogether_24 : decode cX3_treadsTogether 24 = .ok (.aload_n 0, 1) := by decide +kernel
theorem dX3_treadsTogether_25 : decode cX3_treadsTogether 25 = .ok (.getfield 20, 3) := by decide +kernel
theorem dX3_treadsTogether_28 : decode cX3_treadsTogether 28 = .ok (.iload_n 3, 1) := by decide +kernel
theorem dX3_treadsTogether_29 : decode cX3_treadsTogether 29 = .ok (.invokevirtual 52, 3) := by decide +kernel
theorem dX3_treadsTogether_32 : decode cX3_treadsTogether 32 = .ok (.goto 4, 3) := by decide +kernel
theorem dX3_treadsTogether_35 : decode cX3_treadsTogether 35 = .ok (.iconst 0, 1) := by decide +kernel
theorem dX3_treadsTogether_36 : decode cX3_treadsTogether 36 = .ok (.ior, 1) := by decide +kernel
theorem dX3_treadsTogether_37 : decode cX3_treadsTogether 37 = .ok (.istore_n 2, 1) := by decide +kernel
theorem dX3_treadsTogether_38 : decode cX3_treadsTogether 38 = .ok (.iinc 3 1, 3) := by decide +kernel
theorem dX3_treadsTogether_41 : decode cX3_treadsTogether 41 = .ok (.goto (-37), 3) := by decide +kernel
theorem dX3_treadsTogether_44 : decode cX3_treadsTogether 44 = .ok (.iload_n 2, 1) := by decide +kernel
theorem dX3_treadsTogether_45 : decode cX3_treadsTogether 45 = .ok (.ireturn, 1) := by decide +kernel
theorem dX3_reachedFrom_0 : decode cX3_reachedFrom 0 = .ok (.iload_n 1, 1) := by decide +kernel
theorem dX3_reachedFrom_1 : decode cX3_reachedFrom 1 = .ok (.istore_n 3, 1) := by decide +kernel
theorem dX3_reachedFrom_2 : decode cX3_reachedFrom 2 = .ok (.iconst 0, 1) := by decide +kernel
theorem dX3_reachedFrom_3 : decode cX3_reachedFrom 3 = .ok (.istore 4, 2) := by decide +kernel
theorem dX3_reachedFrom_5 : decode cX3_reachedFrom 5 = .ok (.iload 4, 2) := by decide +kernel
theorem dX3_reachedFrom_7 : decode cX3_reachedFrom 7 = .ok (.aload_n 0, 1) := by decide +kernel
theorem dX3_reachedFrom_8 : decode cX3_reachedFrom 8 = .ok (.getfield 33, 3) := by decide +kernel
theorem dX3_reachedFrom_11 : decode cX3_reachedFrom 11 = .ok (.getfield 104, 3) := by decide +kernel
theorem dX3_reachedFrom_14 : decode cX3_reachedFrom 14 = .ok (.if_icmp .ge 65, 3) := by decide +kernel
theorem dX3_reachedFrom_17 : decode cX3_reachedFrom 17 = .ok (.iconst 0, 1) := by decide +kernel
theorem dX3_reachedFrom_18 : decode cX3_reachedFrom 18 = .ok (.istore 5, 2) := by decide +kernel
theorem dX3_reachedFrom_20 : decode cX3_reachedFrom 20 = .ok (.iload 5, 2) := by decide +kernel
theorem dX3_reachedFrom_22 : decode cX3_reachedFrom 22 = .ok (.aload_n 0, 1) := by decide +kernel
theorem dX3_reachedFrom_23 : decode cX3_reachedFrom 23 = .ok (.getfield 33, 3) := by decide +kernel
theorem dX3_reachedFrom_26 : decode cX3_reachedFrom 26 = .ok (.getfield 104, 3) := by decide +kernel
theorem dX3_reachedFrom_29 : decode cX3_reachedFrom 29 = .ok (.if_icmp .ge 44, 3) := by decide +kernel
theorem dX3_reachedFrom_32 : decode cX3_reachedFrom 32 = .ok (.iload_n 1, 1) := by decide +kernel
theorem dX3_reachedFrom_33 : decode cX3_reachedFrom 33 = .ok (.iload 4, 2) := by decide +kernel
theorem dX3_reachedFrom_35 : decode cX3_reachedFrom 35 = .ok (.invokestatic 107, 3) := by decide +kernel
theorem dX3_reachedFrom_38 : decode cX3_reachedFrom 38 = .ok (.ifCond .eq 29, 3) := by decide +kernel
theorem dX3_reachedFrom_41 : decode cX3_reachedFrom 41 = .ok (.aload_n 0, 1) := by decide +kernel
theorem dX3_reachedFrom_42 : decode cX3_reachedFrom 42 = .ok (.iload 4, 2) := by decide +kernel
theorem dX3_reachedFrom_44 : decode cX3_reachedFrom 44 = .ok (.aload_n 0, 1) := by decide +kernel
theorem dX3_reachedFrom_45 : decode cX3_reachedFrom 45 = .ok (.getfield 20, 3) := by decide +kernel
theorem dX3_reachedFrom_48 : decode cX3_reachedFrom 48 = .ok (.iload 5, 2) := by decide +kernel
theorem dX3_reachedFrom_50 : decode cX3_reachedFrom 50 = .ok (.invokevirtual 52, 3) := by decide +kernel
theorem dX3_reachedFrom_53 : decode cX3_reachedFrom 53 = .ok (.invokevirtual 137, 3) := by decide +kernel
theorem dX3_reachedFrom_56 : decode cX3_reachedFrom 56 = .ok (.iload_n 2, 1) := by decide +kernel
theorem dX3_reachedFrom_57 : decode cX3_reachedFrom 57 = .ok (.if_icmp .gt 10, 3) := by decide +kernel
theorem dX3_reachedFrom_60 : decode cX3_reachedFrom 60 = .ok (.iload_n 3, 1) := by decide +kernel
theorem dX3_reachedFrom_61 : decode cX3_reachedFrom 61 = .ok (.iconst 1, 1) := by decide +kernel
theorem dX3_reachedFrom_62 : decode cX3_reachedFrom 62 = .ok (.iload 5, 2) := by decide +kernel
theorem dX3_reachedFrom_64 : decode cX3_reachedFrom 64 = .ok (.ishl, 1) := by decide +kernel
theorem dX3_reachedFrom_65 : decode cX3_reachedFrom 65 = .ok (.ior, 1) := by decide +kernel
theorem dX3_reachedFrom_66 : decode cX3_reachedFrom 66 = .ok (.istore_n 3, 1) := by decide +kernel
theorem dX3_reachedFrom_67 : decode cX3_reachedFrom 67 = .ok (.iinc 5 1, 3) := by decide +kernel
theorem dX3_reachedFrom_70 : decode cX3_reachedFrom 70 = .ok (.goto (-50), 3) := by decide +kernel
theorem dX3_reachedFrom_73 : decode cX3_reachedFrom 73 = .ok (.iinc 4 1, 3) := by decide +kernel
theorem dX3_reachedFrom_76 : decode cX3_reachedFrom 76 = .ok (.goto (-71), 3) := by decide +kernel
theorem dX3_reachedFrom_79 : decode cX3_reachedFrom 79 = .ok (.iload_n 3, 1) := by decide +kernel
theorem dX3_reachedFrom_80 : decode cX3_reachedFrom 80 = .ok (.ireturn, 1) := by decide +kernel
theorem dX3_menWithBeat_0 : decode cX3_menWithBeat 0 = .ok (.iconst 0, 1) := by decide +kernel
theorem dX3_menWithBeat_1 : decode cX3_menWithBeat 1 = .ok (.istore_n 2, 1) := by decide +kernel
theorem dX3_menWithBeat_2 : decode cX3_menWithBeat 2 = .ok (.iconst 0, 1) := by decide +kernel
theorem dX3_menWithBeat_3 : decode cX3_menWithBeat 3 = .ok (.istore_n 3, 1) := by decide +kernel
theorem dX3_menWithBeat_4 : decode cX3_menWithBeat 4 = .ok (.iload_n 3, 1) := by decide +kernel
theorem dX3_menWithBeat_5 : decode cX3_menWithBeat 5 = .ok (.aload_n 0, 1) := by decide +kernel
theorem dX3_menWithBeat_6 : decode cX3_menWithBeat 6 = .ok (.getfield 33, 3) := by decide +kernel
theorem dX3_menWithBeat_9 : decode cX3_menWithBeat 9 = .ok (.getfield 104, 3) := by decide +kernel
theorem dX3_menWithBeat_12 : decode cX3_menWithBeat 12 = .ok (.if_icmp .ge 32, 3) := by decide +kernel
theorem dX3_menWithBeat_15 : decode cX3_menWithBeat 15 = .ok (.iload_n 2, 1) := by decide +kernel
theorem dX3_menWithBeat_16 : decode cX3_menWithBeat 16 = .ok (.aload_n 0, 1) := by decide +kernel
theorem dX3_menWithBeat_17 : decode cX3_menWithBeat 17 = .ok (.getfield 20, 3) := by decide +kernel
theorem dX3_menWithBeat_20 : decode cX3_menWithBeat 20 = .ok (.iload_n 3, 1) := by decide +kernel
theorem dX3_menWithBeat_21 : decode cX3_menWithBeat 21 = .ok (.invokevirtual 52, 3) := by decide +kernel
theorem dX3_menWithBeat_24 : decode cX3_menWithBeat 24 = .ok (.iload_n 1, 1) := by decide +kernel
theorem dX3_menWithBeat_25 : decode cX3_menWithBeat 25 = .ok (.invokestatic 107, 3) := by decide +kernel
theorem dX3_menWithBeat_28 : decode cX3_menWithBeat 28 = .ok (.ifCond .eq 7, 3) := by decide +kernel
theorem dX3_menWithBeat_31 : decode cX3_menWithBeat 31 = .ok (.iconst 1, 1) := by decide +kernel
theorem dX3_menWithBeat_32 : decode cX3_menWithBeat 32 = .ok (.goto 4, 3) := by decide +kernel
theorem dX3_menWithBeat_35 : decode cX3_menWithBeat 35 = .ok (.iconst 0, 1) := by decide +kernel
theorem dX3_menWithBeat_36 : decode cX3_menWithBeat 36 = .ok (.iadd, 1) := by decide +kernel
theorem dX3_menWithBeat_37 : decode cX3_menWithBeat 37 = .ok (.istore_n 2, 1) := by decide +kernel
theorem dX3_menWithBeat_38 : decode cX3_menWithBeat 38 = .ok (.iinc 3 1, 3) := by decide +kernel
theorem dX3_menWithBeat_41 : decode cX3_menWithBeat 41 = .ok (.goto (-37), 3) := by decide +kernel
theorem dX3_menWithBeat_44 : decode cX3_menWithBeat 44 = .ok (.iload_n 2, 1) := by decide +kernel
theorem dX3_menWithBeat_45 : decode cX3_menWithBeat 45 = .ok (.ireturn, 1) := by decide +kernel
theorem dX4_init_0 : decode cX4_init 0 = .ok (.aload_n 0, 1) := by decide +kernel
theorem dX4_init_1 : decode cX4_init 1 = .ok (.invokespecial 3, 3) := by decide +kernel
theorem dX4_init_4 : decode cX4_init 4 = .ok (.aload_n 0, 1) := by decide +kernel
theorem dX4_init_5 : decode cX4_init 5 = .ok (.new 9, 3) := by decide +kernel
theorem dX4_init_8 : decode cX4_init 8 = .ok (.dup, 1) := by decide +kernel
theorem dX4_init_9 : decode cX4_init 9 = .ok (.sipush 384, 3) := by decide +kernel
theorem dX4_init_12 : decode cX4_init 12 = .ok (.invokespecial 13, 3) := by decide +kernel
theorem dX4_init_15 : decode cX4_init 15 = .ok (.putfield 16, 3) := by decide +kernel
theorem dX4_init_18 : decode cX4_init 18 = .ok (.aload_n 0, 1) := by decide +kernel
theorem dX4_init_19 : decode cX4_init 19 = .ok (.new 9, 3) := by decide +kernel
theorem dX4_init_22 : decode cX4_init 22 = .ok (.dup, 1) := by decide +kernel
theorem dX4_init_23 : decode cX4_init 23 = .ok (.bipush 6, 2) := by decide +kernel
theorem dX4_init_25 : decode cX4_init 25 = .ok (.invokespecial 13, 3) := by decide +kernel
theorem dX4_init_28 : decode cX4_init 28 = .ok (.putfield 20, 3) := by decide +kernel
theorem dX4_init_31 : decode cX4_init 31 = .ok (.aload_n 0, 1) := by decide +kernel
theorem dX4_init_32 : decode cX4_init 32 = .ok (.new 9, 3) := by decide +kernel
theorem dX4_init_35 : decode cX4_init 35 = .ok (.dup, 1) := by decide +kernel
theorem dX4_init_36 : decode cX4_init 36 = .ok (.bipush 6, 2) := by decide +kernel
theorem dX4_init_38 : decode cX4_init 38 = .ok (.invokespecial 13, 3) := by decide +kernel
theorem dX4_init_41 : decode cX4_init 41 = .ok (.putfield 23, 3) := by decide +kernel
theorem dX4_init_44 : decode cX4_init 44 = .ok (.aload_n 0, 1) := by decide +kernel
theorem dX4_init_45 : decode cX4_init 45 = .ok (.iconst (-1), 1) := by decide +kernel
theorem dX4_init_46 : decode cX4_init 46 = .ok (.putfield 26, 3) := by decide +kernel
theorem dX4_init_49 : decode cX4_init 49 = .ok (.return_, 1) := by decide +kernel
theorem dX4_seek_0 : decode cX4_seek 0 = .ok (.aload_n 0, 1) := by decide +kernel
theorem dX4_seek_1 : decode cX4_seek 1 = .ok (.getfield 16, 3) := by decide +kernel
theorem dX4_seek_4 : decode cX4_seek 4 = .ok (.iconst (-1), 1) := by decide +kernel
theorem dX4_seek_5 : decode cX4_seek 5 = .ok (.invokevirtual 30, 3) := by decide +kernel
theorem dX4_seek_8 : decode cX4_seek 8 = .ok (.aload_n 0, 1) := by decide +kernel
theorem dX4_seek_9 : decode cX4_seek 9 = .ok (.iconst (-1), 1) := by decide +kernel
theorem dX4_seek_10 : decode cX4_seek 10 = .ok (.putfield 26, 3) := by decide +kernel
theorem dX4_seek_13 : decode cX4_seek 13 = .ok (.aload_n 0, 1) := by decide +kernel
theorem dX4_seek_14 : decode cX4_seek 14 = .ok (.aload_n 1, 1) := by decide +kernel
theorem dX4_seek_15 : decode cX4_seek 15 = .ok (.iconst 0, 1) := by decide +kernel
theorem dX4_seek_16 : decode cX4_seek 16 = .ok (.iconst 0, 1) := by decide +kernel
theorem dX4_seek_17 : decode cX4_seek 17 = .ok (.iconst 0, 1) := by decide +kernel
theorem dX4_seek_18 : decode cX4_seek 18 = .ok (.invokevirtual 33, 3) := by decide +kernel
theorem dX4_seek_21 : decode cX4_seek 21 = .ok (.return_, 1) := by decide +kernel
theorem dX4_tryFrom_0 : decode cX4_tryFrom 0 = .ok (.aload_n 1, 1) := by decide +kernel
theorem dX4_tryFrom_1 : decode cX4_tryFrom 1 = .ok (.getfield 37, 3) := by decide +kernel
theorem dX4_tryFrom_4 : decode cX4_tryFrom 4 = .ok (.getfield 43, 3) := by decide +kernel
theorem dX4_tryFrom_7 : decode cX4_tryFrom 7 = .ok (.bipush 6, 2) := by decide +kernel
theorem dX4_tryFrom_9 : decode cX4_tryFrom 9 = .ok (.invokestatic 48, 3) := by decide +kernel
theorem dX4_tryFrom_12 : decode cX4_tryFrom 12 = .ok (.istore 5, 2) := by decide +kernel
theorem dX4_tryFrom_14 : decode cX4_tryFrom 14 = .ok (.iload_n 2, 1) := by decide +kernel
theorem dX4_tryFrom_15 : decode cX4_tryFrom 15 = .ok (.iload 5, 2) := by decide +kernel
theorem dX4_tryFrom_17 : decode cX4_tryFrom 17 = .ok (.if_icmp .lt 20, 3) := by decide +kernel
theorem dX4_tryFrom_20 : decode cX4_tryFrom 20 = .ok (.aload_n 0, 1) := by decide +kernel
theorem dX4_tryFrom_21 : decode cX4_tryFrom 21 = .ok (.iload 4, 2) := by decide +kernel
theorem dX4_tryFrom_23 : decode cX4_tryFrom 23 = .ok (.aload_n 0, 1) := by decide +kernel
theorem dX4_tryFrom_24 : decode cX4_tryFrom 24 = .ok (.aload_n 1, 1) := by decide +kernel
theorem dX4_tryFrom_25 : decode cX4_tryFrom 25 = .ok (.iload_n 2, 1) := by decide +kernel
theorem dX4_tryFrom_26 : decode cX4_tryFrom 26 = .ok (.iconst 1, 1) := by decide +kernel
theorem dX4_tryFrom_27 : decode cX4_tryFrom 27 = .ok (.isub, 1) := by decide +kernel
theorem dX4_tryFrom_28 : decode cX4_tryFrom 28 = .ok (.iconst 0, 1) := by decide +kernel
theorem dX4_tryFrom_29 : decode cX4_tryFrom 29 = .ok (.invokevirtual 54, 3) := by decide +kernel
theorem dX4_tryFrom_32 : decode cX4_tryFrom 32 = .ok (.iadd, 1) := by decide +kernel
theorem dX4_tryFrom_33 : decode cX4_tryFrom 33 = .ok (.invokevirtual 58, 3) := by decide +kernel
theorem dX4_tryFrom_36 : decode cX4_tryFrom 36 = .ok (.return_, 1) := by decide +kernel
theorem dX4_tryFrom_37 : decode cX4_tryFrom 37 = .ok (.iconst 0, 1) := by decide +kernel
theorem dX4_tryFrom_38 : decode cX4_tryFrom 38 = .ok (.istore 6, 2) := by decide +kernel
theorem dX4_tryFrom_40 : decode cX4_tryFrom 40 = .ok (.iload 6, 2) := by decide +kernel
theorem dX4_tryFrom_42 : decode cX4_tryFrom 42 = .ok (.iload 5, 2) := by decide +kernel
theorem dX4_tryFrom_44 : decode cX4_tryFrom 44 = .ok (.if_icmp .ge 61, 3) := by decide +kernel
theorem dX4_tryFrom_47 : decode cX4_tryFrom 47 = .ok (.iload_n 3, 1) := by decide +kernel
theorem dX4_tryFrom_48 : decode cX4_tryFrom 48 = .ok (.iload 6, 2) := by decide +kernel
theorem dX4_tryFrom_50 : decode cX4_tryFrom 50 = .ok (.invokestatic 61, 3) := by decide +kernel
theorem dX4_tryFrom_53 : decode cX4_tryFrom 53 = .ok (.ifCond .ne 46, 3) := by decide +kernel
theorem dX4_tryFrom_56 : decode cX4_tryFrom 56 = .ok (.aload_n 0, 1) := by decide +kernel
theorem dX4_tryFrom_57 : decode cX4_tryFrom 57 = .ok (.aload_n 1, 1) := by decide +kernel
theorem dX4_tryFrom_58 : decode cX4_tryFrom 58 = .ok (.iload_n 2, 1) := by decide +kernel
theorem dX4_tryFrom_59 : decode cX4_tryFrom 59 = .ok (.iconst 1, 1) := by decide +kernel
theorem dX4_tryFrom_60 : decode cX4_tryFrom 60 = .ok (.isub, 1) := by decide +kernel
theorem dX4_tryFrom_61 : decode cX4_tryFrom 61 = .ok (.iconst 1, 1) := by decide +kernel
theorem dX4_tryFrom_62 : decode cX4_tryFrom 62 = .ok (.iload 6, 2) := by decide +kernel
theorem dX4_tryFrom_64 : decode cX4_tryFrom 64 = .ok (.ishl, 1) := by decide +kernel
theorem dX4_tryFrom_65 : decode cX4_tryFrom 65 = .ok (.invokevirtual 54, 3) := by decide +kernel
theorem dX4_tryFrom_68 : decode cX4_tryFrom 68 = .ok (.istore 7, 2) := by decide +kernel
theorem dX4_tryFrom_70 : decode cX4_tryFrom 70 = .ok (.aload_n 0, 1) := by decide +kernel
theorem dX4_tryFrom_71 : decode cX4_tryFrom 71 = .ok (.getfield 20, 3) := by decide +kernel
theorem dX4_tryFrom_74 : decode cX4_tryFrom 74 = .ok (.iload_n 2, 1) := by decide +kernel
theorem dX4_tryFrom_75 : decode cX4_tryFrom 75 = .ok (.iload 6, 2) := by decide +kernel
theorem dX4_tryFrom_77 : decode cX4_tryFrom 77 = .ok (.invokevirtual 65, 3) := by decide +kernel
theorem dX4_tryFrom_80 : decode cX4_tryFrom 80 = .ok (.aload_n 0, 1) := by decide +kernel
theorem dX4_tryFrom_81 : decode cX4_tryFrom 81 = .ok (.aload_n 1, 1) := by decide +kernel
theorem dX4_tryFrom_82 : decode cX4_tryFrom 82 = .ok (.iload_n 2, 1) := by decide +kernel
theorem dX4_tryFrom_83 : decode cX4_tryFrom 83 = .ok (.iconst 1, 1) := by decide +kernel
theorem dX4_tryFrom_84 : decode cX4_tryFrom 84 = .ok (.iadd, 1) := by decide +kernel
theorem dX4_tryFrom_85 : decode cX4_tryFrom 85 = .ok (.iload_n 3, 1) := by decide +kernel
theorem dX4_tryFrom_86 : decode cX4_tryFrom 86 = .ok (.iconst 1, 1) := by decide +kernel
theorem dX4_tryFrom_87 : decode cX4_tryFrom 87 = .ok (.iload 6, 2) := by decide +kernel
theorem dX4_tryFrom_89 : decode cX4_tryFrom 89 = .ok (.ishl, 1) := by decide +kernel
theorem dX4_tryFrom_90 : decode cX4_tryFrom 90 = .ok (.ior, 1) := by decide +kernel
theorem dX4_tryFrom_91 : decode cX4_tryFrom 91 = .ok (.iload 4, 2) := by decide +kernel
theorem dX4_tryFrom_93 : decode cX4_tryFrom 93 = .ok (.iload 7, 2) := by decide +kernel
theorem dX4_tryFrom_95 : decode cX4_tryFrom 95 = .ok (.iadd, 1) := by decide +kernel
theorem dX4_tryFrom_96 : decode cX4_tryFrom 96 = .ok (.invokevirtual 33, 3) := by decide +kernel
theorem dX4_tryFrom_99 : decode cX4_tryFrom 99 = .ok (.iinc 6 1, 3) := by decide +kernel
theorem dX4_tryFrom_102 : decode cX4_tryFrom 102 = .ok (.goto (-62), 3) := by decide +kernel
theorem dX4_tryFrom_105 : decode cX4_tryFrom 105 = .ok (.return_, 1) := by decide +kernel
theorem dX4_keepBetter_0 : decode cX4_keepBetter 0 = .ok (.iload_n 1, 1) := by decide +kernel
theorem dX4_keepBetter_1 : decode cX4_keepBetter 1 = .ok (.aload_n 0, 1) := by decide +kernel
theorem dX4_keepBetter_2 : decode cX4_keepBetter 2 = .ok (.getfield 26, 3) := by decide +kernel
theorem dX4_keepBetter_5 : decode cX4_keepBetter 5 = .ok (.if_icmp .le 19, 3) := by decide +kernel
theorem dX4_keepBetter_8 : decode cX4_keepBetter 8 = .ok (.aload_n 0, 1) := by decide +kernel
theorem dX4_keepBetter_9 : decode cX4_keepBetter 9 = .ok (.iload_n 1, 1) := by decide +kernel
theorem dX4_keepBetter_10 : decode cX4_keepBetter 10 = .ok (.putfield 26, 3) := by decide +kernel
theorem dX4_keepBetter_13 : decode cX4_keepBetter 13 = .ok (.aload_n 0, 1) := by decide +kernel
theorem dX4_keepBetter_14 : decode cX4_keepBetter 14 = .ok (.getfield 23, 3) := by decide +kernel
theorem dX4_keepBetter_17 : decode cX4_keepBetter 17 = .ok (.aload_n 0, 1) := by decide +kernel
theorem dX4_keepBetter_18 : decode cX4_keepBetter 18 = .ok (.getfield 20, 3) := by decide +kernel
theorem dX4_keepBetter_21 : decode cX4_keepBetter 21 = .ok (.invokevirtual 69, 3) := by decide +kernel
theorem dX4_keepBetter_24 : decode cX4_keepBetter 24 = .ok (.return_, 1) := by decide +kernel
theorem dX4_rightAt_0 : decode cX4_rightAt 0 = .ok (.iload_n 2, 1) := by decide +kernel
theorem dX4_rightAt_1 : decode cX4_rightAt 1 = .ok (.ifCond .ge 5, 3) := by decide +kernel
theorem dX4_rightAt_4 : decode cX4_rightAt 4 = .ok (.iconst 0, 1) := by decide +kernel
theorem dX4_rightAt_5 : decode cX4_rightAt 5 = .ok (.ireturn, 1) := by decide +kernel
theorem dX4_rightAt_6 : decode cX4_rightAt 6 = .ok (.aload_n 0, 1) := by decide +kernel
theorem dX4_rightAt_7 : decode cX4_rightAt 7 = .ok (.getfield 20, 3) := by decide +kernel
theorem dX4_rightAt_10 : decode cX4_rightAt 10 = .ok (.iload_n 2, 1) := by decide +kernel
theorem dX4_rightAt_11 : decode cX4_rightAt 11 = .ok (.invokevirtual 73, 3) := by decide +kernel
theorem dX4_rightAt_14 : decode cX4_rightAt 14 = .ok (.istore 4, 2) := by decide +kernel
theorem dX4_rightAt_16 : decode cX4_rightAt 16 = .ok (.iload_n 3, 1) := by decide +kernel
theorem dX4_rightAt_17 : decode cX4_rightAt 17 = .ok (.iload_n 2, 1) := by decide +kernel
theorem dX4_rightAt_18 : decode cX4_rightAt 18 = .ok (.ifCond .ne 7, 3) := by decide +kernel
theorem dX4_rightAt_21 : decode cX4_rightAt 21 = .ok (.iconst 0, 1) := by decide +kernel
theorem dX4_rightAt_22 : decode cX4_rightAt 22 = .ok (.goto 15, 3) := by decide +kernel
theorem dX4_rightAt_25 : decode cX4_rightAt 25 = .ok (.iconst 1, 1) := by decide +kernel
theorem dX4_rightAt_26 : decode cX4_rightAt 26 = .ok (.aload_n 0, 1) := by decide +kernel
theorem dX4_rightAt_27 : decode cX4_rightAt 27 = .ok (.getfield 20, 3) := by decide +kernel
theorem dX4_rightAt_30 : decode cX4_rightAt 30 = .ok (.iload_n 2, 1) := by decide +kernel
theorem dX4_rightAt_31 : decode cX4_rightAt 31 = .ok (.iconst 1, 1) := by decide +kernel
theorem dX4_rightAt_32 : decode cX4_rightAt 32 = .ok (.isub, 1) := by decide +kernel
theorem dX4_rightAt_33 : decode cX4_rightAt 33 = .ok (.invokevirtual 73, 3) := by decide +kernel
theorem dX4_rightAt_36 : decode cX4_rightAt 36 = .ok (.ishl, 1) := by decide +kernel
theorem dX4_rightAt_37 : decode cX4_rightAt 37 = .ok (.ior, 1) := by decide +kernel
theorem dX4_rightAt_38 : decode cX4_rightAt 38 = .ok (.istore 5, 2) := by decide +kernel
theorem dX4_rightAt_40 : decode cX4_rightAt 40 = .ok (.aload_n 0, 1) := by decide +kernel
theorem dX4_rightAt_41 : decode cX4_rightAt 41 = .ok (.getfield 16, 3) := by decide +kernel
theorem dX4_rightAt_44 : decode cX4_rightAt 44 = .ok (.iload 4, 2) := by decide +kernel
theorem dX4_rightAt_46 : decode cX4_rightAt 46 = .ok (.bipush 64, 2) := by decide +kernel
theorem dX4_rightAt_48 : decode cX4_rightAt 48 = .ok (.imul, 1) := by decide +kernel
theorem dX4_rightAt_49 : decode cX4_rightAt 49 = .ok (.iload 5, 2) := by decide +kernel
theorem dX4_rightAt_51 : decode cX4_rightAt 51 = .ok (.iadd, 1) := by decide +kernel
theorem dX4_rightAt_52 : decode cX4_rightAt 52 = .ok (.invokevirtual 73, 3) := by decide +kernel
theorem dX4_rightAt_55 : decode cX4_rightAt 55 = .ok (.istore 6, 2) := by decide +kernel
theorem dX4_rightAt_57 : decode cX4_rightAt 57 = .ok (.iload 6, 2) := by decide +kernel
theorem dX4_rightAt_59 : decode cX4_rightAt 59 = .ok (.iconst (-1), 1) := by decide +kernel
theorem dX4_rightAt_60 : decode cX4_rightAt 60 = .ok (.if_icmp .eq 6, 3) := by decide +kernel
theorem dX4_rightAt_63 : decode cX4_rightAt 63 = .ok (.iload 6, 2) := by decide +kernel
theorem dX4_rightAt_65 : decode cX4_rightAt 65 = .ok (.ireturn, 1) := by decide +kernel
theorem dX4_rightAt_66 : decode cX4_rightAt 66 = .ok (.iconst 0, 1) := by decide +kernel
theorem dX4_rightAt_67 : decode cX4_rightAt 67 = .ok (.istore 7, 2) := by decide +kernel
theorem dX4_rightAt_69 : decode cX4_rightAt 69 = .ok (.iconst 0, 1) := by decide +kernel
theorem dX4_rightAt_70 : decode cX4_rightAt 70 = .ok (.istore 8, 2) := by decide +kernel
theorem dX4_rightAt_72 : decode cX4_rightAt 72 = .ok (.iload 8, 2) := by decide +kernel
theorem dX4_rightAt_74 : decode cX4_rightAt 74 = .ok (.aload_n 1, 1) := by decide +kernel
theorem dX4_rightAt_75 : decode cX4_rightAt 75 = .ok (.getfield 37, 3) := by decide +kernel
theorem dX4_rightAt_78 : decode cX4_rightAt 78 = .ok (.getfield 43, 3) := by decide +kernel
theorem dX4_rightAt_81 : decode cX4_rightAt 81 = .ok (.if_icmp .ge 37, 3) := by decide +kernel
theorem dX4_rightAt_84 : decode cX4_rightAt 84 = .ok (.iload 7, 2) := by decide +kernel
theorem dX4_rightAt_86 : decode cX4_rightAt 86 = .ok (.iload 5, 2) := by decide +kernel
theorem dX4_rightAt_88 : decode cX4_rightAt 88 = .ok (.iload 8, 2) := by decide +kernel
theorem dX4_rightAt_90 : decode cX4_rightAt 90 = .ok (.invokestatic 61, 3) := by decide +kernel
theorem dX4_rightAt_93 : decode cX4_rightAt 93 = .ok (.ifCond .eq 15, 3) := by decide +kernel
theorem dX4_rightAt_96 : decode cX4_rightAt 96 = .ok (.aload_n 1, 1) := by decide +kernel
theorem dX4_rightAt_97 : decode cX4_rightAt 97 = .ok (.getfield 77, 3) := by decide +kernel
theorem dX4_rightAt_100 : decode cX4_rightAt 100 = .ok (.iload 8, 2) := by decide +kernel
theorem dX4_rightAt_102 : decode cX4_rightAt 102 = .ok (.invokevirtual 73, 3) := by decide +kernel
theorem dX4_rightAt_105 : decode cX4_rightAt 105 = .ok (.goto 4, 3) := by decide +kernel
theorem dX4_rightAt_108 : decode cX4_rightAt 108 = .ok (.iconst 0, 1) := by decide +kernel
theorem dX4_rightAt_109 : decode cX4_rightAt 109 = .ok (.ior, 1) := by decide +kernel
theorem dX4_rightAt_110 : decode cX4_rightAt 110 = .ok (.istore 7, 2) := by decide +kernel
theorem dX4_rightAt_112 : decode cX4_rightAt 112 = .ok (.iinc 8 1, 3) := by decide +kernel
theorem dX4_rightAt_115 : decode cX4_rightAt 115 = .ok (.goto (-43), 3) := by decide +kernel
theorem dX4_rightAt_118 : decode cX4_rightAt 118 = .ok (.aload_n 1, 1) := by decide +kernel
theorem dX4_rightAt_119 : decode cX4_rightAt 119 = .ok (.getfield 77, 3) := by decide +kernel
theorem dX4_rightAt_122 : decode cX4_rightAt 122 = .ok (.iload 4, 2) := by decide +kernel
theorem dX4_rightAt_124 : decode cX4_rightAt 124 = .ok (.invokevirtual 73, 3) := by decide +kernel
theorem dX4_rightAt_127 : decode cX4_rightAt 127 = .ok (.istore 8, 2) := by decide +kernel
theorem dX4_rightAt_129 : decode cX4_rightAt 129 = .ok (.aload_n 1, 1) := by decide +kernel
theorem dX4_rightAt_130 : decode cX4_rightAt 130 = .ok (.aload_n 1, 1) := by decide +kernel
theorem dX4_rightAt_131 : decode cX4_rightAt 131 = .ok (.iload 8, 2) := by decide +kernel
theorem dX4_rightAt_133 : decode cX4_rightAt 133 = .ok (.iload 7, 2) := by decide +kernel
theorem dX4_rightAt_135 : decode cX4_rightAt 135 = .ok (.aload_n 1, 1) := by decide +kernel
theorem dX4_rightAt_136 : decode cX4_rightAt 136 = .ok (.iconst 0, 1) := by decide +kernel
theorem dX4_rightAt_137 : decode cX4_rightAt 137 = .ok (.invokevirtual 79, 3) := by decide +kernel
theorem dX4_rightAt_140 : decode cX4_rightAt 140 = .ok (.invokevirtual 82, 3) := by decide +kernel
theorem dX4_rightAt_143 : decode cX4_rightAt 143 = .ok (.invokevirtual 86, 3) := by decide +kernel
theorem dX4_rightAt_146 : decode cX4_rightAt 146 = .ok (.istore 9, 2) := by decide +kernel
theorem dX4_rightAt_148 : decode cX4_rightAt 148 = .ok (.iload 9, 2) := by decide +kernel
theorem dX4_rightAt_150 : decode cX4_rightAt 150 = .ok (.iconst (-1), 1) := by decide +kernel
theorem dX4_rightAt_151 : decode cX4_rightAt 151 = .ok (.if_icmp .eq 17, 3) := by decide +kernel
theorem dX4_rightAt_154 : decode cX4_rightAt 154 = .ok (.iload 8, 2) := by decide +kernel
theorem dX4_rightAt_156 : decode cX4_rightAt 156 = .ok (.iload 9, 2) := by decide +kernel
theorem dX4_rightAt_158 : decode cX4_rightAt 158 = .ok (.invokestatic 61, 3) := by decide +kernel
theorem dX4_rightAt_161 : decode cX4_rightAt 161 = .ok (.ifCond .eq 7, 3) := by decide +kernel
theorem dX4_rightAt_164 : decode cX4_rightAt 164 = .ok (.iconst 1, 1) := by decide +kernel
theorem dX4_rightAt_165 : decode cX4_rightAt 165 = .ok (.goto 4, 3) := by decide +kernel
theorem dX4_rightAt_168 : decode cX4_rightAt 168 = .ok (.iconst 0, 1) := by decide +kernel
theorem dX4_rightAt_169 : decode cX4_rightAt 169 = .ok (.istore 10, 2) := by decide +kernel
theorem dX4_rightAt_171 : decode cX4_rightAt 171 = .ok (.aload_n 0, 1) := by decide +kernel
theorem dX4_rightAt_172 : decode cX4_rightAt 172 = .ok (.getfield 16, 3) := by decide +kernel
theorem dX4_rightAt_175 : decode cX4_rightAt 175 = .ok (.iload 4, 2) := by decide +kernel
theorem dX4_rightAt_177 : decode cX4_rightAt 177 = .ok (.bipush 64, 2) := by decide +kernel
theorem dX4_rightAt_179 : decode cX4_rightAt 179 = .ok (.imul, 1) := by decide +kernel
theorem dX4_rightAt_180 : decode cX4_rightAt 180 = .ok (.iload 5, 2) := by decide +kernel
theorem dX4_rightAt_182 : decode cX4_rightAt 182 = .ok (.iadd, 1) := by decide +kernel
theorem dX4_rightAt_183 : decode cX4_rightAt 183 = .ok (.iload 10, 2) := by decide +kernel
theorem dX4_rightAt_185 : decode cX4_rightAt 185 = .ok (.invokevirtual 65, 3) := by decide +kernel
theorem dX4_rightAt_188 : decode cX4_rightAt 188 = .ok (.iload 10, 2) := by decide +kernel
theorem dX4_rightAt_190 : decode cX4_rightAt 190 = .ok (.ireturn, 1) := by decide +kernel
theorem dX5_init_0 : decode cX5_init 0 = .ok (.aload_n 0, 1) := by decide +kernel
theorem dX5_init_1 : decode cX5_init 1 = .ok (.invokespecial 3, 3) := by decide +kernel
theorem dX5_init_4 : decode cX5_init 4 = .ok (.aload_n 0, 1) := by decide +kernel
theorem dX5_init_5 : decode cX5_init 5 = .ok (.new 9, 3) := by decide +kernel
theorem dX5_init_8 : decode cX5_init 8 = .ok (.dup, 1) := by decide +kernel
theorem dX5_init_9 : decode cX5_init 9 = .ok (.invokespecial 11, 3) := by decide +kernel
theorem dX5_init_12 : decode cX5_init 12 = .ok (.putfield 12, 3) := by decide +kernel
theorem dX5_init_15 : decode cX5_init 15 = .ok (.aload_n 0, 1) := by decide +kernel
theorem dX5_init_16 : decode cX5_init 16 = .ok (.new 18, 3) := by decide +kernel
theorem dX5_init_19 : decode cX5_init 19 = .ok (.dup, 1) := by decide +kernel
theorem dX5_init_20 : decode cX5_init 20 = .ok (.aload_n 0, 1) := by decide +kernel
theorem dX5_init_21 : decode cX5_init 21 = .ok (.getfield 12, 3) := by decide +kernel
theorem dX5_init_24 : decode cX5_init 24 = .ok (.invokespecial 20, 3) := by decide +kernel
theorem dX5_init_27 : decode cX5_init 27 = .ok (.putfield 23, 3) := by decide +kernel
theorem dX5_init_30 : decode cX5_init 30 = .ok (.aload_n 0, 1) := by decide +kernel
theorem dX5_init_31 : decode cX5_init 31 = .ok (.iconst 0, 1) := by decide +kernel
theorem dX5_init_32 : decode cX5_init 32 = .ok (.putfield 27, 3) := by decide +kernel
theorem dX5_init_35 : decode cX5_init 35 = .ok (.aload_n 0, 1) := by decide +kernel
theorem dX5_init_36 : decode cX5_init 36 = .ok (.iconst (-1), 1) := by decide +kernel
theorem dX5_init_37 : decode cX5_init 37 = .ok (.putfield 31, 3) := by decide +kernel
theorem dX5_init_40 : decode cX5_init 40 = .ok (.aload_n 0, 1) := by decide +kernel
theorem dX5_init_41 : decode cX5_init 41 = .ok (.iconst 0, 1) := by decide +kernel
theorem dX5_init_42 : decode cX5_init 42 = .ok (.putfield 34, 3) := by decide +kernel
theorem dX5_init_45 : decode cX5_init 45 = .ok (.aload_n 0, 1) := by decide +kernel
theorem dX5_init_46 : decode cX5_init 46 = .ok (.iconst 0, 1) := by decide +kernel
theorem dX5_init_47 : decode cX5_init 47 = .ok (.putfield 37, 3) := by decide +kernel
theorem dX5_init_50 : decode cX5_init 50 = .ok (.aload_n 0, 1) := by decide +kernel
theorem dX5_init_51 : decode cX5_init 51 = .ok (.iconst 0, 1) := by decide +kernel
theorem dX5_init_52 : decode cX5_init 52 = .ok (.putfield 40, 3) := by decide +kernel
theorem dX5_init_55 : decode cX5_init 55 = .ok (.aload_n 0, 1) := by decide +kernel
theorem dX5_init_56 : decode cX5_init 56 = .ok (.iconst 0, 1) := by decide +kernel
theorem dX5_init_57 : decode cX5_init 57 = .ok (.putfield 43, 3) := by decide +kernel
theorem dX5_init_60 : decode cX5_init 60 = .ok (.aload_n 0, 1) := by decide +kernel
theorem dX5_init_61 : decode cX5_init 61 = .ok (.iconst 0, 1) := by decide +kernel
theorem dX5_init_62 : decode cX5_init 62 = .ok (.putfield 46, 3) := by decide +kernel
theorem dX5_init_65 : decode cX5_init 65 = .ok (.aload_n 0, 1) := by decide +kernel
theorem dX5_init_66 : decode cX5_init 66 = .ok (.iconst 0, 1) := by decide +kernel
theorem dX5_init_67 : decode cX5_init 67 = .ok (.putfield 49, 3) := by decide +kernel
theorem dX5_init_70 : decode cX5_init 70 = .ok (.aload_n 0, 1) := by decide +kernel
theorem dX5_init_71 : decode cX5_init 71 = .ok (.iconst 0, 1) := by decide +kernel
theorem dX5_init_72 : decode cX5_init 72 = .ok (.putfield 52, 3) := by decide +kernel
theorem dX5_init_75 : decode cX5_init 75 = .ok (.aload_n 0, 1) := by decide +kernel
theorem dX5_init_76 : decode cX5_init 76 = .ok (.aload_n 1, 1) := by decide +kernel
theorem dX5_init_77 : decode cX5_init 77 = .ok (.putfield 55, 3) := by decide +kernel
theorem dX5_init_80 : decode cX5_init 80 = .ok (.return_, 1) := by decide +kernel
theorem dX5_readArmy_0 : decode cX5_readArmy 0 = .ok (.aload_n 0, 1) := by decide +kernel
theorem dX5_readArmy_1 : decode cX5_readArmy 1 = .ok (.iload_n 1, 1) := by decide +kernel
theorem dX5_readArmy_2 : decode cX5_readArmy 2 = .ok (.putfield 34, 3) := by decide +kernel
theorem dX5_readArmy_5 : decode cX5_readArmy 5 = .ok (.aload_n 0, 1) := by decide +kernel
theorem dX5_readArmy_6 : decode cX5_readArmy 6 = .ok (.iconst 0, 1) := by decide +kernel
theorem dX5_readArmy_7 : decode cX5_readArmy 7 = .ok (.putfield 37, 3) := by decide +kernel
theorem dX5_readArmy_10 : decode cX5_readArmy 10 = .ok (.aload_n 0, 1) := by decide +kernel
theorem dX5_readArmy_11 : decode cX5_readArmy 11 = .ok (.iconst 0, 1) := by decide +kernel
theorem dX5_readArmy_12 : decode cX5_readArmy 12 = .ok (.putfield 49, 3) := by decide +kernel
theorem dX5_readArmy_15 : decode cX5_readArmy 15 = .ok (.aload_n 0, 1) := by decide +kernel
theorem dX5_readArmy_16 : decode cX5_readArmy 16 = .ok (.iconst 0, 1) := by decide +kernel
theorem dX5_readArmy_17 : decode cX5_readArmy 17 = .ok (.putfield 52, 3) := by decide +kernel
theorem dX5_readArmy_20 : decode cX5_readArmy 20 = .ok (.aload_n 0, 1) := by decide +kernel
theorem dX5_readArmy_21 : decode cX5_readArmy 21 = .ok (.iconst 0, 1) := by decide +kernel
theorem dX5_readArmy_22 : decode cX5_readArmy 22 = .ok (.putfield 27, 3) := by decide +kernel
theorem dX5_readArmy_25 : decode cX5_readArmy 25 = .ok (.aload_n 0, 1) := by decide +kernel
theorem dX5_readArmy_26 : decode cX5_readArmy 26 = .ok (.iconst (-1), 1) := by decide +kernel
theorem dX5_readArmy_27 : decode cX5_readArmy 27 = .ok (.putfield 31, 3) := by decide +kernel
theorem dX5_readArmy_30 : decode cX5_readArmy 30 = .ok (.aload_n 0, 1) := by decide +kernel
theorem dX5_readArmy_31 : decode cX5_readArmy 31 = .ok (.getfield 12, 3) := by decide +kernel
theorem dX5_readArmy_34 : decode cX5_readArmy 34 = .ok (.invokevirtual 59, 3) := by decide +kernel
theorem dX5_readArmy_37 : decode cX5_readArmy 37 = .ok (.aload_n 0, 1) := by decide +kernel
theorem dX5_readArmy_38 : decode cX5_readArmy 38 = .ok (.getfield 23, 3) := by decide +kernel
theorem dX5_readArmy_41 : decode cX5_readArmy 41 = .ok (.invokevirtual 62, 3) := by decide +kernel
theorem dX5_readArmy_44 : decode cX5_readArmy 44 = .ok (.aload_n 0, 1) := by decide +kernel
theorem dX5_readArmy_45 : decode cX5_readArmy 45 = .ok (.invokevirtual 63, 3) := by decide +kernel
theorem dX5_readArmy_48 : decode cX5_readArmy 48 = .ok (.iconst 0, 1) := by decide +kernel
theorem dX5_readArmy_49 : decode cX5_readArmy 49 = .ok (.istore_n 2, 1) := by decide +kernel
theorem dX5_readArmy_50 : decode cX5_readArmy 50 = .ok (.iload_n 2, 1) := by decide +kernel
theorem dX5_readArmy_51 : decode cX5_readArmy 51 = .ok (.iload_n 1, 1) := by decide +kernel
theorem dX5_readArmy_52 : decode cX5_readArmy 52 = .ok (.if_icmp .gt 27, 3) := by decide +kernel
theorem dX5_readArmy_55 : decode cX5_readArmy 55 = .ok (.aload_n 0, 1) := by decide +kernel
theorem dX5_readArmy_56 : decode cX5_readArmy 56 = .ok (.getfield 27, 3) := by decide +kernel
theorem dX5_readArmy_59 : decode cX5_readArmy 59 = .ok (.ifCond .ne 20, 3) := by decide +kernel
theorem dX5_readArmy_62 : decode cX5_readArmy 62 = .ok (.aload_n 0, 1) := by decide +kernel
theorem dX5_readArmy_63 : decode cX5_readArmy 63 = .ok (.getfield 40, 3) := by decide +kernel
theorem dX5_readArmy_66 : decode cX5_readArmy 66 = .ok (.ifCond .eq 13, 3) := by decide +kernel
theorem dX5_readArmy_69 : decode cX5_readArmy 69 = .ok (.aload_n 0, 1) := by decide +kernel
theorem dX5_readArmy_70 : decode cX5_readArmy 70 = .ok (.invokevirtual 66, 3) := by decide +kernel
theorem dX5_readArmy_73 : decode cX5_readArmy 73 = .ok (.iinc 2 1, 3) := by decide +kernel
theorem dX5_readArmy_76 : decode cX5_readArmy 76 = .ok (.goto (-26), 3) := by decide +kernel
theorem dX5_readArmy_79 : decode cX5_readArmy 79 = .ok (.iconst 0, 1) := by decide +kernel
theorem dX5_readArmy_80 : decode cX5_readArmy 80 = .ok (.istore_n 2, 1) := by decide +kernel
theorem dX5_readArmy_81 : decode cX5_readArmy 81 = .ok (.iload_n 2, 1) := by decide +kernel
theorem dX5_readArmy_82 : decode cX5_readArmy 82 = .ok (.aload_n 0, 1) := by decide +kernel
theorem dX5_readArmy_83 : decode cX5_readArmy 83 = .ok (.getfield 12, 3) := by decide +kernel
theorem dX5_readArmy_86 : decode cX5_readArmy 86 = .ok (.getfield 69, 3) := by decide +kernel
theorem dX5_readArmy_89 : decode cX5_readArmy 89 = .ok (.if_icmp .ge 39, 3) := by decide +kernel
theorem dX5_readArmy_92 : decode cX5_readArmy 92 = .ok (.aload_n 0, 1) := by decide +kernel
theorem dX5_readArmy_93 : decode cX5_readArmy 93 = .ok (.getfield 23, 3) := by decide +kernel
theorem dX5_readArmy_96 : decode cX5_readArmy 96 = .ok (.getfield 72, 3) := by decide +kernel
theorem dX5_readArmy_99 : decode cX5_readArmy 99 = .ok (.iload_n 2, 1) := by decide +kernel
theorem dX5_readArmy_100 : decode cX5_readArmy 100 = .ok (.aload_n 0, 1) := by decide +kernel
theorem dX5_readArmy_101 : decode cX5_readArmy 101 = .ok (.getfield 23, 3) := by decide +kernel
theorem dX5_readArmy_104 : decode cX5_readArmy 104 = .ok (.getfield 72, 3) := by decide +kernel
theorem dX5_readArmy_107 : decode cX5_readArmy 107 = .ok (.iload_n 2, 1) := by decide +kernel
theorem dX5_readArmy_108 : decode cX5_readArmy 108 = .ok (.invokevirtual 75, 3) := by decide +kernel
theorem dX5_readArmy_111 : decode cX5_readArmy 111 = .ok (.aload_n 0, 1) := by decide +kernel
theorem dX5_readArmy_112 : decode cX5_readArmy 112 = .ok (.getfield 12, 3) := by decide +kernel
theorem dX5_readArmy_115 : decode cX5_readArmy 115 = .ok (.invokevirtual 81, 3) := by decide +kernel
theorem dX5_readArmy_118 : decode cX5_readArmy 118 = .ok (.iand, 1) := by decide +kernel
theorem dX5_readArmy_119 : decode cX5_readArmy 119 = .ok (.invokevirtual 85, 3) := by decide +kernel
theorem dX5_readArmy_122 : decode cX5_readArmy 122 = .ok (.iinc 2 1, 3) := by decide +kernel
theorem dX5_readArmy_125 : decode cX5_readArmy 125 = .ok (.goto (-44), 3) := by decide +kernel
theorem dX5_readArmy_128 : decode cX5_readArmy 128 = .ok (.aload_n 0, 1) := by decide +kernel
theorem dX5_readArmy_129 : decode cX5_readArmy 129 = .ok (.getfield 27, 3) := by decide +kernel
theorem dX5_readArmy_132 : decode cX5_readArmy 132 = .ok (.ireturn, 1) := by decide +kernel
theorem dX5_readLine_0 : decode cX5_readLine 0 = .ok (.aload_n 0, 1) := by decide +kernel
theorem dX5_readLine_1 : decode cX5_readLine 1 = .ok (.ldc 89, 2) := by decide +kernel
theorem dX5_readLine_3 : decode cX5_readLine 3 = .ok (.invokevirtual 91, 3) := by decide +kernel
theorem dX5_readLine_6 : decode cX5_readLine 6 = .ok (.ifCond .eq 10, 3) := by decide +kernel
theorem dX5_readLine_9 : decode cX5_readLine 9 = .ok (.aload_n 0, 1) := by decide +kernel
theorem dX5_readLine_10 : decode cX5_readLine 10 = .ok (.invokevirtual 95, 3) := by decide +kernel
theorem dX5_readLine_13 : decode cX5_readLine 13 = .ok (.goto 130, 3) := by decide +kernel
theorem dX5_readLine_16 : decode cX5_readLine 16 = .ok (.aload_n 0, 1) := by decide +kernel
theorem dX5_readLine_17 : decode cX5_readLine 17 = .ok (.ldc 98, 2) := by decide +kernel
theorem dX5_readLine_19 : decode cX5_readLine 19 = .ok (.invokevirtual 91, 3) := by decide +kernel
theorem dX5_readLine_22 : decode cX5_readLine 22 = .ok (.ifCond .eq 10, 3) := by decide +kernel
theorem dX5_readLine_25 : decode cX5_readLine 25 = .ok (.aload_n 0, 1) := by decide +kernel
theorem dX5_readLine_26 : decode cX5_readLine 26 = .ok (.invokevirtual 100, 3) := by decide +kernel
theorem dX5_readLine_29 : decode cX5_readLine 29 = .ok (.goto 114, 3) := by decide +kernel
theorem dX5_readLine_32 : decode cX5_readLine 32 = .ok (.aload_n 0, 1) := by decide +kernel
theorem dX5_readLine_33 : decode cX5_readLine 33 = .ok (.ldc 103, 2) := by decide +kernel
theorem dX5_readLine_35 : decode cX5_readLine 35 = .ok (.invokevirtual 91, 3) := by decide +kernel
theorem dX5_readLine_38 : decode cX5_readLine 38 = .ok (.ifCond .eq 25, 3) := by decide +kernel
theorem dX5_readLine_41 : decode cX5_readLine 41 = .ok (.aload_n 0, 1) := by decide +kernel
theorem dX5_readLine_42 : decode cX5_readLine 42 = .ok (.iconst 1, 1) := by decide +kernel
theorem dX5_readLine_43 : decode cX5_readLine 43 = .ok (.invokevirtual 105, 3) := by decide +kernel
theorem dX5_readLine_46 : decode cX5_readLine 46 = .ok (.aload_n 0, 1) := by decide +kernel
theorem dX5_readLine_47 : decode cX5_readLine 47 = .ok (.getfield 12, 3) := by decide +kernel
theorem dX5_readLine_50 : decode cX5_readLine 50 = .ok (.aload_n 0, 1) := by decide +kernel
theorem dX5_readLine_51 : decode cX5_readLine 51 = .ok (.iconst 4, 1) := by decide +kernel
theorem dX5_readLine_52 : decode cX5_readLine 52 = .ok (.bipush 12, 2) := by decide +kernel
theorem dX5_readLine_54 : decode cX5_readLine 54 = .ok (.invokevirtual 109, 3) := by decide +kernel
theorem dX5_readLine_57 : decode cX5_readLine 57 = .ok (.putfield 113, 3) := by decide +kernel
theorem dX5_readLine_60 : decode cX5_readLine 60 = .ok (.goto 83, 3) := by decide +kernel
theorem dX5_readLine_63 : decode cX5_readLine 63 = .ok (.aload_n 0, 1) := by decide +kernel
theorem dX5_readLine_64 : decode cX5_readLine 64 = .ok (.ldc 115, 2) := by decide +kernel
theorem dX5_readLine_66 : decode cX5_readLine 66 = .ok (.invokevirtual 91, 3) := by decide +kernel
theorem dX5_readLine_69 : decode cX5_readLine 69 = .ok (.ifCond .eq 25, 3) := by decide +kernel
theorem dX5_readLine_72 : decode cX5_readLine 72 = .ok (.aload_n 0, 1) := by decide +kernel
theorem dX5_readLine_73 : decode cX5_readLine 73 = .ok (.iconst 2, 1) := by decide +kernel
theorem dX5_readLine_74 : decode cX5_readLine 74 = .ok (.invokevirtual 105, 3) := by decide +kernel
theorem dX5_readLine_77 : decode cX5_readLine 77 = .ok (.aload_n 0, 1) := by decide +kernel
theorem dX5_readLine_78 : decode cX5_readLine 78 = .ok (.getfield 12, 3) := by decide +kernel
theorem dX5_readLine_81 : decode cX5_readLine 81 = .ok (.aload_n 0, 1) := by decide +kernel
theorem dX5_readLine_82 : decode cX5_readLine 82 = .ok (.iconst 0, 1) := by decide +kernel
theorem dX5_readLine_83 : decode cX5_readLine 83 = .ok (.bipush 12, 2) := by decide +kernel
theorem dX5_readLine_85 : decode cX5_readLine 85 = .ok (.invokevirtual 109, 3) := by decide +kernel
theorem dX5_readLine_88 : decode cX5_readLine 88 = .ok (.putfield 117, 3) := by decide +kernel
theorem dX5_readLine_91 : decode cX5_readLine 91 = .ok (.goto 52, 3) := by decide +kernel
theorem dX5_readLine_94 : decode cX5_readLine 94 = .ok (.aload_n 0, 1) := by decide +kernel
theorem dX5_readLine_95 : decode cX5_readLine 95 = .ok (.ldc 119, 2) := by decide +kernel
theorem dX5_readLine_97 : decode cX5_readLine 97 = .ok (.invokevirtual 91, 3) := by decide +kernel
theorem dX5_readLine_100 : decode cX5_readLine 100 = .ok (.ifCond .eq 15, 3) := by decide +kernel
theorem dX5_readLine_103 : decode cX5_readLine 103 = .ok (.aload_n 0, 1) := by decide +kernel
theorem dX5_readLine_104 : decode cX5_readLine 104 = .ok (.iconst 4, 1) := by decide +kernel
theorem dX5_readLine_105 : decode cX5_readLine 105 = .ok (.invokevirtual 105, 3) := by decide +kernel
theorem dX5_readLine_108 : decode cX5_readLine 108 = .ok (.aload_n 0, 1) := by decide +kernel
theorem dX5_readLine_109 : decode cX5_readLine 109 = .ok (.invokevirtual 121, 3) := by decide +kernel
theorem dX5_readLine_112 : decode cX5_readLine 112 = .ok (.goto 31, 3) := by decide +kernel
theorem dX5_readLine_115 : decode cX5_readLine 115 = .ok (.aload_n 0, 1) := by decide +kernel
theorem dX5_readLine_116 : decode cX5_readLine 116 = .ok (.ldc 124, 2) := by decide +kernel
theorem dX5_readLine_118 : decode cX5_readLine 118 = .ok (.invokevirtual 91, 3) := by decide +kernel
theorem dX5_readLine_121 : decode cX5_readLine 121 = .ok (.ifCond .eq 17, 3) := by decide +kernel
theorem dX5_readLine_124 : decode cX5_readLine 124 = .ok (.aload_n 0, 1) := by decide +kernel
theorem dX5_readLine_125 : decode cX5_readLine 125 = .ok (.bipush 8, 2) := by decide +kernel
theorem dX5_readLine_127 : decode cX5_readLine 127 = .ok (.invokevirtual 105, 3) := by decide +kernel
theorem dX5_readLine_130 : decode cX5_readLine 130 = .ok (.aload_n 0, 1) := by decide +kernel
theorem dX5_readLine_131 : decode cX5_readLine 131 = .ok (.iconst 0, 1) := by decide +kernel
theorem dX5_readLine_132 : decode cX5_readLine 132 = .ok (.invokevirtual 126, 3) := by decide +kernel
theorem dX5_readLine_135 : decode cX5_readLine 135 = .ok (.goto 8, 3) := by decide +kernel
theorem dX5_readLine_138 : decode cX5_readLine 138 = .ok (.aload_n 0, 1) := by decide +kernel
theorem dX5_readLine_139 : decode cX5_readLine 139 = .ok (.iconst 1, 1) := by decide +kernel
theorem dX5_readLine_140 : decode cX5_readLine 140 = .ok (.invokevirtual 129, 3) := by decide +kernel
theorem dX5_readLine_143 : decode cX5_readLine 143 = .ok (.aload_n 0, 1) := by decide +kernel
theorem dX5_readLine_144 : decode cX5_readLine 144 = .ok (.bipush 59, 2) := by decide +kernel
theorem dX5_readLine_146 : decode cX5_readLine 146 = .ok (.invokevirtual 132, 3) := by decide +kernel
theorem dX5_readLine_149 : decode cX5_readLine 149 = .ok (.return_, 1) := by decide +kernel
theorem dX5_readMan_0 : decode cX5_readMan 0 = .ok (.aload_n 0, 1) := by decide +kernel
theorem dX5_readMan_1 : decode cX5_readMan 1 = .ok (.getfield 12, 3) := by decide +kernel
theorem dX5_readMan_4 : decode cX5_readMan 4 = .ok (.getfield 69, 3) := by decide +kernel
theorem dX5_readMan_7 : decode cX5_readMan 7 = .ok (.bipush 8, 2) := by decide +kernel
theorem dX5_readMan_9 : decode cX5_readMan 9 = .ok (.if_icmp .lt 9, 3) := by decide +kernel
theorem dX5_readMan_12 : decode cX5_readMan 12 = .ok (.aload_n 0, 1) := by decide +kernel
theorem dX5_readMan_13 : decode cX5_readMan 13 = .ok (.iconst 2, 1) := by decide +kernel
theorem dX5_readMan_14 : decode cX5_readMan 14 = .ok (.invokevirtual 129, 3) := by decide +kernel
theorem dX5_readMan_17 : decode cX5_readMan 17 = .ok (.return_, 1) := by decide +kernel
theorem dX5_readMan_18 : decode cX5_readMan 18 = .ok (.aload_n 0, 1) := by decide +kernel
theorem dX5_readMan_19 : decode cX5_readMan 19 = .ok (.invokevirtual 63, 3) := by decide +kernel
theorem dX5_readMan_22 : decode cX5_readMan 22 = .ok (.aload_n 0, 1) := by decide +kernel
theorem dX5_readMan_23 : decode cX5_readMan 23 = .ok (.getfield 23, 3) := by decide +kernel
theorem dX5_readMan_26 : decode cX5_readMan 26 = .ok (.getfield 72, 3) := by decide +kernel
theorem dX5_readMan_29 : decode cX5_readMan 29 = .ok (.aload_n 0, 1) := by decide +kernel
theorem dX5_readMan_30 : decode cX5_readMan 30 = .ok (.getfield 12, 3) := by decide +kernel
theorem dX5_readMan_33 : decode cX5_readMan 33 = .ok (.getfield 69, 3) := by decide +kernel
theorem dX5_readMan_36 : decode cX5_readMan 36 = .ok (.aload_n 0, 1) := by decide +kernel
theorem dX5_readMan_37 : decode cX5_readMan 37 = .ok (.iconst 0, 1) := by decide +kernel
theorem dX5_readMan_38 : decode cX5_readMan 38 = .ok (.sipush 4095, 3) := by decide +kernel
theorem dX5_readMan_41 : decode cX5_readMan 41 = .ok (.invokevirtual 109, 3) := by decide +kernel
theorem dX5_readMan_44 : decode cX5_readMan 44 = .ok (.invokevirtual 85, 3) := by decide +kernel
theorem dX5_readMan_47 : decode cX5_readMan 47 = .ok (.aload_n 0, 1) := by decide +kernel
theorem dX5_readMan_48 : decode cX5_readMan 48 = .ok (.getfield 23, 3) := by decide +kernel
theorem dX5_readMan_51 : decode cX5_readMan 51 = .ok (.getfield 135, 3) := by decide +kernel
theorem dX5_readMan_54 : decode cX5_readMan 54 = .ok (.aload_n 0, 1) := by decide +kernel
theorem dX5_readMan_55 : decode cX5_readMan 55 = .ok (.getfield 12, 3) := by decide +kernel
theorem dX5_readMan_58 : decode cX5_readMan 58 = .ok (.getfield 69, 3) := by decide +kernel
theorem dX5_readMan_61 : decode cX5_readMan 61 = .ok (.aload_n 0, 1) := by decide +kernel
theorem dX5_readMan_62 : decode cX5_readMan 62 = .ok (.iconst 1, 1) := by decide +kernel
theorem dX5_readMan_63 : decode cX5_readMan 63 = .ok (.bipush 9, 2) := by decide +kernel
theorem dX5_readMan_65 : decode cX5_readMan 65 = .ok (.invokevirtual 109, 3) := by decide +kernel
theorem dX5_readMan_68 : decode cX5_readMan 68 = .ok (.invokevirtual 85, 3) := by decide +kernel
theorem dX5_readMan_71 : decode cX5_readMan 71 = .ok (.aload_n 0, 1) := by decide +kernel
theorem dX5_readMan_72 : decode cX5_readMan 72 = .ok (.getfield 12, 3) := by decide +kernel
theorem dX5_readMan_75 : decode cX5_readMan 75 = .ok (.dup, 1) := by decide +kernel
theorem dX5_readMan_76 : decode cX5_readMan 76 = .ok (.getfield 69, 3) := by decide +kernel
theorem dX5_readMan_79 : decode cX5_readMan 79 = .ok (.iconst 1, 1) := by decide +kernel
theorem dX5_readMan_80 : decode cX5_readMan 80 = .ok (.iadd, 1) := by decide +kernel
theorem dX5_readMan_81 : decode cX5_readMan 81 = .ok (.putfield 69, 3) := by decide +kernel
theorem dX5_readMan_84 : decode cX5_readMan 84 = .ok (.return_, 1) := by decide +kernel
theorem dX5_readRow_0 : decode cX5_readRow 0 = .ok (.aload_n 0, 1) := by decide +kernel
theorem dX5_readRow_1 : decode cX5_readRow 1 = .ok (.getfield 12, 3) := by decide +kernel
theorem dX5_readRow_4 : decode cX5_readRow 4 = .ok (.getfield 138, 3) := by decide +kernel
theorem dX5_readRow_7 : decode cX5_readRow 7 = .ok (.bipush 8, 2) := by decide +kernel
theorem dX5_readRow_9 : decode cX5_readRow 9 = .ok (.if_icmp .lt 9, 3) := by decide +kernel
theorem dX5_readRow_12 : decode cX5_readRow 12 = .ok (.aload_n 0, 1) := by decide +kernel
theorem dX5_readRow_13 : decode cX5_readRow 13 = .ok (.iconst 2, 1) := by decide +kernel
theorem dX5_readRow_14 : decode cX5_readRow 14 = .ok (.invokevirtual 129, 3) := by decide +kernel
theorem dX5_readRow_17 : decode cX5_readRow 17 = .ok (.return_, 1) := by decide +kernel
theorem dX5_readRow_18 : decode cX5_readRow 18 = .ok (.aload_n 0, 1) := by decide +kernel
theorem dX5_readRow_19 : decode cX5_readRow 19 = .ok (.invokevirtual 63, 3) := by decide +kernel
theorem dX5_readRow_22 : decode cX5_readRow 22 = .ok (.iconst 0, 1) := by decide +kernel
theorem dX5_readRow_23 : decode cX5_readRow 23 = .ok (.istore_n 1, 1) := by decide +kernel
theorem dX5_readRow_24 : decode cX5_readRow 24 = .ok (.iconst 0, 1) := by decide +kernel
theorem dX5_readRow_25 : decode cX5_readRow 25 = .ok (.istore_n 2, 1) := by decide +kernel
theorem dX5_readRow_26 : decode cX5_readRow 26 = .ok (.iload_n 2, 1) := by decide +kernel
theorem dX5_readRow_27 : decode cX5_readRow 27 = .ok (.iconst 4, 1) := by decide +kernel
theorem dX5_readRow_28 : decode cX5_readRow 28 = .ok (.if_icmp .gt 25, 3) := by decide +kernel
theorem dX5_readRow_31 : decode cX5_readRow 31 = .ok (.aload_n 0, 1) := by decide +kernel
theorem dX5_readRow_32 : decode cX5_readRow 32 = .ok (.iload_n 2, 1) := by decide +kernel
theorem dX5_readRow_33 : decode cX5_readRow 33 = .ok (.invokevirtual 141, 3) := by decide +kernel
theorem dX5_readRow_36 : decode cX5_readRow 36 = .ok (.ifCond .eq 17, 3) := by decide +kernel
theorem dX5_readRow_39 : decode cX5_readRow 39 = .ok (.iload_n 1, 1) := by decide +kernel
theorem dX5_readRow_40 : decode cX5_readRow 40 = .ok (.aload_n 0, 1) := by decide +kernel
theorem dX5_readRow_41 : decode cX5_readRow 41 = .ok (.iload_n 2, 1) := by decide +kernel
theorem dX5_readRow_42 : decode cX5_readRow 42 = .ok (.invokevirtual 145, 3) := by decide +kernel
theorem dX5_readRow_45 : decode cX5_readRow 45 = .ok (.ior, 1) := by decide +kernel
theorem dX5_readRow_46 : decode cX5_readRow 46 = .ok (.istore_n 1, 1) := by decide +kernel
theorem dX5_readRow_47 : decode cX5_readRow 47 = .ok (.iinc 2 1, 3) := by decide +kernel
theorem dX5_readRow_50 : decode cX5_readRow 50 = .ok (.goto (-24), 3) := by decide +kernel
theorem dX5_readRow_53 : decode cX5_readRow 53 = .ok (.aload_n 0, 1) := by decide +kernel
theorem dX5_readRow_54 : decode cX5_readRow 54 = .ok (.getfield 23, 3) := by decide +kernel
theorem dX5_readRow_57 : decode cX5_readRow 57 = .ok (.getfield 148, 3) := by decide +kernel
theorem dX5_readRow_60 : decode cX5_readRow 60 = .ok (.aload_n 0, 1) := by decide +kernel
theorem dX5_readRow_61 : decode cX5_readRow 61 = .ok (.getfield 12, 3) := by decide +kernel
theorem dX5_readRow_64 : decode cX5_readRow 64 = .ok (.getfield 138, 3) := by decide +kernel
theorem dX5_readRow_67 : decode cX5_readRow 67 = .ok (.iload_n 1, 1) := by decide +kernel
theorem dX5_readRow_68 : decode cX5_readRow 68 = .ok (.invokevirtual 85, 3) := by decide +kernel
theorem dX5_readRow_71 : decode cX5_readRow 71 = .ok (.aload_n 0, 1) := by decide +kernel
theorem dX5_readRow_72 : decode cX5_readRow 72 = .ok (.getfield 12, 3) := by decide +kernel
theorem dX5_readRow_75 : decode cX5_readRow 75 = .ok (.dup, 1) := by decide +kernel
theorem dX5_readRow_76 : decode cX5_readRow 76 = .ok (.getfield 138, 3) := by decide +kernel
theorem dX5_readRow_79 : decode cX5_readRow 79 = .ok (.iconst 1, 1) := by decide +kernel
theorem dX5_readRow_80 : decode cX5_readRow 80 = .ok (.iadd, 1) := by decide +kernel
theorem dX5_readRow_81 : decode cX5_readRow 81 = .ok (.putfield 138, 3) := by decide +kernel
theorem dX5_readRow_84 : decode cX5_readRow 84 = .ok (.return_, 1) := by decide +kernel
theorem dX5_takeMan_0 : decode cX5_takeMan 0 = .ok (.iload_n 1, 1) := by decide +kernel
theorem dX5_takeMan_1 : decode cX5_takeMan 1 = .ok (.iconst 4, 1) := by decide +kernel
theorem dX5_takeMan_2 : decode cX5_takeMan 2 = .ok (.if_icmp .lt 8, 3) := by decide +kernel
theorem dX5_takeMan_5 : decode cX5_takeMan 5 = .ok (.aload_n 0, 1) := by decide +kernel
theorem dX5_takeMan_6 : decode cX5_takeMan 6 = .ok (.iconst 2, 1) := by decide +kernel
theorem dX5_takeMan_7 : decode cX5_takeMan 7 = .ok (.invokevirtual 129, 3) := by decide +kernel
theorem dX5_takeMan_10 : decode cX5_takeMan 10 = .ok (.aload_n 0, 1) := by decide +kernel
theorem dX5_takeMan_11 : decode cX5_takeMan 11 = .ok (.iconst 0, 1) := by decide +kernel
theorem dX5_takeMan_12 : decode cX5_takeMan 12 = .ok (.sipush 9999, 3) := by decide +kernel
theorem dX5_takeMan_15 : decode cX5_takeMan 15 = .ok (.invokevirtual 150, 3) := by decide +kernel
theorem dX5_takeMan_18 : decode cX5_takeMan 18 = .ok (.istore_n 2, 1) := by decide +kernel
theorem dX5_takeMan_19 : decode cX5_takeMan 19 = .ok (.iload_n 2, 1) := by decide +kernel
theorem dX5_takeMan_20 : decode cX5_takeMan 20 = .ok (.aload_n 0, 1) := by decide +kernel
theorem dX5_takeMan_21 : decode cX5_takeMan 21 = .ok (.getfield 12, 3) := by decide +kernel
theorem dX5_takeMan_24 : decode cX5_takeMan 24 = .ok (.getfield 69, 3) := by decide +kernel
theorem dX5_takeMan_27 : decode cX5_takeMan 27 = .ok (.if_icmp .lt 11, 3) := by decide +kernel
theorem dX5_takeMan_30 : decode cX5_takeMan 30 = .ok (.aload_n 0, 1) := by decide +kernel
theorem dX5_takeMan_31 : decode cX5_takeMan 31 = .ok (.iconst 3, 1) := by decide +kernel
theorem dX5_takeMan_32 : decode cX5_takeMan 32 = .ok (.invokevirtual 129, 3) := by decide +kernel
theorem dX5_takeMan_35 : decode cX5_takeMan 35 = .ok (.goto 19, 3) := by decide +kernel
theorem dX5_takeMan_38 : decode cX5_takeMan 38 = .ok (.aload_n 0, 1) := by decide +kernel
theorem dX5_takeMan_39 : decode cX5_takeMan 39 = .ok (.getfield 52, 3) := by decide +kernel
theorem dX5_takeMan_42 : decode cX5_takeMan 42 = .ok (.iload_n 2, 1) := by decide +kernel
theorem dX5_takeMan_43 : decode cX5_takeMan 43 = .ok (.invokestatic 153, 3) := by decide +kernel
theorem dX5_takeMan_46 : decode cX5_takeMan 46 = .ok (.ifCond .eq 8, 3) := by decide +kernel
theorem dX5_takeMan_49 : decode cX5_takeMan 49 = .ok (.aload_n 0, 1) := by decide +kernel
theorem dX5_takeMan_50 : decode cX5_takeMan 50 = .ok (.iconst 4, 1) := by decide +kernel
theorem dX5_takeMan_51 : decode cX5_takeMan 51 = .ok (.invokevirtual 129, 3) := by decide +kernel
theorem dX5_takeMan_54 : decode cX5_takeMan 54 = .ok (.aload_n 0, 1) := by decide +kernel
theorem dX5_takeMan_55 : decode cX5_takeMan 55 = .ok (.getfield 27, 3) := by decide +kernel
theorem dX5_takeMan_58 : decode cX5_takeMan 58 = .ok (.ifCond .eq 5, 3) := by decide +kernel
theorem dX5_takeMan_61 : decode cX5_takeMan 61 = .ok (.iconst 0, 1) := by decide +kernel
theorem dX5_takeMan_62 : decode cX5_takeMan 62 = .ok (.ireturn, 1) := by decide +kernel
theorem dX5_takeMan_63 : decode cX5_takeMan 63 = .ok (.aload_n 0, 1) := by decide +kernel
theorem dX5_takeMan_64 : decode cX5_takeMan 64 = .ok (.dup, 1) := by decide +kernel
theorem dX5_takeMan_65 : decode cX5_takeMan 65 = .ok (.getfield 52, 3) := by decide +kernel
theorem dX5_takeMan_68 : decode cX5_takeMan 68 = .ok (.iconst 1, 1) := by decide +kernel
theorem dX5_takeMan_69 : decode cX5_takeMan 69 = .ok (.iload_n 2, 1) := by decide +kernel
theorem dX5_takeMan_70 : decode cX5_takeMan 70 = .ok (.ishl, 1) := by decide +kernel
theorem dX5_takeMan_71 : decode cX5_takeMan 71 = .ok (.ior, 1) := by decide +kernel
theorem dX5_takeMan_72 : decode cX5_takeMan 72 = .ok (.putfield 52, 3) := by decide +kernel
theorem dX5_takeMan_75 : decode cX5_takeMan 75 = .ok (.aload_n 0, 1) := by decide +kernel
theorem dX5_takeMan_76 : decode cX5_takeMan 76 = .ok (.invokevirtual 63, 3) := by decide +kernel
theorem dX5_takeMan_79 : decode cX5_takeMan 79 = .ok (.iconst 1, 1) := by decide +kernel
theorem dX5_takeMan_80 : decode cX5_takeMan 80 = .ok (.iload_n 2, 1) := by decide +kernel
theorem dX5_takeMan_81 : decode cX5_takeMan 81 = .ok (.ishl, 1) := by decide +kernel
theorem dX5_takeMan_82 : decode cX5_takeMan 82 = .ok (.ireturn, 1) := by decide +kernel
theorem dX5_readMuds_0 : decode cX5_readMuds 0 = .ok (.iconst 0, 1) := by decide +kernel
theorem dX5_readMuds_1 : decode cX5_readMuds 1 = .ok (.istore_n 1, 1) := by decide +kernel
theorem dX5_readMuds_2 : decode cX5_readMuds 2 = .ok (.iload_n 1, 1) := by decide +kernel
theorem dX5_readMuds_3 : decode cX5_readMuds 3 = .ok (.bipush 8, 2) := by decide +kernel
theorem dX5_readMuds_5 : decode cX5_readMuds 5 = .ok (.if_icmp .gt 56, 3) := by decide +kernel
theorem dX5_readMuds_8 : decode cX5_readMuds 8 = .ok (.aload_n 0, 1) := by decide +kernel
theorem dX5_readMuds_9 : decode cX5_readMuds 9 = .ok (.iload_n 1, 1) := by decide +kernel
theorem dX5_readMuds_10 : decode cX5_readMuds 10 = .ok (.invokevirtual 141, 3) := by decide +kernel
theorem dX5_readMuds_13 : decode cX5_readMuds 13 = .ok (.ifCond .eq 48, 3) := by decide +kernel
theorem dX5_readMuds_16 : decode cX5_readMuds 16 = .ok (.iload_n 1, 1) := by decide +kernel
theorem dX5_readMuds_17 : decode cX5_readMuds 17 = .ok (.bipush 8, 2) := by decide +kernel
theorem dX5_readMuds_19 : decode cX5_readMuds 19 = .ok (.if_icmp .lt 8, 3) := by decide +kernel
theorem dX5_readMuds_22 : decode cX5_readMuds 22 = .ok (.aload_n 0, 1) := by decide +kernel
theorem dX5_readMuds_23 : decode cX5_readMuds 23 = .ok (.iconst 2, 1) := by decide +kernel
theorem dX5_readMuds_24 : decode cX5_readMuds 24 = .ok (.invokevirtual 129, 3) := by decide +kernel
theorem dX5_readMuds_27 : decode cX5_readMuds 27 = .ok (.aload_n 0, 1) := by decide +kernel
theorem dX5_readMuds_28 : decode cX5_readMuds 28 = .ok (.getfield 12, 3) := by decide +kernel
theorem dX5_readMuds_31 : decode cX5_readMuds 31 = .ok (.getfield 157, 3) := by decide +kernel
theorem dX5_readMuds_34 : decode cX5_readMuds 34 = .ok (.iload_n 1, 1) := by decide +kernel
theorem dX5_readMuds_35 : decode cX5_readMuds 35 = .ok (.aload_n 0, 1) := by decide +kernel
theorem dX5_readMuds_36 : decode cX5_readMuds 36 = .ok (.iconst 0, 1) := by decide +kernel
theorem dX5_readMuds_37 : decode cX5_readMuds 37 = .ok (.bipush 9, 2) := by decide +kernel
theorem dX5_readMuds_39 : decode cX5_readMuds 39 = .ok (.invokevirtual 109, 3) := by decide +kernel
theorem dX5_readMuds_42 : decode cX5_readMuds 42 = .ok (.invokevirtual 85, 3) := by decide +kernel
theorem dX5_readMuds_45 : decode cX5_readMuds 45 = .ok (.aload_n 0, 1) := by decide +kernel
theorem dX5_readMuds_46 : decode cX5_readMuds 46 = .ok (.getfield 12, 3) := by decide +kernel
theorem dX5_readMuds_49 : decode cX5_readMuds 49 = .ok (.iload_n 1, 1) := by decide +kernel
theorem dX5_readMuds_50 : decode cX5_readMuds 50 = .ok (.iconst 1, 1) := by decide +kernel
theorem dX5_readMuds_51 : decode cX5_readMuds 51 = .ok (.iadd, 1) := by decide +kernel
theorem dX5_readMuds_52 : decode cX5_readMuds 52 = .ok (.putfield 159, 3) := by decide +kernel
theorem dX5_readMuds_55 : decode cX5_readMuds 55 = .ok (.iinc 1 1, 3) := by decide +kernel
theorem dX5_readMuds_58 : decode cX5_readMuds 58 = .ok (.goto (-56), 3) := by decide +kernel
theorem dX5_readMuds_61 : decode cX5_readMuds 61 = .ok (.return_, 1) := by decide +kernel
theorem dX5_isNumberNext_0 : decode cX5_isNumberNext 0 = .ok (.aload_n 0, 1) := by decide +kernel
theorem dX5_isNumberNext_1 : decode cX5_isNumberNext 1 = .ok (.getfield 27, 3) := by decide +kernel
theorem dX5_isNumberNext_4 : decode cX5_isNumberNext 4 = .ok (.ifCond .ne 19, 3) := by decide +kernel
theorem dX5_isNumberNext_7 : decode cX5_isNumberNext 7 = .ok (.iload_n 1, 1) := by decide +kernel
theorem dX5_isNumberNext_8 : decode cX5_isNumberNext 8 = .ok (.ifCond .eq 11, 3) := by decide +kernel
theorem dX5_isNumberNext_11 : decode cX5_isNumberNext 11 = .ok (.aload_n 0, 1) := by decide +kernel
theorem dX5_isNumberNext_12 : decode cX5_isNumberNext 12 = .ok (.getfield 40, 3) := by decide +kernel
theorem dX5_isNumberNext_15 : decode cX5_isNumberNext 15 = .ok (.iconst 1, 1) := by decide +kernel
theorem dX5_isNumberNext_16 : decode cX5_isNumberNext 16 = .ok (.if_icmp .ne 7, 3) := by decide +kernel
theorem dX5_isNumberNext_19 : decode cX5_isNumberNext 19 = .ok (.iconst 1, 1) := by decide +kernel
theorem dX5_isNumberNext_20 : decode cX5_isNumberNext 20 = .ok (.goto 4, 3) := by decide +kernel
theorem dX5_isNumberNext_23 : decode cX5_isNumberNext 23 = .ok (.iconst 0, 1) := by decide +kernel
theorem dX5_isNumberNext_24 : decode cX5_isNumberNext 24 = .ok (.ireturn, 1) := by decide +kernel
theorem dX5_passOnce_0 : decode cX5_passOnce 0 = .ok (.aload_n 0, 1) := by decide +kernel
theorem dX5_passOnce_1 : decode cX5_passOnce 1 = .ok (.getfield 49, 3) := by decide +kernel
theorem dX5_passOnce_4 : decode cX5_passOnce 4 = .ok (.iload_n 1, 1) := by decide +kernel
theorem dX5_passOnce_5 : decode cX5_passOnce 5 = .ok (.iand, 1) := by decide +kernel
theorem dX5_passOnce_6 : decode cX5_passOnce 6 = .ok (.ifCond .eq 8, 3) := by decide +kernel
theorem dX5_passOnce_9 : decode cX5_passOnce 9 = .ok (.aload_n 0, 1) := by decide +kernel
theorem dX5_passOnce_10 : decode cX5_passOnce 10 = .ok (.iconst 5, 1) := by decide +kernel
theorem dX5_passOnce_11 : decode cX5_passOnce 11 = .ok (.invokevirtual 129, 3) := by decide +kernel
theorem dX5_passOnce_14 : decode cX5_passOnce 14 = .ok (.aload_n 0, 1) := by decide +kernel
theorem dX5_passOnce_15 : decode cX5_passOnce 15 = .ok (.dup, 1) := by decide +kernel
theorem dX5_passOnce_16 : decode cX5_passOnce 16 = .ok (.getfield 49, 3) := by decide +kernel
theorem dX5_passOnce_19 : decode cX5_passOnce 19 = .ok (.iload_n 1, 1) := by decide +kernel
theorem dX5_passOnce_20 : decode cX5_passOnce 20 = .ok (.ior, 1) := by decide +kernel
theorem dX5_passOnce_21 : decode cX5_passOnce 21 = .ok (.putfield 49, 3) := by decide +kernel
theorem dX5_passOnce_24 : decode cX5_passOnce 24 = .ok (.aload_n 0, 1) := by decide +kernel
theorem dX5_passOnce_25 : decode cX5_passOnce 25 = .ok (.invokevirtual 63, 3) := by decide +kernel
theorem dX5_passOnce_28 : decode cX5_passOnce 28 = .ok (.return_, 1) := by decide +kernel
theorem dX5_readExpr_0 : decode cX5_readExpr 0 = .ok (.iload_n 1, 1) := by decide +kernel
theorem dX5_readExpr_1 : decode cX5_readExpr 1 = .ok (.bipush 6, 2) := by decide +kernel
theorem dX5_readExpr_3 : decode cX5_readExpr 3 = .ok (.if_icmp .lt 38, 3) := by decide +kernel
theorem dX5_readExpr_6 : decode cX5_readExpr 6 = .ok (.aload_n 0, 1) := by decide +kernel
theorem dX5_readExpr_7 : decode cX5_readExpr 7 = .ok (.aload_n 0, 1) := by decide +kernel
theorem dX5_readExpr_8 : decode cX5_readExpr 8 = .ok (.getfield 40, 3) := by decide +kernel
theorem dX5_readExpr_11 : decode cX5_readExpr 11 = .ok (.iconst 1, 1) := by decide +kernel
theorem dX5_readExpr_12 : decode cX5_readExpr 12 = .ok (.if_icmp .eq 20, 3) := by decide +kernel
theorem dX5_readExpr_15 : decode cX5_readExpr 15 = .ok (.aload_n 0, 1) := by decide +kernel
theorem dX5_readExpr_16 : decode cX5_readExpr 16 = .ok (.getfield 40, 3) := by decide +kernel
theorem dX5_readExpr_19 : decode cX5_readExpr 19 = .ok (.iconst 2, 1) := by decide +kernel
theorem dX5_readExpr_20 : decode cX5_readExpr 20 = .ok (.if_icmp .eq 12, 3) := by decide +kernel
theorem dX5_readExpr_23 : decode cX5_readExpr 23 = .ok (.aload_n 0, 1) := by decide +kernel
theorem dX5_readExpr_24 : decode cX5_readExpr 24 = .ok (.bipush 40, 2) := by decide +kernel
theorem dX5_readExpr_26 : decode cX5_readExpr 26 = .ok (.invokevirtual 162, 3) := by decide +kernel
theorem dX5_readExpr_29 : decode cX5_readExpr 29 = .ok (.ifCond .eq 7, 3) := by decide +kernel
theorem dX5_readExpr_32 : decode cX5_readExpr 32 = .ok (.iconst 2, 1) := by decide +kernel
theorem dX5_readExpr_33 : decode cX5_readExpr 33 = .ok (.goto 4, 3) := by decide +kernel
theorem dX5_readExpr_36 : decode cX5_readExpr 36 = .ok (.iconst 1, 1) := by decide +kernel
theorem dX5_readExpr_37 : decode cX5_readExpr 37 = .ok (.invokevirtual 129, 3) := by decide +kernel
theorem dX5_readExpr_40 : decode cX5_readExpr 40 = .ok (.return_, 1) := by decide +kernel
theorem dX5_readExpr_41 : decode cX5_readExpr 41 = .ok (.aload_n 0, 1) := by decide +kernel
theorem dX5_readExpr_42 : decode cX5_readExpr 42 = .ok (.iload_n 1, 1) := by decide +kernel
theorem dX5_readExpr_43 : decode cX5_readExpr 43 = .ok (.invokevirtual 165, 3) := by decide +kernel
theorem dX5_readExpr_46 : decode cX5_readExpr 46 = .ok (.iconst 0, 1) := by decide +kernel
theorem dX5_readExpr_47 : decode cX5_readExpr 47 = .ok (.istore_n 2, 1) := by decide +kernel
theorem dX5_readExpr_48 : decode cX5_readExpr 48 = .ok (.iload_n 2, 1) := by decide +kernel
theorem dX5_readExpr_49 : decode cX5_readExpr 49 = .ok (.aload_n 0, 1) := by decide +kernel
theorem dX5_readExpr_50 : decode cX5_readExpr 50 = .ok (.getfield 34, 3) := by decide +kernel
theorem dX5_readExpr_53 : decode cX5_readExpr 53 = .ok (.if_icmp .ge 39, 3) := by decide +kernel
theorem dX5_readExpr_56 : decode cX5_readExpr 56 = .ok (.aload_n 0, 1) := by decide +kernel
theorem dX5_readExpr_57 : decode cX5_readExpr 57 = .ok (.ldc 168, 2) := by decide +kernel
theorem dX5_readExpr_59 : decode cX5_readExpr 59 = .ok (.invokevirtual 91, 3) := by decide +kernel
theorem dX5_readExpr_62 : decode cX5_readExpr 62 = .ok (.ifCond .eq 30, 3) := by decide +kernel
theorem dX5_readExpr_65 : decode cX5_readExpr 65 = .ok (.aload_n 0, 1) := by decide +kernel
theorem dX5_readExpr_66 : decode cX5_readExpr 66 = .ok (.invokevirtual 63, 3) := by decide +kernel
theorem dX5_readExpr_69 : decode cX5_readExpr 69 = .ok (.aload_n 0, 1) := by decide +kernel
theorem dX5_readExpr_70 : decode cX5_readExpr 70 = .ok (.iload_n 1, 1) := by decide +kernel
theorem dX5_readExpr_71 : decode cX5_readExpr 71 = .ok (.invokevirtual 165, 3) := by decide +kernel
theorem dX5_readExpr_74 : decode cX5_readExpr 74 = .ok (.aload_n 0, 1) := by decide +kernel
theorem dX5_readExpr_75 : decode cX5_readExpr 75 = .ok (.getfield 12, 3) := by decide +kernel
theorem dX5_readExpr_78 : decode cX5_readExpr 78 = .ok (.getfield 170, 3) := by decide +kernel
theorem dX5_readExpr_81 : decode cX5_readExpr 81 = .ok (.bipush (-15), 2) := by decide +kernel
theorem dX5_readExpr_83 : decode cX5_readExpr 83 = .ok (.invokevirtual 176, 3) := by decide +kernel
theorem dX5_readExpr_86 : decode cX5_readExpr 86 = .ok (.iinc 2 1, 3) := by decide +kernel
theorem dX5_readExpr_89 : decode cX5_readExpr 89 = .ok (.goto (-41), 3) := by decide +kernel
theorem dX5_readExpr_92 : decode cX5_readExpr 92 = .ok (.return_, 1) := by decide +kernel
theorem dX5_readAnd_0 : decode cX5_readAnd 0 = .ok (.aload_n 0, 1) := by decide +kernel
theorem dX5_readAnd_1 : decode cX5_readAnd 1 = .ok (.iload_n 1, 1) := by decide +kernel
theorem dX5_readAnd_2 : decode cX5_readAnd 2 = .ok (.invokevirtual 179, 3) := by decide +kernel
theorem dX5_readAnd_5 : decode cX5_readAnd 5 = .ok (.iconst 0, 1) := by decide +kernel
theorem dX5_readAnd_6 : decode cX5_readAnd 6 = .ok (.istore_n 2, 1) := by decide +kernel
theorem dX5_readAnd_7 : decode cX5_readAnd 7 = .ok (.iload_n 2, 1) := by decide +kernel
theorem dX5_readAnd_8 : decode cX5_readAnd 8 = .ok (.aload_n 0, 1) := by decide +kernel
theorem dX5_readAnd_9 : decode cX5_readAnd 9 = .ok (.getfield 34, 3) := by decide +kernel
theorem dX5_readAnd_12 : decode cX5_readAnd 12 = .ok (.if_icmp .ge 39, 3) := by decide +kernel
theorem dX5_readAnd_15 : decode cX5_readAnd 15 = .ok (.aload_n 0, 1) := by decide +kernel
theorem dX5_readAnd_16 : decode cX5_readAnd 16 = .ok (.ldc 182, 2) := by decide +kernel
theorem dX5_readAnd_18 : decode cX5_readAnd 18 = .ok (.invokevirtual 91, 3) := by decide +kernel
theorem dX5_readAnd_21 : decode cX5_readAnd 21 = .ok (.ifCond .eq 30, 3) := by decide +kernel
theorem dX5_readAnd_24 : decode cX5_readAnd 24 = .ok (.aload_n 0, 1) := by decide +kernel
theorem dX5_readAnd_25 : decode cX5_readAnd 25 = .ok (.invokevirtual 63, 3) := by decide +kernel
theorem dX5_readAnd_28 : decode cX5_readAnd 28 = .ok (.aload_n 0, 1) := by decide +kernel
theorem dX5_readAnd_29 : decode cX5_readAnd 29 = .ok (.iload_n 1, 1) := by decide +kernel
theorem dX5_readAnd_30 : decode cX5_readAnd 30 = .ok (.invokevirtual 179, 3) := by decide +kernel
theorem dX5_readAnd_33 : decode cX5_readAnd 33 = .ok (.aload_n 0, 1) := by decide +kernel
theorem dX5_readAnd_34 : decode cX5_readAnd 34 = .ok (.getfield 12, 3) := by decide +kernel
theorem dX5_readAnd_37 : decode cX5_readAnd 37 = .ok (.getfield 170, 3) := by decide +kernel
theorem dX5_readAnd_40 : decode cX5_readAnd 40 = .ok (.bipush (-14), 2) := by decide +kernel
theorem dX5_readAnd_42 : decode cX5_readAnd 42 = .ok (.invokevirtual 176, 3) := by decide +kernel
theorem dX5_readAnd_45 : decode cX5_readAnd 45 = .ok (.iinc 2 1, 3) := by decide +kernel
theorem dX5_readAnd_48 : decode cX5_readAnd 48 = .ok (.goto (-41), 3) := by decide +kernel
theorem dX5_readAnd_51 : decode cX5_readAnd 51 = .ok (.return_, 1) := by decide +kernel
theorem dX5_readNot_0 : decode cX5_readNot 0 = .ok (.iconst 0, 1) := by decide +kernel
theorem dX5_readNot_1 : decode cX5_readNot 1 = .ok (.istore_n 2, 1) := by decide +kernel
theorem dX5_readNot_2 : decode cX5_readNot 2 = .ok (.iconst 0, 1) := by decide +kernel
theorem dX5_readNot_3 : decode cX5_readNot 3 = .ok (.istore_n 3, 1) := by decide +kernel
theorem dX5_readNot_4 : decode cX5_readNot 4 = .ok (.iload_n 3, 1) := by decide +kernel
theorem dX5_readNot_5 : decode cX5_readNot 5 = .ok (.bipush 6, 2) := by decide +kernel
theorem dX5_readNot_7 : decode cX5_readNot 7 = .ok (.if_icmp .ge 25, 3) := by decide +kernel
theorem dX5_readNot_10 : decode cX5_readNot 10 = .ok (.aload_n 0, 1) := by decide +kernel
theorem dX5_readNot_11 : decode cX5_readNot 11 = .ok (.ldc 184, 2) := by decide +kernel
theorem dX5_readNot_13 : decode cX5_readNot 13 = .ok (.invokevirtual 91, 3) := by decide +kernel
theorem dX5_readNot_16 : decode cX5_readNot 16 = .ok (.ifCond .eq 16, 3) := by decide +kernel
theorem dX5_readNot_19 : decode cX5_readNot 19 = .ok (.iinc 2 1, 3) := by decide +kernel
theorem dX5_readNot_22 : decode cX5_readNot 22 = .ok (.aload_n 0, 1) := by decide +kernel
theorem dX5_readNot_23 : decode cX5_readNot 23 = .ok (.invokevirtual 63, 3) := by decide +kernel
theorem dX5_readNot_26 : decode cX5_readNot 26 = .ok (.iinc 3 1, 3) := by decide +kernel
theorem dX5_readNot_29 : decode cX5_readNot 29 = .ok (.goto (-25), 3) := by decide +kernel
theorem dX5_readNot_32 : decode cX5_readNot 32 = .ok (.aload_n 0, 1) := by decide +kernel
theorem dX5_readNot_33 : decode cX5_readNot 33 = .ok (.ldc 184, 2) := by decide +kernel
theorem dX5_readNot_35 : decode cX5_readNot 35 = .ok (.invokevirtual 91, 3) := by decide +kernel
theorem dX5_readNot_38 : decode cX5_readNot 38 = .ok (.ifCond .eq 8, 3) := by decide +kernel
theorem dX5_readNot_41 : decode cX5_readNot 41 = .ok (.aload_n 0, 1) := by decide +kernel
theorem dX5_readNot_42 : decode cX5_readNot 42 = .ok (.iconst 2, 1) := by decide +kernel
theorem dX5_readNot_43 : decode cX5_readNot 43 = .ok (.invokevirtual 129, 3) := by decide +kernel
theorem dX5_readNot_46 : decode cX5_readNot 46 = .ok (.aload_n 0, 1) := by decide +kernel
theorem dX5_readNot_47 : decode cX5_readNot 47 = .ok (.iload_n 1, 1) := by decide +kernel
theorem dX5_readNot_48 : decode cX5_readNot 48 = .ok (.invokevirtual 186, 3) := by decide +kernel
theorem dX5_readNot_51 : decode cX5_readNot 51 = .ok (.iconst 0, 1) := by decide +kernel
theorem dX5_readNot_52 : decode cX5_readNot 52 = .ok (.istore_n 3, 1) := by decide +kernel
theorem dX5_readNot_53 : decode cX5_readNot 53 = .ok (.iload_n 3, 1) := by decide +kernel
theorem dX5_readNot_54 : decode cX5_readNot 54 = .ok (.iload_n 2, 1) := by decide +kernel
theorem dX5_readNot_55 : decode cX5_readNot 55 = .ok (.if_icmp .ge 21, 3) := by decide +kernel
theorem dX5_readNot_58 : decode cX5_readNot 58 = .ok (.aload_n 0, 1) := by decide +kernel
theorem dX5_readNot_59 : decode cX5_readNot 59 = .ok (.getfield 12, 3) := by decide +kernel
theorem dX5_readNot_62 : decode cX5_readNot 62 = .ok (.getfield 170, 3) := by decide +kernel
theorem dX5_readNot_65 : decode cX5_readNot 65 = .ok (.bipush (-7), 2) := by decide +kernel
theorem dX5_readNot_67 : decode cX5_readNot 67 = .ok (.invokevirtual 176, 3) := by decide +kernel
theorem dX5_readNot_70 : decode cX5_readNot 70 = .ok (.iinc 3 1, 3) := by decide +kernel
theorem dX5_readNot_73 : decode cX5_readNot 73 = .ok (.goto (-20), 3) := by decide +kernel
theorem dX5_readNot_76 : decode cX5_readNot 76 = .ok (.return_, 1) := by decide +kernel
theorem dX5_readTest_0 : decode cX5_readTest 0 = .ok (.aload_n 0, 1) := by decide +kernel
theorem dX5_readTest_1 : decode cX5_readTest 1 = .ok (.iload_n 1, 1) := by decide +kernel
theorem dX5_readTest_2 : decode cX5_readTest 2 = .ok (.invokevirtual 189, 3) := by decide +kernel
theorem dX5_readTest_5 : decode cX5_readTest 5 = .ok (.aload_n 0, 1) := by decide +kernel
theorem dX5_readTest_6 : decode cX5_readTest 6 = .ok (.bipush 60, 2) := by decide +kernel
theorem dX5_readTest_8 : decode cX5_readTest 8 = .ok (.invokevirtual 162, 3) := by decide +kernel
theorem dX5_readTest_11 : decode cX5_readTest 11 = .ok (.ifCond .ne 12, 3) := by decide +kernel
theorem dX5_readTest_14 : decode cX5_readTest 14 = .ok (.aload_n 0, 1) := by decide +kernel
theorem dX5_readTest_15 : decode cX5_readTest 15 = .ok (.bipush 61, 2) := by decide +kernel
theorem dX5_readTest_17 : decode cX5_readTest 17 = .ok (.invokevirtual 162, 3) := by decide +kernel
theorem dX5_readTest_20 : decode cX5_readTest 20 = .ok (.ifCond .eq 40, 3) := by decide +kernel
theorem dX5_readTest_23 : decode cX5_readTest 23 = .ok (.aload_n 0, 1) := by decide +kernel
theorem dX5_readTest_24 : decode cX5_readTest 24 = .ok (.bipush 60, 2) := by decide +kernel
theorem dX5_readTest_26 : decode cX5_readTest 26 = .ok (.invokevirtual 162, 3) := by decide +kernel
theorem dX5_readTest_29 : decode cX5_readTest 29 = .ok (.ifCond .eq 8, 3) := by decide +kernel
theorem dX5_readTest_32 : decode cX5_readTest 32 = .ok (.bipush (-12), 2) := by decide +kernel
theorem dX5_readTest_34 : decode cX5_readTest 34 = .ok (.goto 5, 3) := by decide +kernel
theorem dX5_readTest_37 : decode cX5_readTest 37 = .ok (.bipush (-13), 2) := by decide +kernel
theorem dX5_readTest_39 : decode cX5_readTest 39 = .ok (.istore_n 2, 1) := by decide +kernel
theorem dX5_readTest_40 : decode cX5_readTest 40 = .ok (.aload_n 0, 1) := by decide +kernel
theorem dX5_readTest_41 : decode cX5_readTest 41 = .ok (.invokevirtual 63, 3) := by decide +kernel
theorem dX5_readTest_44 : decode cX5_readTest 44 = .ok (.aload_n 0, 1) := by decide +kernel
theorem dX5_readTest_45 : decode cX5_readTest 45 = .ok (.iload_n 1, 1) := by decide +kernel
theorem dX5_readTest_46 : decode cX5_readTest 46 = .ok (.invokevirtual 189, 3) := by decide +kernel
theorem dX5_readTest_49 : decode cX5_readTest 49 = .ok (.aload_n 0, 1) := by decide +kernel
theorem dX5_readTest_50 : decode cX5_readTest 50 = .ok (.getfield 12, 3) := by decide +kernel
theorem dX5_readTest_53 : decode cX5_readTest 53 = .ok (.getfield 170, 3) := by decide +kernel
theorem dX5_readTest_56 : decode cX5_readTest 56 = .ok (.iload_n 2, 1) := by decide +kernel
theorem dX5_readTest_57 : decode cX5_readTest 57 = .ok (.invokevirtual 176, 3) := by decide +kernel
theorem dX5_readTest_60 : decode cX5_readTest 60 = .ok (.return_, 1) := by decide +kernel
theorem dX5_readSum_0 : decode cX5_readSum 0 = .ok (.aload_n 0, 1) := by decide +kernel
theorem dX5_readSum_1 : decode cX5_readSum 1 = .ok (.iload_n 1, 1) := by decide +kernel
theorem dX5_readSum_2 : decode cX5_readSum 2 = .ok (.invokevirtual 192, 3) := by decide +kernel
theorem dX5_readSum_5 : decode cX5_readSum 5 = .ok (.iconst 0, 1) := by decide +kernel
theorem dX5_readSum_6 : decode cX5_readSum 6 = .ok (.istore_n 2, 1) := by decide +kernel
theorem dX5_readSum_7 : decode cX5_readSum 7 = .ok (.iload_n 2, 1) := by decide +kernel
theorem dX5_readSum_8 : decode cX5_readSum 8 = .ok (.aload_n 0, 1) := by decide +kernel
theorem dX5_readSum_9 : decode cX5_readSum 9 = .ok (.getfield 34, 3) := by decide +kernel
theorem dX5_readSum_12 : decode cX5_readSum 12 = .ok (.if_icmp .ge 64, 3) := by decide +kernel
theorem dX5_readSum_15 : decode cX5_readSum 15 = .ok (.aload_n 0, 1) := by decide +kernel
theorem dX5_readSum_16 : decode cX5_readSum 16 = .ok (.bipush 43, 2) := by decide +kernel
theorem dX5_readSum_18 : decode cX5_readSum 18 = .ok (.invokevirtual 162, 3) := by decide +kernel
theorem dX5_readSum_21 : decode cX5_readSum 21 = .ok (.ifCond .ne 12, 3) := by decide +kernel
theorem dX5_readSum_24 : decode cX5_readSum 24 = .ok (.aload_n 0, 1) := by decide +kernel
theorem dX5_readSum_25 : decode cX5_readSum 25 = .ok (.bipush 45, 2) := by decide +kernel
theorem dX5_readSum_27 : decode cX5_readSum 27 = .ok (.invokevirtual 162, 3) := by decide +kernel
theorem dX5_readSum_30 : decode cX5_readSum 30 = .ok (.ifCond .eq 46, 3) := by decide +kernel
theorem dX5_readSum_33 : decode cX5_readSum 33 = .ok (.aload_n 0, 1) := by decide +kernel
theorem dX5_readSum_34 : decode cX5_readSum 34 = .ok (.bipush 43, 2) := by decide +kernel
theorem dX5_readSum_36 : decode cX5_readSum 36 = .ok (.invokevirtual 162, 3) := by decide +kernel
theorem dX5_readSum_39 : decode cX5_readSum 39 = .ok (.ifCond .eq 8, 3) := by decide +kernel
theorem dX5_readSum_42 : decode cX5_readSum 42 = .ok (.bipush (-8), 2) := by decide +kernel
theorem dX5_readSum_44 : decode cX5_readSum 44 = .ok (.goto 5, 3) := by decide +kernel
theorem dX5_readSum_47 : decode cX5_readSum 47 = .ok (.bipush (-9), 2) := by decide +kernel
theorem dX5_readSum_49 : decode cX5_readSum 49 = .ok (.istore_n 3, 1) := by decide +kernel
theorem dX5_readSum_50 : decode cX5_readSum 50 = .ok (.aload_n 0, 1) := by decide +kernel
theorem dX5_readSum_51 : decode cX5_readSum 51 = .ok (.invokevirtual 63, 3) := by decide +kernel
theorem dX5_readSum_54 : decode cX5_readSum 54 = .ok (.aload_n 0, 1) := by decide +kernel
theorem dX5_readSum_55 : decode cX5_readSum 55 = .ok (.iload_n 1, 1) := by decide +kernel
theorem dX5_readSum_56 : decode cX5_readSum 56 = .ok (.invokevirtual 192, 3) := by decide +kernel
theorem dX5_readSum_59 : decode cX5_readSum 59 = .ok (.aload_n 0, 1) := by decide +kernel
theorem dX5_readSum_60 : decode cX5_readSum 60 = .ok (.getfield 12, 3) := by decide +kernel
theorem dX5_readSum_63 : decode cX5_readSum 63 = .ok (.getfield 170, 3) := by decide +kernel
theorem dX5_readSum_66 : decode cX5_readSum 66 = .ok (.iload_n 3, 1) := by decide +kernel
theorem dX5_readSum_67 : decode cX5_readSum 67 = .ok (.invokevirtual 176, 3) := by decide +kernel
theorem dX5_readSum_70 : decode cX5_readSum 70 = .ok (.iinc 2 1, 3) := by decide +kernel
theorem dX5_readSum_73 : decode cX5_readSum 73 = .ok (.goto (-66), 3) := by decide +kernel
theorem dX5_readSum_76 : decode cX5_readSum 76 = .ok (.return_, 1) := by decide +kernel
theorem dX5_readProduct_0 : decode cX5_readProduct 0 = .ok (.aload_n 0, 1) := by decide +kernel
theorem dX5_readProduct_1 : decode cX5_readProduct 1 = .ok (.iload_n 1, 1) := by decide +kernel
theorem dX5_readProduct_2 : decode cX5_readProduct 2 = .ok (.invokevirtual 195, 3) := by decide +kernel
theorem dX5_readProduct_5 : decode cX5_readProduct 5 = .ok (.iconst 0, 1) := by decide +kernel
theorem dX5_readProduct_6 : decode cX5_readProduct 6 = .ok (.istore_n 2, 1) := by decide +kernel
theorem dX5_readProduct_7 : decode cX5_readProduct 7 = .ok (.iload_n 2, 1) := by decide +kernel
theorem dX5_readProduct_8 : decode cX5_readProduct 8 = .ok (.aload_n 0, 1) := by decide +kernel
theorem dX5_readProduct_9 : decode cX5_readProduct 9 = .ok (.getfield 34, 3) := by decide +kernel
theorem dX5_readProduct_12 : decode cX5_readProduct 12 = .ok (.if_icmp .ge 64, 3) := by decide +kernel
theorem dX5_readProduct_15 : decode cX5_readProduct 15 = .ok (.aload_n 0, 1) := by decide +kernel
theorem dX5_readProduct_16 : decode cX5_readProduct 16 = .ok (.bipush 42, 2) := by decide +kernel
theorem dX5_readProduct_18 : decode cX5_readProduct 18 = .ok (.invokevirtual 162, 3) := by decide +kernel
theorem dX5_readProduct_21 : decode cX5_readProduct 21 = .ok (.ifCond .ne 12, 3) := by decide +kernel
theorem dX5_readProduct_24 : decode cX5_readProduct 24 = .ok (.aload_n 0, 1) := by decide +kernel
theorem dX5_readProduct_25 : decode cX5_readProduct 25 = .ok (.bipush 47, 2) := by decide +kernel
theorem dX5_readProduct_27 : decode cX5_readProduct 27 = .ok (.invokevirtual 162, 3) := by decide +kernel
theorem dX5_readProduct_30 : decode cX5_readProduct 30 = .ok (.ifCond .eq 46, 3) := by decide +kernel
theorem dX5_readProduct_33 : decode cX5_readProduct 33 = .ok (.aload_n 0, 1) := by decide +kernel
theorem dX5_readProduct_34 : decode cX5_readProduct 34 = .ok (.bipush 42, 2) := by decide +kernel
theorem dX5_readProduct_36 : decode cX5_readProduct 36 = .ok (.invokevirtual 162, 3) := by decide +kernel
theorem dX5_readProduct_39 : decode cX5_readProduct 39 = .ok (.ifCond .eq 8, 3) := by decide +kernel
theorem dX5_readProduct_42 : decode cX5_readProduct 42 = .ok (.bipush (-10), 2) := by decide +kernel
theorem dX5_readProduct_44 : decode cX5_readProduct 44 = .ok (.goto 5, 3) := by decide +kernel
theorem dX5_readProduct_47 : decode cX5_readProduct 47 = .ok (.bipush (-11), 2) := by decide +kernel
theorem dX5_readProduct_49 : decode cX5_readProduct 49 = .ok (.istore_n 3, 1) := by decide +kernel
theorem dX5_readProduct_50 : decode cX5_readProduct 50 = .ok (.aload_n 0, 1) := by decide +kernel
theorem dX5_readProduct_51 : decode cX5_readProduct 51 = .ok (.invokevirtual 63, 3) := by decide +kernel
theorem dX5_readProduct_54 : decode cX5_readProduct 54 = .ok (.aload_n 0, 1) := by decide +kernel
theorem dX5_readProduct_55 : decode cX5_readProduct 55 = .ok (.iload_n 1, 1) := by decide +kernel
theorem dX5_readProduct_56 : decode cX5_readProduct 56 = .ok (.invokevirtual 195, 3) := by decide +kernel
theorem dX5_readProduct_59 : decode cX5_readProduct 59 = .ok (.aload_n 0, 1) := by decide +kernel
theorem dX5_readProduct_60 : decode cX5_readProduct 60 = .ok (.getfield 12, 3) := by decide +kernel
theorem dX5_readProduct_63 : decode cX5_readProduct 63 = .ok (.getfield 170, 3) := by decide +kernel
