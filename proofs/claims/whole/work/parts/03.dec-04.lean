theorem dX11_toSock_72 : decode cX11_toSock 72 = .ok (.iconst (-1), 1) := by decide +kernel
theorem dX11_toSock_73 : decode cX11_toSock 73 = .ok (.ireturn, 1) := by decide +kernel
theorem dX11_power_0 : decode cX11_power 0 = .ok (.iconst 1, 1) := by decide +kernel
theorem dX11_power_1 : decode cX11_power 1 = .ok (.istore_n 2, 1) := by decide +kernel
theorem dX11_power_2 : decode cX11_power 2 = .ok (.iconst 0, 1) := by decide +kernel
theorem dX11_power_3 : decode cX11_power 3 = .ok (.istore_n 3, 1) := by decide +kernel
theorem dX11_power_4 : decode cX11_power 4 = .ok (.iload_n 3, 1) := by decide +kernel
theorem dX11_power_5 : decode cX11_power 5 = .ok (.iload_n 1, 1) := by decide +kernel
theorem dX11_power_6 : decode cX11_power 6 = .ok (.if_icmp .ge 13, 3) := by decide +kernel
theorem dX11_power_9 : decode cX11_power 9 = .ok (.iload_n 0, 1) := by decide +kernel
theorem dX11_power_10 : decode cX11_power 10 = .ok (.iload_n 2, 1) := by decide +kernel
theorem dX11_power_11 : decode cX11_power 11 = .ok (.imul, 1) := by decide +kernel
theorem dX11_power_12 : decode cX11_power 12 = .ok (.istore_n 2, 1) := by decide +kernel
theorem dX11_power_13 : decode cX11_power 13 = .ok (.iinc 3 1, 3) := by decide +kernel
theorem dX11_power_16 : decode cX11_power 16 = .ok (.goto (-12), 3) := by decide +kernel
theorem dX11_power_19 : decode cX11_power 19 = .ok (.iload_n 2, 1) := by decide +kernel
theorem dX11_power_20 : decode cX11_power 20 = .ok (.ireturn, 1) := by decide +kernel
theorem dX11_isOrder_0 : decode cX11_isOrder 0 = .ok (.iconst 0, 1) := by decide +kernel
theorem dX11_isOrder_1 : decode cX11_isOrder 1 = .ok (.istore_n 2, 1) := by decide +kernel
theorem dX11_isOrder_2 : decode cX11_isOrder 2 = .ok (.iload_n 1, 1) := by decide +kernel
theorem dX11_isOrder_3 : decode cX11_isOrder 3 = .ok (.istore_n 3, 1) := by decide +kernel
theorem dX11_isOrder_4 : decode cX11_isOrder 4 = .ok (.aload_n 0, 1) := by decide +kernel
theorem dX11_isOrder_5 : decode cX11_isOrder 5 = .ok (.invokevirtual 347, 3) := by decide +kernel
theorem dX11_isOrder_8 : decode cX11_isOrder 8 = .ok (.aload_n 0, 1) := by decide +kernel
theorem dX11_isOrder_9 : decode cX11_isOrder 9 = .ok (.getfield 254, 3) := by decide +kernel
theorem dX11_isOrder_12 : decode cX11_isOrder 12 = .ok (.iconst 1, 1) := by decide +kernel
theorem dX11_isOrder_13 : decode cX11_isOrder 13 = .ok (.isub, 1) := by decide +kernel
theorem dX11_isOrder_14 : decode cX11_isOrder 14 = .ok (.istore 4, 2) := by decide +kernel
theorem dX11_isOrder_16 : decode cX11_isOrder 16 = .ok (.iload 4, 2) := by decide +kernel
theorem dX11_isOrder_18 : decode cX11_isOrder 18 = .ok (.ifCond .lt 51, 3) := by decide +kernel
theorem dX11_isOrder_21 : decode cX11_isOrder 21 = .ok (.iload_n 3, 1) := by decide +kernel
theorem dX11_isOrder_22 : decode cX11_isOrder 22 = .ok (.aload_n 0, 1) := by decide +kernel
theorem dX11_isOrder_23 : decode cX11_isOrder 23 = .ok (.getfield 254, 3) := by decide +kernel
theorem dX11_isOrder_26 : decode cX11_isOrder 26 = .ok (.irem, 1) := by decide +kernel
theorem dX11_isOrder_27 : decode cX11_isOrder 27 = .ok (.istore 5, 2) := by decide +kernel
theorem dX11_isOrder_29 : decode cX11_isOrder 29 = .ok (.iload_n 3, 1) := by decide +kernel
theorem dX11_isOrder_30 : decode cX11_isOrder 30 = .ok (.aload_n 0, 1) := by decide +kernel
theorem dX11_isOrder_31 : decode cX11_isOrder 31 = .ok (.getfield 254, 3) := by decide +kernel
theorem dX11_isOrder_34 : decode cX11_isOrder 34 = .ok (.idiv, 1) := by decide +kernel
theorem dX11_isOrder_35 : decode cX11_isOrder 35 = .ok (.istore_n 3, 1) := by decide +kernel
theorem dX11_isOrder_36 : decode cX11_isOrder 36 = .ok (.aload_n 0, 1) := by decide +kernel
theorem dX11_isOrder_37 : decode cX11_isOrder 37 = .ok (.getfield 51, 3) := by decide +kernel
theorem dX11_isOrder_40 : decode cX11_isOrder 40 = .ok (.bipush 58, 2) := by decide +kernel
theorem dX11_isOrder_42 : decode cX11_isOrder 42 = .ok (.iload 4, 2) := by decide +kernel
theorem dX11_isOrder_44 : decode cX11_isOrder 44 = .ok (.iadd, 1) := by decide +kernel
theorem dX11_isOrder_45 : decode cX11_isOrder 45 = .ok (.aload_n 0, 1) := by decide +kernel
theorem dX11_isOrder_46 : decode cX11_isOrder 46 = .ok (.getfield 51, 3) := by decide +kernel
theorem dX11_isOrder_49 : decode cX11_isOrder 49 = .ok (.bipush 25, 2) := by decide +kernel
theorem dX11_isOrder_51 : decode cX11_isOrder 51 = .ok (.iload 5, 2) := by decide +kernel
theorem dX11_isOrder_53 : decode cX11_isOrder 53 = .ok (.iadd, 1) := by decide +kernel
theorem dX11_isOrder_54 : decode cX11_isOrder 54 = .ok (.iaload, 1) := by decide +kernel
theorem dX11_isOrder_55 : decode cX11_isOrder 55 = .ok (.iastore, 1) := by decide +kernel
theorem dX11_isOrder_56 : decode cX11_isOrder 56 = .ok (.iload_n 2, 1) := by decide +kernel
theorem dX11_isOrder_57 : decode cX11_isOrder 57 = .ok (.iconst 1, 1) := by decide +kernel
theorem dX11_isOrder_58 : decode cX11_isOrder 58 = .ok (.iload 5, 2) := by decide +kernel
theorem dX11_isOrder_60 : decode cX11_isOrder 60 = .ok (.ishl, 1) := by decide +kernel
theorem dX11_isOrder_61 : decode cX11_isOrder 61 = .ok (.ior, 1) := by decide +kernel
theorem dX11_isOrder_62 : decode cX11_isOrder 62 = .ok (.istore_n 2, 1) := by decide +kernel
theorem dX11_isOrder_63 : decode cX11_isOrder 63 = .ok (.iinc 4 (-1), 3) := by decide +kernel
theorem dX11_isOrder_66 : decode cX11_isOrder 66 = .ok (.goto (-50), 3) := by decide +kernel
theorem dX11_isOrder_69 : decode cX11_isOrder 69 = .ok (.iload_n 2, 1) := by decide +kernel
theorem dX11_isOrder_70 : decode cX11_isOrder 70 = .ok (.iconst 1, 1) := by decide +kernel
theorem dX11_isOrder_71 : decode cX11_isOrder 71 = .ok (.aload_n 0, 1) := by decide +kernel
theorem dX11_isOrder_72 : decode cX11_isOrder 72 = .ok (.getfield 254, 3) := by decide +kernel
theorem dX11_isOrder_75 : decode cX11_isOrder 75 = .ok (.ishl, 1) := by decide +kernel
theorem dX11_isOrder_76 : decode cX11_isOrder 76 = .ok (.iconst 1, 1) := by decide +kernel
theorem dX11_isOrder_77 : decode cX11_isOrder 77 = .ok (.isub, 1) := by decide +kernel
theorem dX11_isOrder_78 : decode cX11_isOrder 78 = .ok (.if_icmp .ne 7, 3) := by decide +kernel
theorem dX11_isOrder_81 : decode cX11_isOrder 81 = .ok (.iconst 1, 1) := by decide +kernel
theorem dX11_isOrder_82 : decode cX11_isOrder 82 = .ok (.goto 4, 3) := by decide +kernel
theorem dX11_isOrder_85 : decode cX11_isOrder 85 = .ok (.iconst 0, 1) := by decide +kernel
theorem dX11_isOrder_86 : decode cX11_isOrder 86 = .ok (.ireturn, 1) := by decide +kernel
theorem dX11_rightOnes_0 : decode cX11_rightOnes 0 = .ok (.iconst 0, 1) := by decide +kernel
theorem dX11_rightOnes_1 : decode cX11_rightOnes 1 = .ok (.istore_n 1, 1) := by decide +kernel
theorem dX11_rightOnes_2 : decode cX11_rightOnes 2 = .ok (.iconst 0, 1) := by decide +kernel
theorem dX11_rightOnes_3 : decode cX11_rightOnes 3 = .ok (.istore_n 2, 1) := by decide +kernel
theorem dX11_rightOnes_4 : decode cX11_rightOnes 4 = .ok (.iload_n 2, 1) := by decide +kernel
theorem dX11_rightOnes_5 : decode cX11_rightOnes 5 = .ok (.aload_n 0, 1) := by decide +kernel
theorem dX11_rightOnes_6 : decode cX11_rightOnes 6 = .ok (.getfield 254, 3) := by decide +kernel
theorem dX11_rightOnes_9 : decode cX11_rightOnes 9 = .ok (.if_icmp .ge 47, 3) := by decide +kernel
theorem dX11_rightOnes_12 : decode cX11_rightOnes 12 = .ok (.aload_n 0, 1) := by decide +kernel
theorem dX11_rightOnes_13 : decode cX11_rightOnes 13 = .ok (.bipush 33, 2) := by decide +kernel
theorem dX11_rightOnes_15 : decode cX11_rightOnes 15 = .ok (.iload_n 2, 1) := by decide +kernel
theorem dX11_rightOnes_16 : decode cX11_rightOnes 16 = .ok (.invokevirtual 302, 3) := by decide +kernel
theorem dX11_rightOnes_19 : decode cX11_rightOnes 19 = .ok (.istore_n 3, 1) := by decide +kernel
theorem dX11_rightOnes_20 : decode cX11_rightOnes 20 = .ok (.iload_n 1, 1) := by decide +kernel
theorem dX11_rightOnes_21 : decode cX11_rightOnes 21 = .ok (.iload_n 3, 1) := by decide +kernel
theorem dX11_rightOnes_22 : decode cX11_rightOnes 22 = .ok (.iconst (-1), 1) := by decide +kernel
theorem dX11_rightOnes_23 : decode cX11_rightOnes 23 = .ok (.if_icmp .eq 24, 3) := by decide +kernel
theorem dX11_rightOnes_26 : decode cX11_rightOnes 26 = .ok (.aload_n 0, 1) := by decide +kernel
theorem dX11_rightOnes_27 : decode cX11_rightOnes 27 = .ok (.getfield 51, 3) := by decide +kernel
theorem dX11_rightOnes_30 : decode cX11_rightOnes 30 = .ok (.bipush 58, 2) := by decide +kernel
theorem dX11_rightOnes_32 : decode cX11_rightOnes 32 = .ok (.iload_n 2, 1) := by decide +kernel
theorem dX11_rightOnes_33 : decode cX11_rightOnes 33 = .ok (.iadd, 1) := by decide +kernel
theorem dX11_rightOnes_34 : decode cX11_rightOnes 34 = .ok (.iaload, 1) := by decide +kernel
theorem dX11_rightOnes_35 : decode cX11_rightOnes 35 = .ok (.iload_n 3, 1) := by decide +kernel
theorem dX11_rightOnes_36 : decode cX11_rightOnes 36 = .ok (.ishr, 1) := by decide +kernel
theorem dX11_rightOnes_37 : decode cX11_rightOnes 37 = .ok (.iconst 1, 1) := by decide +kernel
theorem dX11_rightOnes_38 : decode cX11_rightOnes 38 = .ok (.iand, 1) := by decide +kernel
theorem dX11_rightOnes_39 : decode cX11_rightOnes 39 = .ok (.iconst 1, 1) := by decide +kernel
theorem dX11_rightOnes_40 : decode cX11_rightOnes 40 = .ok (.if_icmp .ne 7, 3) := by decide +kernel
theorem dX11_rightOnes_43 : decode cX11_rightOnes 43 = .ok (.iconst 1, 1) := by decide +kernel
theorem dX11_rightOnes_44 : decode cX11_rightOnes 44 = .ok (.goto 4, 3) := by decide +kernel
theorem dX11_rightOnes_47 : decode cX11_rightOnes 47 = .ok (.iconst 0, 1) := by decide +kernel
theorem dX11_rightOnes_48 : decode cX11_rightOnes 48 = .ok (.iadd, 1) := by decide +kernel
theorem dX11_rightOnes_49 : decode cX11_rightOnes 49 = .ok (.istore_n 1, 1) := by decide +kernel
theorem dX11_rightOnes_50 : decode cX11_rightOnes 50 = .ok (.iinc 2 1, 3) := by decide +kernel
theorem dX11_rightOnes_53 : decode cX11_rightOnes 53 = .ok (.goto (-49), 3) := by decide +kernel
theorem dX11_rightOnes_56 : decode cX11_rightOnes 56 = .ok (.iload_n 1, 1) := by decide +kernel
theorem dX11_rightOnes_57 : decode cX11_rightOnes 57 = .ok (.ireturn, 1) := by decide +kernel
theorem dX11_review_0 : decode cX11_review 0 = .ok (.aload_n 0, 1) := by decide +kernel
theorem dX11_review_1 : decode cX11_review 1 = .ok (.iconst 0, 1) := by decide +kernel
theorem dX11_review_2 : decode cX11_review 2 = .ok (.putfield 84, 3) := by decide +kernel
theorem dX11_review_5 : decode cX11_review 5 = .ok (.aload_n 0, 1) := by decide +kernel
theorem dX11_review_6 : decode cX11_review 6 = .ok (.iload_n 1, 1) := by decide +kernel
theorem dX11_review_7 : decode cX11_review 7 = .ok (.iconst (-1), 1) := by decide +kernel
theorem dX11_review_8 : decode cX11_review 8 = .ok (.if_icmp .lt 15, 3) := by decide +kernel
theorem dX11_review_11 : decode cX11_review 11 = .ok (.iload_n 1, 1) := by decide +kernel
theorem dX11_review_12 : decode cX11_review 12 = .ok (.aload_n 0, 1) := by decide +kernel
theorem dX11_review_13 : decode cX11_review 13 = .ok (.getfield 254, 3) := by decide +kernel
theorem dX11_review_16 : decode cX11_review 16 = .ok (.if_icmp .ge 7, 3) := by decide +kernel
theorem dX11_review_19 : decode cX11_review 19 = .ok (.iconst 1, 1) := by decide +kernel
theorem dX11_review_20 : decode cX11_review 20 = .ok (.goto 4, 3) := by decide +kernel
theorem dX11_review_23 : decode cX11_review 23 = .ok (.iconst 0, 1) := by decide +kernel
theorem dX11_review_24 : decode cX11_review 24 = .ok (.iconst 1, 1) := by decide +kernel
theorem dX11_review_25 : decode cX11_review 25 = .ok (.invokevirtual 244, 3) := by decide +kernel
theorem dX11_review_28 : decode cX11_review 28 = .ok (.ifCond .ne 5, 3) := by decide +kernel
theorem dX11_review_31 : decode cX11_review 31 = .ok (.iconst 0, 1) := by decide +kernel
theorem dX11_review_32 : decode cX11_review 32 = .ok (.ireturn, 1) := by decide +kernel
theorem dX11_review_33 : decode cX11_review 33 = .ok (.aload_n 0, 1) := by decide +kernel
theorem dX11_review_34 : decode cX11_review 34 = .ok (.getfield 254, 3) := by decide +kernel
theorem dX11_review_37 : decode cX11_review 37 = .ok (.bipush 6, 2) := by decide +kernel
theorem dX11_review_39 : decode cX11_review 39 = .ok (.if_icmp .le 6, 3) := by decide +kernel
theorem dX11_review_42 : decode cX11_review 42 = .ok (.bipush (-2), 2) := by decide +kernel
theorem dX11_review_44 : decode cX11_review 44 = .ok (.ireturn, 1) := by decide +kernel
theorem dX11_review_45 : decode cX11_review 45 = .ok (.iconst (-1), 1) := by decide +kernel
theorem dX11_review_46 : decode cX11_review 46 = .ok (.istore_n 2, 1) := by decide +kernel
theorem dX11_review_47 : decode cX11_review 47 = .ok (.iconst 0, 1) := by decide +kernel
theorem dX11_review_48 : decode cX11_review 48 = .ok (.istore_n 3, 1) := by decide +kernel
theorem dX11_review_49 : decode cX11_review 49 = .ok (.iconst 0, 1) := by decide +kernel
theorem dX11_review_50 : decode cX11_review 50 = .ok (.istore 4, 2) := by decide +kernel
theorem dX11_review_52 : decode cX11_review 52 = .ok (.iload 4, 2) := by decide +kernel
theorem dX11_review_54 : decode cX11_review 54 = .ok (.aload_n 0, 1) := by decide +kernel
theorem dX11_review_55 : decode cX11_review 55 = .ok (.getfield 254, 3) := by decide +kernel
theorem dX11_review_58 : decode cX11_review 58 = .ok (.aload_n 0, 1) := by decide +kernel
theorem dX11_review_59 : decode cX11_review 59 = .ok (.getfield 254, 3) := by decide +kernel
theorem dX11_review_62 : decode cX11_review 62 = .ok (.invokestatic 366, 3) := by decide +kernel
theorem dX11_review_65 : decode cX11_review 65 = .ok (.if_icmp .ge 42, 3) := by decide +kernel
theorem dX11_review_68 : decode cX11_review 68 = .ok (.aload_n 0, 1) := by decide +kernel
theorem dX11_review_69 : decode cX11_review 69 = .ok (.iload 4, 2) := by decide +kernel
theorem dX11_review_71 : decode cX11_review 71 = .ok (.invokevirtual 369, 3) := by decide +kernel
theorem dX11_review_74 : decode cX11_review 74 = .ok (.ifCond .ne 6, 3) := by decide +kernel
theorem dX11_review_77 : decode cX11_review 77 = .ok (.goto 24, 3) := by decide +kernel
theorem dX11_review_80 : decode cX11_review 80 = .ok (.aload_n 0, 1) := by decide +kernel
theorem dX11_review_81 : decode cX11_review 81 = .ok (.invokevirtual 372, 3) := by decide +kernel
theorem dX11_review_84 : decode cX11_review 84 = .ok (.istore 5, 2) := by decide +kernel
theorem dX11_review_86 : decode cX11_review 86 = .ok (.iload 5, 2) := by decide +kernel
theorem dX11_review_88 : decode cX11_review 88 = .ok (.iload_n 2, 1) := by decide +kernel
theorem dX11_review_89 : decode cX11_review 89 = .ok (.if_icmp .gt 6, 3) := by decide +kernel
theorem dX11_review_92 : decode cX11_review 92 = .ok (.goto 9, 3) := by decide +kernel
theorem dX11_review_95 : decode cX11_review 95 = .ok (.iload 5, 2) := by decide +kernel
theorem dX11_review_97 : decode cX11_review 97 = .ok (.istore_n 2, 1) := by decide +kernel
theorem dX11_review_98 : decode cX11_review 98 = .ok (.iload 4, 2) := by decide +kernel
theorem dX11_review_100 : decode cX11_review 100 = .ok (.istore_n 3, 1) := by decide +kernel
theorem dX11_review_101 : decode cX11_review 101 = .ok (.iinc 4 1, 3) := by decide +kernel
theorem dX11_review_104 : decode cX11_review 104 = .ok (.goto (-52), 3) := by decide +kernel
theorem dX11_review_107 : decode cX11_review 107 = .ok (.iload_n 1, 1) := by decide +kernel
theorem dX11_review_108 : decode cX11_review 108 = .ok (.iconst (-1), 1) := by decide +kernel
theorem dX11_review_109 : decode cX11_review 109 = .ok (.if_icmp .ne 7, 3) := by decide +kernel
theorem dX11_review_112 : decode cX11_review 112 = .ok (.iload_n 2, 1) := by decide +kernel
theorem dX11_review_113 : decode cX11_review 113 = .ok (.goto 25, 3) := by decide +kernel
theorem dX11_review_116 : decode cX11_review 116 = .ok (.iload_n 3, 1) := by decide +kernel
theorem dX11_review_117 : decode cX11_review 117 = .ok (.aload_n 0, 1) := by decide +kernel
theorem dX11_review_118 : decode cX11_review 118 = .ok (.getfield 254, 3) := by decide +kernel
theorem dX11_review_121 : decode cX11_review 121 = .ok (.aload_n 0, 1) := by decide +kernel
theorem dX11_review_122 : decode cX11_review 122 = .ok (.getfield 254, 3) := by decide +kernel
theorem dX11_review_125 : decode cX11_review 125 = .ok (.iconst 1, 1) := by decide +kernel
theorem dX11_review_126 : decode cX11_review 126 = .ok (.isub, 1) := by decide +kernel
theorem dX11_review_127 : decode cX11_review 127 = .ok (.iload_n 1, 1) := by decide +kernel
theorem dX11_review_128 : decode cX11_review 128 = .ok (.isub, 1) := by decide +kernel
theorem dX11_review_129 : decode cX11_review 129 = .ok (.invokestatic 366, 3) := by decide +kernel
theorem dX11_review_132 : decode cX11_review 132 = .ok (.idiv, 1) := by decide +kernel
theorem dX11_review_133 : decode cX11_review 133 = .ok (.aload_n 0, 1) := by decide +kernel
theorem dX11_review_134 : decode cX11_review 134 = .ok (.getfield 254, 3) := by decide +kernel
theorem dX11_review_137 : decode cX11_review 137 = .ok (.irem, 1) := by decide +kernel
theorem dX11_review_138 : decode cX11_review 138 = .ok (.ireturn, 1) := by decide +kernel
theorem dX11_see_0 : decode cX11_see 0 = .ok (.aload_n 0, 1) := by decide +kernel
theorem dX11_see_1 : decode cX11_see 1 = .ok (.iconst 0, 1) := by decide +kernel
theorem dX11_see_2 : decode cX11_see 2 = .ok (.putfield 84, 3) := by decide +kernel
theorem dX11_see_5 : decode cX11_see 5 = .ok (.aload_n 0, 1) := by decide +kernel
theorem dX11_see_6 : decode cX11_see 6 = .ok (.iload_n 1, 1) := by decide +kernel
theorem dX11_see_7 : decode cX11_see 7 = .ok (.invokevirtual 334, 3) := by decide +kernel
theorem dX11_see_10 : decode cX11_see 10 = .ok (.ifCond .eq 28, 3) := by decide +kernel
theorem dX11_see_13 : decode cX11_see 13 = .ok (.aload_n 0, 1) := by decide +kernel
theorem dX11_see_14 : decode cX11_see 14 = .ok (.iload_n 3, 1) := by decide +kernel
theorem dX11_see_15 : decode cX11_see 15 = .ok (.ifCond .lt 15, 3) := by decide +kernel
theorem dX11_see_18 : decode cX11_see 18 = .ok (.iload_n 3, 1) := by decide +kernel
theorem dX11_see_19 : decode cX11_see 19 = .ok (.aload_n 0, 1) := by decide +kernel
theorem dX11_see_20 : decode cX11_see 20 = .ok (.getfield 7, 3) := by decide +kernel
theorem dX11_see_23 : decode cX11_see 23 = .ok (.if_icmp .ge 7, 3) := by decide +kernel
theorem dX11_see_26 : decode cX11_see 26 = .ok (.iconst 1, 1) := by decide +kernel
theorem dX11_see_27 : decode cX11_see 27 = .ok (.goto 4, 3) := by decide +kernel
theorem dX11_see_30 : decode cX11_see 30 = .ok (.iconst 0, 1) := by decide +kernel
theorem dX11_see_31 : decode cX11_see 31 = .ok (.iconst 1, 1) := by decide +kernel
theorem dX11_see_32 : decode cX11_see 32 = .ok (.invokevirtual 244, 3) := by decide +kernel
theorem dX11_see_35 : decode cX11_see 35 = .ok (.ifCond .ne 5, 3) := by decide +kernel
theorem dX11_see_38 : decode cX11_see 38 = .ok (.iconst 0, 1) := by decide +kernel
theorem dX11_see_39 : decode cX11_see 39 = .ok (.ireturn, 1) := by decide +kernel
theorem dX11_see_40 : decode cX11_see 40 = .ok (.aload_n 0, 1) := by decide +kernel
theorem dX11_see_41 : decode cX11_see 41 = .ok (.getfield 267, 3) := by decide +kernel
theorem dX11_see_44 : decode cX11_see 44 = .ok (.bipush 8, 2) := by decide +kernel
theorem dX11_see_46 : decode cX11_see 46 = .ok (.if_icmp .eq 13, 3) := by decide +kernel
theorem dX11_see_49 : decode cX11_see 49 = .ok (.iload_n 2, 1) := by decide +kernel
theorem dX11_see_50 : decode cX11_see 50 = .ok (.iconst 1, 1) := by decide +kernel
theorem dX11_see_51 : decode cX11_see 51 = .ok (.bipush 12, 2) := by decide +kernel
theorem dX11_see_53 : decode cX11_see 53 = .ok (.invokestatic 314, 3) := by decide +kernel
theorem dX11_see_56 : decode cX11_see 56 = .ok (.ifCond .ne 9, 3) := by decide +kernel
theorem dX11_see_59 : decode cX11_see 59 = .ok (.aload_n 0, 1) := by decide +kernel
theorem dX11_see_60 : decode cX11_see 60 = .ok (.iconst 2, 1) := by decide +kernel
theorem dX11_see_61 : decode cX11_see 61 = .ok (.invokevirtual 337, 3) := by decide +kernel
theorem dX11_see_64 : decode cX11_see 64 = .ok (.ireturn, 1) := by decide +kernel
theorem dX11_see_65 : decode cX11_see 65 = .ok (.aload_n 0, 1) := by decide +kernel
theorem dX11_see_66 : decode cX11_see 66 = .ok (.getfield 69, 3) := by decide +kernel
theorem dX11_see_69 : decode cX11_see 69 = .ok (.iconst 4, 1) := by decide +kernel
theorem dX11_see_70 : decode cX11_see 70 = .ok (.aload_n 0, 1) := by decide +kernel
theorem dX11_see_71 : decode cX11_see 71 = .ok (.getfield 267, 3) := by decide +kernel
theorem dX11_see_74 : decode cX11_see 74 = .ok (.imul, 1) := by decide +kernel
theorem dX11_see_75 : decode cX11_see 75 = .ok (.iload_n 1, 1) := by decide +kernel
theorem dX11_see_76 : decode cX11_see 76 = .ok (.iastore, 1) := by decide +kernel
theorem dX11_see_77 : decode cX11_see 77 = .ok (.aload_n 0, 1) := by decide +kernel
theorem dX11_see_78 : decode cX11_see 78 = .ok (.getfield 69, 3) := by decide +kernel
theorem dX11_see_81 : decode cX11_see 81 = .ok (.iconst 4, 1) := by decide +kernel
theorem dX11_see_82 : decode cX11_see 82 = .ok (.aload_n 0, 1) := by decide +kernel
theorem dX11_see_83 : decode cX11_see 83 = .ok (.getfield 267, 3) := by decide +kernel
theorem dX11_see_86 : decode cX11_see 86 = .ok (.imul, 1) := by decide +kernel
theorem dX11_see_87 : decode cX11_see 87 = .ok (.iconst 1, 1) := by decide +kernel
theorem dX11_see_88 : decode cX11_see 88 = .ok (.iadd, 1) := by decide +kernel
theorem dX11_see_89 : decode cX11_see 89 = .ok (.iload_n 2, 1) := by decide +kernel
theorem dX11_see_90 : decode cX11_see 90 = .ok (.iastore, 1) := by decide +kernel
theorem dX11_see_91 : decode cX11_see 91 = .ok (.aload_n 0, 1) := by decide +kernel
theorem dX11_see_92 : decode cX11_see 92 = .ok (.getfield 69, 3) := by decide +kernel
theorem dX11_see_95 : decode cX11_see 95 = .ok (.iconst 4, 1) := by decide +kernel
theorem dX11_see_96 : decode cX11_see 96 = .ok (.aload_n 0, 1) := by decide +kernel
theorem dX11_see_97 : decode cX11_see 97 = .ok (.getfield 267, 3) := by decide +kernel
theorem dX11_see_100 : decode cX11_see 100 = .ok (.imul, 1) := by decide +kernel
theorem dX11_see_101 : decode cX11_see 101 = .ok (.iconst 2, 1) := by decide +kernel
theorem dX11_see_102 : decode cX11_see 102 = .ok (.iadd, 1) := by decide +kernel
theorem dX11_see_103 : decode cX11_see 103 = .ok (.iload_n 3, 1) := by decide +kernel
theorem dX11_see_104 : decode cX11_see 104 = .ok (.iastore, 1) := by decide +kernel
theorem dX11_see_105 : decode cX11_see 105 = .ok (.aload_n 0, 1) := by decide +kernel
theorem dX11_see_106 : decode cX11_see 106 = .ok (.getfield 69, 3) := by decide +kernel
theorem dX11_see_109 : decode cX11_see 109 = .ok (.iconst 4, 1) := by decide +kernel
theorem dX11_see_110 : decode cX11_see 110 = .ok (.aload_n 0, 1) := by decide +kernel
theorem dX11_see_111 : decode cX11_see 111 = .ok (.getfield 267, 3) := by decide +kernel
theorem dX11_see_114 : decode cX11_see 114 = .ok (.imul, 1) := by decide +kernel
theorem dX11_see_115 : decode cX11_see 115 = .ok (.iconst 3, 1) := by decide +kernel
theorem dX11_see_116 : decode cX11_see 116 = .ok (.iadd, 1) := by decide +kernel
theorem dX11_see_117 : decode cX11_see 117 = .ok (.iload 4, 2) := by decide +kernel
theorem dX11_see_119 : decode cX11_see 119 = .ok (.ifCond .eq 7, 3) := by decide +kernel
theorem dX11_see_122 : decode cX11_see 122 = .ok (.iconst 1, 1) := by decide +kernel
theorem dX11_see_123 : decode cX11_see 123 = .ok (.goto 4, 3) := by decide +kernel
theorem dX11_see_126 : decode cX11_see 126 = .ok (.iconst 0, 1) := by decide +kernel
theorem dX11_see_127 : decode cX11_see 127 = .ok (.iastore, 1) := by decide +kernel
theorem dX11_see_128 : decode cX11_see 128 = .ok (.aload_n 0, 1) := by decide +kernel
theorem dX11_see_129 : decode cX11_see 129 = .ok (.dup, 1) := by decide +kernel
theorem dX11_see_130 : decode cX11_see 130 = .ok (.getfield 267, 3) := by decide +kernel
theorem dX11_see_133 : decode cX11_see 133 = .ok (.iconst 1, 1) := by decide +kernel
theorem dX11_see_134 : decode cX11_see 134 = .ok (.iadd, 1) := by decide +kernel
theorem dX11_see_135 : decode cX11_see 135 = .ok (.putfield 267, 3) := by decide +kernel
theorem dX11_see_138 : decode cX11_see 138 = .ok (.aload_n 0, 1) := by decide +kernel
theorem dX11_see_139 : decode cX11_see 139 = .ok (.getfield 267, 3) := by decide +kernel
theorem dX11_see_142 : decode cX11_see 142 = .ok (.ireturn, 1) := by decide +kernel
theorem dX11_forget_0 : decode cX11_forget 0 = .ok (.aload_n 0, 1) := by decide +kernel
theorem dX11_forget_1 : decode cX11_forget 1 = .ok (.iconst 0, 1) := by decide +kernel
theorem dX11_forget_2 : decode cX11_forget 2 = .ok (.putfield 84, 3) := by decide +kernel
theorem dX11_forget_5 : decode cX11_forget 5 = .ok (.aload_n 0, 1) := by decide +kernel
theorem dX11_forget_6 : decode cX11_forget 6 = .ok (.iconst 0, 1) := by decide +kernel
theorem dX11_forget_7 : decode cX11_forget 7 = .ok (.putfield 267, 3) := by decide +kernel
theorem dX11_forget_10 : decode cX11_forget 10 = .ok (.return_, 1) := by decide +kernel
theorem dX11_isSeen_0 : decode cX11_isSeen 0 = .ok (.iconst 1, 1) := by decide +kernel
theorem dX11_isSeen_1 : decode cX11_isSeen 1 = .ok (.istore_n 1, 1) := by decide +kernel
theorem dX11_isSeen_2 : decode cX11_isSeen 2 = .ok (.iload_n 1, 1) := by decide +kernel
theorem dX11_isSeen_3 : decode cX11_isSeen 3 = .ok (.bipush 12, 2) := by decide +kernel
theorem dX11_isSeen_5 : decode cX11_isSeen 5 = .ok (.if_icmp .gt 94, 3) := by decide +kernel
theorem dX11_isSeen_8 : decode cX11_isSeen 8 = .ok (.iconst 0, 1) := by decide +kernel
theorem dX11_isSeen_9 : decode cX11_isSeen 9 = .ok (.istore_n 2, 1) := by decide +kernel
theorem dX11_isSeen_10 : decode cX11_isSeen 10 = .ok (.iload_n 2, 1) := by decide +kernel
theorem dX11_isSeen_11 : decode cX11_isSeen 11 = .ok (.aload_n 0, 1) := by decide +kernel
theorem dX11_isSeen_12 : decode cX11_isSeen 12 = .ok (.getfield 267, 3) := by decide +kernel
theorem dX11_isSeen_15 : decode cX11_isSeen 15 = .ok (.if_icmp .ge 65, 3) := by decide +kernel
theorem dX11_isSeen_18 : decode cX11_isSeen 18 = .ok (.aload_n 0, 1) := by decide +kernel
theorem dX11_isSeen_19 : decode cX11_isSeen 19 = .ok (.getfield 69, 3) := by decide +kernel
theorem dX11_isSeen_22 : decode cX11_isSeen 22 = .ok (.iconst 4, 1) := by decide +kernel
theorem dX11_isSeen_23 : decode cX11_isSeen 23 = .ok (.iload_n 2, 1) := by decide +kernel
theorem dX11_isSeen_24 : decode cX11_isSeen 24 = .ok (.imul, 1) := by decide +kernel
theorem dX11_isSeen_25 : decode cX11_isSeen 25 = .ok (.iconst 1, 1) := by decide +kernel
theorem dX11_isSeen_26 : decode cX11_isSeen 26 = .ok (.iadd, 1) := by decide +kernel
theorem dX11_isSeen_27 : decode cX11_isSeen 27 = .ok (.iaload, 1) := by decide +kernel
theorem dX11_isSeen_28 : decode cX11_isSeen 28 = .ok (.iload_n 1, 1) := by decide +kernel
theorem dX11_isSeen_29 : decode cX11_isSeen 29 = .ok (.if_icmp .ne 45, 3) := by decide +kernel
theorem dX11_isSeen_32 : decode cX11_isSeen 32 = .ok (.aload_n 0, 1) := by decide +kernel
theorem dX11_isSeen_33 : decode cX11_isSeen 33 = .ok (.bipush 33, 2) := by decide +kernel
theorem dX11_isSeen_35 : decode cX11_isSeen 35 = .ok (.aload_n 0, 1) := by decide +kernel
theorem dX11_isSeen_36 : decode cX11_isSeen 36 = .ok (.getfield 69, 3) := by decide +kernel
theorem dX11_isSeen_39 : decode cX11_isSeen 39 = .ok (.iconst 4, 1) := by decide +kernel
theorem dX11_isSeen_40 : decode cX11_isSeen 40 = .ok (.iload_n 2, 1) := by decide +kernel
theorem dX11_isSeen_41 : decode cX11_isSeen 41 = .ok (.imul, 1) := by decide +kernel
theorem dX11_isSeen_42 : decode cX11_isSeen 42 = .ok (.iaload, 1) := by decide +kernel
theorem dX11_isSeen_43 : decode cX11_isSeen 43 = .ok (.invokevirtual 290, 3) := by decide +kernel
theorem dX11_isSeen_46 : decode cX11_isSeen 46 = .ok (.aload_n 0, 1) := by decide +kernel
theorem dX11_isSeen_47 : decode cX11_isSeen 47 = .ok (.getfield 69, 3) := by decide +kernel
theorem dX11_isSeen_50 : decode cX11_isSeen 50 = .ok (.iconst 4, 1) := by decide +kernel
theorem dX11_isSeen_51 : decode cX11_isSeen 51 = .ok (.iload_n 2, 1) := by decide +kernel
theorem dX11_isSeen_52 : decode cX11_isSeen 52 = .ok (.imul, 1) := by decide +kernel
theorem dX11_isSeen_53 : decode cX11_isSeen 53 = .ok (.iconst 2, 1) := by decide +kernel
theorem dX11_isSeen_54 : decode cX11_isSeen 54 = .ok (.iadd, 1) := by decide +kernel
theorem dX11_isSeen_55 : decode cX11_isSeen 55 = .ok (.iaload, 1) := by decide +kernel
theorem dX11_isSeen_56 : decode cX11_isSeen 56 = .ok (.ishr, 1) := by decide +kernel
theorem dX11_isSeen_57 : decode cX11_isSeen 57 = .ok (.iconst 1, 1) := by decide +kernel
theorem dX11_isSeen_58 : decode cX11_isSeen 58 = .ok (.iand, 1) := by decide +kernel
theorem dX11_isSeen_59 : decode cX11_isSeen 59 = .ok (.aload_n 0, 1) := by decide +kernel
theorem dX11_isSeen_60 : decode cX11_isSeen 60 = .ok (.getfield 69, 3) := by decide +kernel
theorem dX11_isSeen_63 : decode cX11_isSeen 63 = .ok (.iconst 4, 1) := by decide +kernel
theorem dX11_isSeen_64 : decode cX11_isSeen 64 = .ok (.iload_n 2, 1) := by decide +kernel
theorem dX11_isSeen_65 : decode cX11_isSeen 65 = .ok (.imul, 1) := by decide +kernel
theorem dX11_isSeen_66 : decode cX11_isSeen 66 = .ok (.iconst 3, 1) := by decide +kernel
theorem dX11_isSeen_67 : decode cX11_isSeen 67 = .ok (.iadd, 1) := by decide +kernel
theorem dX11_isSeen_68 : decode cX11_isSeen 68 = .ok (.iaload, 1) := by decide +kernel
theorem dX11_isSeen_69 : decode cX11_isSeen 69 = .ok (.if_icmp .eq 5, 3) := by decide +kernel
theorem dX11_isSeen_72 : decode cX11_isSeen 72 = .ok (.iconst 0, 1) := by decide +kernel
theorem dX11_isSeen_73 : decode cX11_isSeen 73 = .ok (.ireturn, 1) := by decide +kernel
theorem dX11_isSeen_74 : decode cX11_isSeen 74 = .ok (.iinc 2 1, 3) := by decide +kernel
theorem dX11_isSeen_77 : decode cX11_isSeen 77 = .ok (.goto (-67), 3) := by decide +kernel
theorem dX11_isSeen_80 : decode cX11_isSeen 80 = .ok (.aload_n 0, 1) := by decide +kernel
theorem dX11_isSeen_81 : decode cX11_isSeen 81 = .ok (.getfield 267, 3) := by decide +kernel
theorem dX11_isSeen_84 : decode cX11_isSeen 84 = .ok (.ifCond .le 9, 3) := by decide +kernel
theorem dX11_isSeen_87 : decode cX11_isSeen 87 = .ok (.aload_n 0, 1) := by decide +kernel
theorem dX11_isSeen_88 : decode cX11_isSeen 88 = .ok (.bipush 33, 2) := by decide +kernel
theorem dX11_isSeen_90 : decode cX11_isSeen 90 = .ok (.invokevirtual 308, 3) := by decide +kernel
theorem dX11_isSeen_93 : decode cX11_isSeen 93 = .ok (.iinc 1 1, 3) := by decide +kernel
theorem dX11_isSeen_96 : decode cX11_isSeen 96 = .ok (.goto (-94), 3) := by decide +kernel
theorem dX11_isSeen_99 : decode cX11_isSeen 99 = .ok (.iconst 1, 1) := by decide +kernel
theorem dX11_isSeen_100 : decode cX11_isSeen 100 = .ok (.ireturn, 1) := by decide +kernel
theorem dX11_triesHeel_0 : decode cX11_triesHeel 0 = .ok (.aload_n 0, 1) := by decide +kernel
theorem dX11_triesHeel_1 : decode cX11_triesHeel 1 = .ok (.invokevirtual 347, 3) := by decide +kernel
theorem dX11_triesHeel_4 : decode cX11_triesHeel 4 = .ok (.aload_n 0, 1) := by decide +kernel
theorem dX11_triesHeel_5 : decode cX11_triesHeel 5 = .ok (.getfield 51, 3) := by decide +kernel
theorem dX11_triesHeel_8 : decode cX11_triesHeel 8 = .ok (.bipush 34, 2) := by decide +kernel
theorem dX11_triesHeel_10 : decode cX11_triesHeel 10 = .ok (.iload_n 1, 1) := by decide +kernel
theorem dX11_triesHeel_11 : decode cX11_triesHeel 11 = .ok (.aload_n 0, 1) := by decide +kernel
theorem dX11_triesHeel_12 : decode cX11_triesHeel 12 = .ok (.getfield 7, 3) := by decide +kernel
theorem dX11_triesHeel_15 : decode cX11_triesHeel 15 = .ok (.idiv, 1) := by decide +kernel
theorem dX11_triesHeel_16 : decode cX11_triesHeel 16 = .ok (.iadd, 1) := by decide +kernel
theorem dX11_triesHeel_17 : decode cX11_triesHeel 17 = .ok (.dup2, 1) := by decide +kernel
theorem dX11_triesHeel_18 : decode cX11_triesHeel 18 = .ok (.iaload, 1) := by decide +kernel
theorem dX11_triesHeel_19 : decode cX11_triesHeel 19 = .ok (.iconst 1, 1) := by decide +kernel
theorem dX11_triesHeel_20 : decode cX11_triesHeel 20 = .ok (.iload_n 1, 1) := by decide +kernel
theorem dX11_triesHeel_21 : decode cX11_triesHeel 21 = .ok (.aload_n 0, 1) := by decide +kernel
theorem dX11_triesHeel_22 : decode cX11_triesHeel 22 = .ok (.getfield 7, 3) := by decide +kernel
theorem dX11_triesHeel_25 : decode cX11_triesHeel 25 = .ok (.irem, 1) := by decide +kernel
theorem dX11_triesHeel_26 : decode cX11_triesHeel 26 = .ok (.ishl, 1) := by decide +kernel
theorem dX11_triesHeel_27 : decode cX11_triesHeel 27 = .ok (.ixor, 1) := by decide +kernel
theorem dX11_triesHeel_28 : decode cX11_triesHeel 28 = .ok (.iastore, 1) := by decide +kernel
theorem dX11_triesHeel_29 : decode cX11_triesHeel 29 = .ok (.return_, 1) := by decide +kernel
theorem dX11_limped_0 : decode cX11_limped 0 = .ok (.aload_n 0, 1) := by decide +kernel
theorem dX11_limped_1 : decode cX11_limped 1 = .ok (.iconst 0, 1) := by decide +kernel
theorem dX11_limped_2 : decode cX11_limped 2 = .ok (.putfield 84, 3) := by decide +kernel
theorem dX11_limped_5 : decode cX11_limped 5 = .ok (.aload_n 0, 1) := by decide +kernel
theorem dX11_limped_6 : decode cX11_limped 6 = .ok (.iload_n 1, 1) := by decide +kernel
theorem dX11_limped_7 : decode cX11_limped 7 = .ok (.iconst 2, 1) := by decide +kernel
theorem dX11_limped_8 : decode cX11_limped 8 = .ok (.invokevirtual 330, 3) := by decide +kernel
theorem dX11_limped_11 : decode cX11_limped 11 = .ok (.ifCond .ne 5, 3) := by decide +kernel
theorem dX11_limped_14 : decode cX11_limped 14 = .ok (.iconst 0, 1) := by decide +kernel
theorem dX11_limped_15 : decode cX11_limped 15 = .ok (.ireturn, 1) := by decide +kernel
theorem dX11_limped_16 : decode cX11_limped 16 = .ok (.iload_n 1, 1) := by decide +kernel
theorem dX11_limped_17 : decode cX11_limped 17 = .ok (.iconst 2, 1) := by decide +kernel
theorem dX11_limped_18 : decode cX11_limped 18 = .ok (.if_icmp .ne 20, 3) := by decide +kernel
theorem dX11_limped_21 : decode cX11_limped 21 = .ok (.aload_n 0, 1) := by decide +kernel
theorem dX11_limped_22 : decode cX11_limped 22 = .ok (.invokevirtual 347, 3) := by decide +kernel
theorem dX11_limped_25 : decode cX11_limped 25 = .ok (.aload_n 0, 1) := by decide +kernel
theorem dX11_limped_26 : decode cX11_limped 26 = .ok (.invokevirtual 375, 3) := by decide +kernel
theorem dX11_limped_29 : decode cX11_limped 29 = .ok (.ifCond .eq 7, 3) := by decide +kernel
theorem dX11_limped_32 : decode cX11_limped 32 = .ok (.iconst 1, 1) := by decide +kernel
theorem dX11_limped_33 : decode cX11_limped 33 = .ok (.goto 4, 3) := by decide +kernel
theorem dX11_limped_36 : decode cX11_limped 36 = .ok (.iconst 0, 1) := by decide +kernel
theorem dX11_limped_37 : decode cX11_limped 37 = .ok (.ireturn, 1) := by decide +kernel
theorem dX11_limped_38 : decode cX11_limped 38 = .ok (.iconst 0, 1) := by decide +kernel
theorem dX11_limped_39 : decode cX11_limped 39 = .ok (.istore_n 2, 1) := by decide +kernel
theorem dX11_limped_40 : decode cX11_limped 40 = .ok (.iconst (-1), 1) := by decide +kernel
theorem dX11_limped_41 : decode cX11_limped 41 = .ok (.istore_n 3, 1) := by decide +kernel
theorem dX11_limped_42 : decode cX11_limped 42 = .ok (.iconst 0, 1) := by decide +kernel
theorem dX11_limped_43 : decode cX11_limped 43 = .ok (.istore 4, 2) := by decide +kernel
theorem dX11_limped_45 : decode cX11_limped 45 = .ok (.iload 4, 2) := by decide +kernel
theorem dX11_limped_47 : decode cX11_limped 47 = .ok (.aload_n 0, 1) := by decide +kernel
theorem dX11_limped_48 : decode cX11_limped 48 = .ok (.getfield 7, 3) := by decide +kernel
theorem dX11_limped_51 : decode cX11_limped 51 = .ok (.aload_n 0, 1) := by decide +kernel
theorem dX11_limped_52 : decode cX11_limped 52 = .ok (.getfield 251, 3) := by decide +kernel
theorem dX11_limped_55 : decode cX11_limped 55 = .ok (.imul, 1) := by decide +kernel
theorem dX11_limped_56 : decode cX11_limped 56 = .ok (.if_icmp .ge 52, 3) := by decide +kernel
theorem dX11_limped_59 : decode cX11_limped 59 = .ok (.aload_n 0, 1) := by decide +kernel
theorem dX11_limped_60 : decode cX11_limped 60 = .ok (.iload 4, 2) := by decide +kernel
theorem dX11_limped_62 : decode cX11_limped 62 = .ok (.invokevirtual 378, 3) := by decide +kernel
theorem dX11_limped_65 : decode cX11_limped 65 = .ok (.aload_n 0, 1) := by decide +kernel
theorem dX11_limped_66 : decode cX11_limped 66 = .ok (.invokevirtual 375, 3) := by decide +kernel
theorem dX11_limped_69 : decode cX11_limped 69 = .ok (.ifCond .ne 6, 3) := by decide +kernel
theorem dX11_limped_72 : decode cX11_limped 72 = .ok (.goto 30, 3) := by decide +kernel
theorem dX11_limped_75 : decode cX11_limped 75 = .ok (.iinc 2 1, 3) := by decide +kernel
theorem dX11_limped_78 : decode cX11_limped 78 = .ok (.iload_n 3, 1) := by decide +kernel
theorem dX11_limped_79 : decode cX11_limped 79 = .ok (.iconst (-1), 1) := by decide +kernel
theorem dX11_limped_80 : decode cX11_limped 80 = .ok (.if_icmp .ne 22, 3) := by decide +kernel
theorem dX11_limped_83 : decode cX11_limped 83 = .ok (.iload 4, 2) := by decide +kernel
theorem dX11_limped_85 : decode cX11_limped 85 = .ok (.aload_n 0, 1) := by decide +kernel
theorem dX11_limped_86 : decode cX11_limped 86 = .ok (.getfield 7, 3) := by decide +kernel
theorem dX11_limped_89 : decode cX11_limped 89 = .ok (.idiv, 1) := by decide +kernel
theorem dX11_limped_90 : decode cX11_limped 90 = .ok (.bipush 100, 2) := by decide +kernel
theorem dX11_limped_92 : decode cX11_limped 92 = .ok (.imul, 1) := by decide +kernel
theorem dX11_limped_93 : decode cX11_limped 93 = .ok (.iload 4, 2) := by decide +kernel
theorem dX11_limped_95 : decode cX11_limped 95 = .ok (.aload_n 0, 1) := by decide +kernel
theorem dX11_limped_96 : decode cX11_limped 96 = .ok (.getfield 7, 3) := by decide +kernel
theorem dX11_limped_99 : decode cX11_limped 99 = .ok (.irem, 1) := by decide +kernel
theorem dX11_limped_100 : decode cX11_limped 100 = .ok (.iadd, 1) := by decide +kernel
theorem dX11_limped_101 : decode cX11_limped 101 = .ok (.istore_n 3, 1) := by decide +kernel
theorem dX11_limped_102 : decode cX11_limped 102 = .ok (.iinc 4 1, 3) := by decide +kernel
theorem dX11_limped_105 : decode cX11_limped 105 = .ok (.goto (-60), 3) := by decide +kernel
theorem dX11_limped_108 : decode cX11_limped 108 = .ok (.iload_n 1, 1) := by decide +kernel
theorem dX11_limped_109 : decode cX11_limped 109 = .ok (.ifCond .ne 7, 3) := by decide +kernel
theorem dX11_limped_112 : decode cX11_limped 112 = .ok (.iload_n 2, 1) := by decide +kernel
theorem dX11_limped_113 : decode cX11_limped 113 = .ok (.goto 4, 3) := by decide +kernel
theorem dX11_limped_116 : decode cX11_limped 116 = .ok (.iload_n 3, 1) := by decide +kernel
theorem dX11_limped_117 : decode cX11_limped 117 = .ok (.ireturn, 1) := by decide +kernel
theorem dX11_next_0 : decode cX11_next 0 = .ok (.aload_n 0, 1) := by decide +kernel
theorem dX11_next_1 : decode cX11_next 1 = .ok (.iconst 0, 1) := by decide +kernel
theorem dX11_next_2 : decode cX11_next 2 = .ok (.putfield 84, 3) := by decide +kernel
theorem dX11_next_5 : decode cX11_next 5 = .ok (.aload_n 0, 1) := by decide +kernel
theorem dX11_next_6 : decode cX11_next 6 = .ok (.iload_n 1, 1) := by decide +kernel
theorem dX11_next_7 : decode cX11_next 7 = .ok (.iconst 1, 1) := by decide +kernel
theorem dX11_next_8 : decode cX11_next 8 = .ok (.invokevirtual 330, 3) := by decide +kernel
theorem dX11_next_11 : decode cX11_next 11 = .ok (.ifCond .ne 5, 3) := by decide +kernel
theorem dX11_next_14 : decode cX11_next 14 = .ok (.iconst 0, 1) := by decide +kernel
theorem dX11_next_15 : decode cX11_next 15 = .ok (.ireturn, 1) := by decide +kernel
theorem dX11_next_16 : decode cX11_next 16 = .ok (.iconst 0, 1) := by decide +kernel
theorem dX11_next_17 : decode cX11_next 17 = .ok (.istore_n 2, 1) := by decide +kernel
theorem dX11_next_18 : decode cX11_next 18 = .ok (.iconst 0, 1) := by decide +kernel
theorem dX11_next_19 : decode cX11_next 19 = .ok (.istore_n 3, 1) := by decide +kernel
theorem dX11_next_20 : decode cX11_next 20 = .ok (.iload_n 3, 1) := by decide +kernel
theorem dX11_next_21 : decode cX11_next 21 = .ok (.aload_n 0, 1) := by decide +kernel
theorem dX11_next_22 : decode cX11_next 22 = .ok (.getfield 7, 3) := by decide +kernel
theorem dX11_next_25 : decode cX11_next 25 = .ok (.aload_n 0, 1) := by decide +kernel
theorem dX11_next_26 : decode cX11_next 26 = .ok (.getfield 251, 3) := by decide +kernel
theorem dX11_next_29 : decode cX11_next 29 = .ok (.imul, 1) := by decide +kernel
theorem dX11_next_30 : decode cX11_next 30 = .ok (.if_icmp .ge 70, 3) := by decide +kernel
theorem dX11_next_33 : decode cX11_next 33 = .ok (.aload_n 0, 1) := by decide +kernel
theorem dX11_next_34 : decode cX11_next 34 = .ok (.iload_n 3, 1) := by decide +kernel
theorem dX11_next_35 : decode cX11_next 35 = .ok (.invokevirtual 378, 3) := by decide +kernel
theorem dX11_next_38 : decode cX11_next 38 = .ok (.aload_n 0, 1) := by decide +kernel
theorem dX11_next_39 : decode cX11_next 39 = .ok (.invokevirtual 375, 3) := by decide +kernel
theorem dX11_next_42 : decode cX11_next 42 = .ok (.ifCond .ne 6, 3) := by decide +kernel
theorem dX11_next_45 : decode cX11_next 45 = .ok (.goto 49, 3) := by decide +kernel
theorem dX11_next_48 : decode cX11_next 48 = .ok (.aload_n 0, 1) := by decide +kernel
theorem dX11_next_49 : decode cX11_next 49 = .ok (.iload_n 3, 1) := by decide +kernel
theorem dX11_next_50 : decode cX11_next 50 = .ok (.invokevirtual 378, 3) := by decide +kernel
theorem dX11_next_53 : decode cX11_next 53 = .ok (.iconst 0, 1) := by decide +kernel
theorem dX11_next_54 : decode cX11_next 54 = .ok (.istore 4, 2) := by decide +kernel
theorem dX11_next_56 : decode cX11_next 56 = .ok (.iload 4, 2) := by decide +kernel
theorem dX11_next_58 : decode cX11_next 58 = .ok (.aload_n 0, 1) := by decide +kernel
theorem dX11_next_59 : decode cX11_next 59 = .ok (.getfield 254, 3) := by decide +kernel
theorem dX11_next_62 : decode cX11_next 62 = .ok (.if_icmp .ge 29, 3) := by decide +kernel
theorem dX11_next_65 : decode cX11_next 65 = .ok (.aload_n 0, 1) := by decide +kernel
theorem dX11_next_66 : decode cX11_next 66 = .ok (.getfield 72, 3) := by decide +kernel
theorem dX11_next_69 : decode cX11_next 69 = .ok (.bipush 8, 2) := by decide +kernel
theorem dX11_next_71 : decode cX11_next 71 = .ok (.iload_n 2, 1) := by decide +kernel
theorem dX11_next_72 : decode cX11_next 72 = .ok (.imul, 1) := by decide +kernel
theorem dX11_next_73 : decode cX11_next 73 = .ok (.iload 4, 2) := by decide +kernel
theorem dX11_next_75 : decode cX11_next 75 = .ok (.iadd, 1) := by decide +kernel
theorem dX11_next_76 : decode cX11_next 76 = .ok (.aload_n 0, 1) := by decide +kernel
theorem dX11_next_77 : decode cX11_next 77 = .ok (.bipush 33, 2) := by decide +kernel
theorem dX11_next_79 : decode cX11_next 79 = .ok (.iload 4, 2) := by decide +kernel
theorem dX11_next_81 : decode cX11_next 81 = .ok (.invokevirtual 290, 3) := by decide +kernel
theorem dX11_next_84 : decode cX11_next 84 = .ok (.iastore, 1) := by decide +kernel
theorem dX11_next_85 : decode cX11_next 85 = .ok (.iinc 4 1, 3) := by decide +kernel
theorem dX11_next_88 : decode cX11_next 88 = .ok (.goto (-32), 3) := by decide +kernel
theorem dX11_next_91 : decode cX11_next 91 = .ok (.iinc 2 1, 3) := by decide +kernel
theorem dX11_next_94 : decode cX11_next 94 = .ok (.iinc 3 1, 3) := by decide +kernel
theorem dX11_next_97 : decode cX11_next 97 = .ok (.goto (-77), 3) := by decide +kernel
theorem dX11_next_100 : decode cX11_next 100 = .ok (.iconst (-1), 1) := by decide +kernel
theorem dX11_next_101 : decode cX11_next 101 = .ok (.istore_n 3, 1) := by decide +kernel
theorem dX11_next_102 : decode cX11_next 102 = .ok (.iconst 0, 1) := by decide +kernel
theorem dX11_next_103 : decode cX11_next 103 = .ok (.istore 4, 2) := by decide +kernel
theorem dX11_next_105 : decode cX11_next 105 = .ok (.iconst 0, 1) := by decide +kernel
theorem dX11_next_106 : decode cX11_next 106 = .ok (.istore 5, 2) := by decide +kernel
theorem dX11_next_108 : decode cX11_next 108 = .ok (.iload 5, 2) := by decide +kernel
theorem dX11_next_110 : decode cX11_next 110 = .ok (.aload_n 0, 1) := by decide +kernel
theorem dX11_next_111 : decode cX11_next 111 = .ok (.getfield 254, 3) := by decide +kernel
theorem dX11_next_114 : decode cX11_next 114 = .ok (.if_icmp .ge 119, 3) := by decide +kernel
theorem dX11_next_117 : decode cX11_next 117 = .ok (.iconst 0, 1) := by decide +kernel
theorem dX11_next_118 : decode cX11_next 118 = .ok (.istore 6, 2) := by decide +kernel
theorem dX11_next_120 : decode cX11_next 120 = .ok (.iconst 0, 1) := by decide +kernel
theorem dX11_next_121 : decode cX11_next 121 = .ok (.istore 7, 2) := by decide +kernel
theorem dX11_next_123 : decode cX11_next 123 = .ok (.iload 7, 2) := by decide +kernel
theorem dX11_next_125 : decode cX11_next 125 = .ok (.iload_n 2, 1) := by decide +kernel
theorem dX11_next_126 : decode cX11_next 126 = .ok (.if_icmp .ge 84, 3) := by decide +kernel
theorem dX11_next_129 : decode cX11_next 129 = .ok (.iconst 1, 1) := by decide +kernel
theorem dX11_next_130 : decode cX11_next 130 = .ok (.istore 8, 2) := by decide +kernel
theorem dX11_next_132 : decode cX11_next 132 = .ok (.iconst 0, 1) := by decide +kernel
theorem dX11_next_133 : decode cX11_next 133 = .ok (.istore 9, 2) := by decide +kernel
theorem dX11_next_135 : decode cX11_next 135 = .ok (.iload 9, 2) := by decide +kernel
theorem dX11_next_137 : decode cX11_next 137 = .ok (.iload 7, 2) := by decide +kernel
theorem dX11_next_139 : decode cX11_next 139 = .ok (.if_icmp .ge 50, 3) := by decide +kernel
theorem dX11_next_142 : decode cX11_next 142 = .ok (.iload 8, 2) := by decide +kernel
theorem dX11_next_144 : decode cX11_next 144 = .ok (.ifCond .eq 45, 3) := by decide +kernel
theorem dX11_next_147 : decode cX11_next 147 = .ok (.aload_n 0, 1) := by decide +kernel
theorem dX11_next_148 : decode cX11_next 148 = .ok (.getfield 72, 3) := by decide +kernel
theorem dX11_next_151 : decode cX11_next 151 = .ok (.bipush 8, 2) := by decide +kernel
theorem dX11_next_153 : decode cX11_next 153 = .ok (.iload 7, 2) := by decide +kernel
theorem dX11_next_155 : decode cX11_next 155 = .ok (.imul, 1) := by decide +kernel
theorem dX11_next_156 : decode cX11_next 156 = .ok (.iload 5, 2) := by decide +kernel
theorem dX11_next_158 : decode cX11_next 158 = .ok (.iadd, 1) := by decide +kernel
theorem dX11_next_159 : decode cX11_next 159 = .ok (.iaload, 1) := by decide +kernel
theorem dX11_next_160 : decode cX11_next 160 = .ok (.aload_n 0, 1) := by decide +kernel
theorem dX11_next_161 : decode cX11_next 161 = .ok (.getfield 72, 3) := by decide +kernel
theorem dX11_next_164 : decode cX11_next 164 = .ok (.bipush 8, 2) := by decide +kernel
theorem dX11_next_166 : decode cX11_next 166 = .ok (.iload 9, 2) := by decide +kernel
theorem dX11_next_168 : decode cX11_next 168 = .ok (.imul, 1) := by decide +kernel
theorem dX11_next_169 : decode cX11_next 169 = .ok (.iload 5, 2) := by decide +kernel
theorem dX11_next_171 : decode cX11_next 171 = .ok (.iadd, 1) := by decide +kernel
theorem dX11_next_172 : decode cX11_next 172 = .ok (.iaload, 1) := by decide +kernel
theorem dX11_next_173 : decode cX11_next 173 = .ok (.if_icmp .eq 7, 3) := by decide +kernel
theorem dX11_next_176 : decode cX11_next 176 = .ok (.iconst 1, 1) := by decide +kernel
theorem dX11_next_177 : decode cX11_next 177 = .ok (.goto 4, 3) := by decide +kernel
theorem dX11_next_180 : decode cX11_next 180 = .ok (.iconst 0, 1) := by decide +kernel
theorem dX11_next_181 : decode cX11_next 181 = .ok (.istore 8, 2) := by decide +kernel
theorem dX11_next_183 : decode cX11_next 183 = .ok (.iinc 9 1, 3) := by decide +kernel
theorem dX11_next_186 : decode cX11_next 186 = .ok (.goto (-51), 3) := by decide +kernel
theorem dX11_next_189 : decode cX11_next 189 = .ok (.iload 6, 2) := by decide +kernel
theorem dX11_next_191 : decode cX11_next 191 = .ok (.iload 8, 2) := by decide +kernel
theorem dX11_next_193 : decode cX11_next 193 = .ok (.ifCond .eq 7, 3) := by decide +kernel
theorem dX11_next_196 : decode cX11_next 196 = .ok (.iconst 1, 1) := by decide +kernel
theorem dX11_next_197 : decode cX11_next 197 = .ok (.goto 4, 3) := by decide +kernel
theorem dX11_next_200 : decode cX11_next 200 = .ok (.iconst 0, 1) := by decide +kernel
theorem dX11_next_201 : decode cX11_next 201 = .ok (.iadd, 1) := by decide +kernel
theorem dX11_next_202 : decode cX11_next 202 = .ok (.istore 6, 2) := by decide +kernel
theorem dX11_next_204 : decode cX11_next 204 = .ok (.iinc 7 1, 3) := by decide +kernel
theorem dX11_next_207 : decode cX11_next 207 = .ok (.goto (-84), 3) := by decide +kernel
theorem dX11_next_210 : decode cX11_next 210 = .ok (.iload 6, 2) := by decide +kernel
theorem dX11_next_212 : decode cX11_next 212 = .ok (.iload 4, 2) := by decide +kernel
theorem dX11_next_214 : decode cX11_next 214 = .ok (.if_icmp .gt 6, 3) := by decide +kernel
theorem dX11_next_217 : decode cX11_next 217 = .ok (.goto 10, 3) := by decide +kernel
theorem dX11_next_220 : decode cX11_next 220 = .ok (.iload 5, 2) := by decide +kernel
theorem dX11_next_222 : decode cX11_next 222 = .ok (.istore_n 3, 1) := by decide +kernel
theorem dX11_next_223 : decode cX11_next 223 = .ok (.iload 6, 2) := by decide +kernel
theorem dX11_next_225 : decode cX11_next 225 = .ok (.istore 4, 2) := by decide +kernel
theorem dX11_next_227 : decode cX11_next 227 = .ok (.iinc 5 1, 3) := by decide +kernel
theorem dX11_next_230 : decode cX11_next 230 = .ok (.goto (-122), 3) := by decide +kernel
theorem dX11_next_233 : decode cX11_next 233 = .ok (.iload_n 1, 1) := by decide +kernel
theorem dX11_next_234 : decode cX11_next 234 = .ok (.ifCond .ne 7, 3) := by decide +kernel
theorem dX11_next_237 : decode cX11_next 237 = .ok (.iload_n 3, 1) := by decide +kernel
theorem dX11_next_238 : decode cX11_next 238 = .ok (.goto 5, 3) := by decide +kernel
theorem dX11_next_241 : decode cX11_next 241 = .ok (.iload 4, 2) := by decide +kernel
theorem dX11_next_243 : decode cX11_next 243 = .ok (.ireturn, 1) := by decide +kernel
theorem dX11_byMud_0 : decode cX11_byMud 0 = .ok (.aload_n 0, 1) := by decide +kernel
theorem dX11_byMud_1 : decode cX11_byMud 1 = .ok (.iconst 0, 1) := by decide +kernel
theorem dX11_byMud_2 : decode cX11_byMud 2 = .ok (.putfield 84, 3) := by decide +kernel
theorem dX11_byMud_5 : decode cX11_byMud 5 = .ok (.aload_n 0, 1) := by decide +kernel
theorem dX11_byMud_6 : decode cX11_byMud 6 = .ok (.iload_n 1, 1) := by decide +kernel
theorem dX11_byMud_7 : decode cX11_byMud 7 = .ok (.invokevirtual 327, 3) := by decide +kernel
theorem dX11_byMud_10 : decode cX11_byMud 10 = .ok (.ifCond .eq 35, 3) := by decide +kernel
theorem dX11_byMud_13 : decode cX11_byMud 13 = .ok (.aload_n 0, 1) := by decide +kernel
theorem dX11_byMud_14 : decode cX11_byMud 14 = .ok (.iload_n 2, 1) := by decide +kernel
theorem dX11_byMud_15 : decode cX11_byMud 15 = .ok (.iconst 1, 1) := by decide +kernel
theorem dX11_byMud_16 : decode cX11_byMud 16 = .ok (.iconst 5, 1) := by decide +kernel
theorem dX11_byMud_17 : decode cX11_byMud 17 = .ok (.invokestatic 314, 3) := by decide +kernel
theorem dX11_byMud_20 : decode cX11_byMud 20 = .ok (.ifCond .eq 17, 3) := by decide +kernel
theorem dX11_byMud_23 : decode cX11_byMud 23 = .ok (.iload_n 3, 1) := by decide +kernel
theorem dX11_byMud_24 : decode cX11_byMud 24 = .ok (.iconst 0, 1) := by decide +kernel
theorem dX11_byMud_25 : decode cX11_byMud 25 = .ok (.bipush 10, 2) := by decide +kernel
theorem dX11_byMud_27 : decode cX11_byMud 27 = .ok (.invokestatic 314, 3) := by decide +kernel
theorem dX11_byMud_30 : decode cX11_byMud 30 = .ok (.ifCond .eq 7, 3) := by decide +kernel
theorem dX11_byMud_33 : decode cX11_byMud 33 = .ok (.iconst 1, 1) := by decide +kernel
theorem dX11_byMud_34 : decode cX11_byMud 34 = .ok (.goto 4, 3) := by decide +kernel
theorem dX11_byMud_37 : decode cX11_byMud 37 = .ok (.iconst 0, 1) := by decide +kernel
theorem dX11_byMud_38 : decode cX11_byMud 38 = .ok (.iconst 2, 1) := by decide +kernel
theorem dX11_byMud_39 : decode cX11_byMud 39 = .ok (.invokevirtual 244, 3) := by decide +kernel
theorem dX11_byMud_42 : decode cX11_byMud 42 = .ok (.ifCond .ne 5, 3) := by decide +kernel
theorem dX11_byMud_45 : decode cX11_byMud 45 = .ok (.iconst 0, 1) := by decide +kernel
theorem dX11_byMud_46 : decode cX11_byMud 46 = .ok (.ireturn, 1) := by decide +kernel
theorem dX11_byMud_47 : decode cX11_byMud 47 = .ok (.iconst 0, 1) := by decide +kernel
theorem dX11_byMud_48 : decode cX11_byMud 48 = .ok (.istore 4, 2) := by decide +kernel
theorem dX11_byMud_50 : decode cX11_byMud 50 = .ok (.iconst 0, 1) := by decide +kernel
theorem dX11_byMud_51 : decode cX11_byMud 51 = .ok (.istore 5, 2) := by decide +kernel
theorem dX11_byMud_53 : decode cX11_byMud 53 = .ok (.iload 5, 2) := by decide +kernel
theorem dX11_byMud_55 : decode cX11_byMud 55 = .ok (.iconst 1, 1) := by decide +kernel
theorem dX11_byMud_56 : decode cX11_byMud 56 = .ok (.iload_n 2, 1) := by decide +kernel
theorem dX11_byMud_57 : decode cX11_byMud 57 = .ok (.ishl, 1) := by decide +kernel
theorem dX11_byMud_58 : decode cX11_byMud 58 = .ok (.if_icmp .ge 112, 3) := by decide +kernel
theorem dX11_byMud_61 : decode cX11_byMud 61 = .ok (.iconst 1, 1) := by decide +kernel
theorem dX11_byMud_62 : decode cX11_byMud 62 = .ok (.istore 6, 2) := by decide +kernel
theorem dX11_byMud_64 : decode cX11_byMud 64 = .ok (.iconst 0, 1) := by decide +kernel
theorem dX11_byMud_65 : decode cX11_byMud 65 = .ok (.istore 7, 2) := by decide +kernel
theorem dX11_byMud_67 : decode cX11_byMud 67 = .ok (.aload_n 0, 1) := by decide +kernel
theorem dX11_byMud_68 : decode cX11_byMud 68 = .ok (.invokevirtual 347, 3) := by decide +kernel
theorem dX11_byMud_71 : decode cX11_byMud 71 = .ok (.iconst 0, 1) := by decide +kernel
theorem dX11_byMud_72 : decode cX11_byMud 72 = .ok (.istore 8, 2) := by decide +kernel
theorem dX11_byMud_74 : decode cX11_byMud 74 = .ok (.iload 8, 2) := by decide +kernel
theorem dX11_byMud_76 : decode cX11_byMud 76 = .ok (.iload_n 2, 1) := by decide +kernel
theorem dX11_byMud_77 : decode cX11_byMud 77 = .ok (.if_icmp .ge 77, 3) := by decide +kernel
theorem dX11_byMud_80 : decode cX11_byMud 80 = .ok (.iload 5, 2) := by decide +kernel
theorem dX11_byMud_82 : decode cX11_byMud 82 = .ok (.iload 8, 2) := by decide +kernel
theorem dX11_byMud_84 : decode cX11_byMud 84 = .ok (.ishr, 1) := by decide +kernel
theorem dX11_byMud_85 : decode cX11_byMud 85 = .ok (.iconst 1, 1) := by decide +kernel
theorem dX11_byMud_86 : decode cX11_byMud 86 = .ok (.iand, 1) := by decide +kernel
theorem dX11_byMud_87 : decode cX11_byMud 87 = .ok (.iconst 1, 1) := by decide +kernel
theorem dX11_byMud_88 : decode cX11_byMud 88 = .ok (.if_icmp .ne 7, 3) := by decide +kernel
theorem dX11_byMud_91 : decode cX11_byMud 91 = .ok (.iconst 1, 1) := by decide +kernel
theorem dX11_byMud_92 : decode cX11_byMud 92 = .ok (.goto 4, 3) := by decide +kernel
theorem dX11_byMud_95 : decode cX11_byMud 95 = .ok (.iconst 0, 1) := by decide +kernel
theorem dX11_byMud_96 : decode cX11_byMud 96 = .ok (.istore 9, 2) := by decide +kernel
theorem dX11_byMud_98 : decode cX11_byMud 98 = .ok (.iload 6, 2) := by decide +kernel
theorem dX11_byMud_100 : decode cX11_byMud 100 = .ok (.iload 9, 2) := by decide +kernel
theorem dX11_byMud_102 : decode cX11_byMud 102 = .ok (.ifCond .eq 7, 3) := by decide +kernel
theorem dX11_byMud_105 : decode cX11_byMud 105 = .ok (.iload_n 3, 1) := by decide +kernel
theorem dX11_byMud_106 : decode cX11_byMud 106 = .ok (.goto 7, 3) := by decide +kernel
theorem dX11_byMud_109 : decode cX11_byMud 109 = .ok (.bipush 10, 2) := by decide +kernel
theorem dX11_byMud_111 : decode cX11_byMud 111 = .ok (.iload_n 3, 1) := by decide +kernel
theorem dX11_byMud_112 : decode cX11_byMud 112 = .ok (.isub, 1) := by decide +kernel
theorem dX11_byMud_113 : decode cX11_byMud 113 = .ok (.imul, 1) := by decide +kernel
theorem dX11_byMud_114 : decode cX11_byMud 114 = .ok (.istore 6, 2) := by decide +kernel
theorem dX11_byMud_116 : decode cX11_byMud 116 = .ok (.aload_n 0, 1) := by decide +kernel
theorem dX11_byMud_117 : decode cX11_byMud 117 = .ok (.iload 9, 2) := by decide +kernel
theorem dX11_byMud_119 : decode cX11_byMud 119 = .ok (.ifCond .eq 8, 3) := by decide +kernel
theorem dX11_byMud_122 : decode cX11_byMud 122 = .ok (.bipush 9, 2) := by decide +kernel
theorem dX11_byMud_124 : decode cX11_byMud 124 = .ok (.goto 4, 3) := by decide +kernel
theorem dX11_byMud_127 : decode cX11_byMud 127 = .ok (.iconst 0, 1) := by decide +kernel
theorem dX11_byMud_128 : decode cX11_byMud 128 = .ok (.putfield 63, 3) := by decide +kernel
theorem dX11_byMud_131 : decode cX11_byMud 131 = .ok (.aload_n 0, 1) := by decide +kernel
theorem dX11_byMud_132 : decode cX11_byMud 132 = .ok (.bipush 33, 2) := by decide +kernel
theorem dX11_byMud_134 : decode cX11_byMud 134 = .ok (.invokevirtual 308, 3) := by decide +kernel
theorem dX11_byMud_137 : decode cX11_byMud 137 = .ok (.iload 7, 2) := by decide +kernel
theorem dX11_byMud_139 : decode cX11_byMud 139 = .ok (.aload_n 0, 1) := by decide +kernel
theorem dX11_byMud_140 : decode cX11_byMud 140 = .ok (.getfield 66, 3) := by decide +kernel
theorem dX11_byMud_143 : decode cX11_byMud 143 = .ok (.iload_n 1, 1) := by decide +kernel
theorem dX11_byMud_144 : decode cX11_byMud 144 = .ok (.iaload, 1) := by decide +kernel
theorem dX11_byMud_145 : decode cX11_byMud 145 = .ok (.iadd, 1) := by decide +kernel
theorem dX11_byMud_146 : decode cX11_byMud 146 = .ok (.istore 7, 2) := by decide +kernel
theorem dX11_byMud_148 : decode cX11_byMud 148 = .ok (.iinc 8 1, 3) := by decide +kernel
theorem dX11_byMud_151 : decode cX11_byMud 151 = .ok (.goto (-77), 3) := by decide +kernel
theorem dX11_byMud_154 : decode cX11_byMud 154 = .ok (.iload 4, 2) := by decide +kernel
theorem dX11_byMud_156 : decode cX11_byMud 156 = .ok (.iload 6, 2) := by decide +kernel
theorem dX11_byMud_158 : decode cX11_byMud 158 = .ok (.iload 7, 2) := by decide +kernel
theorem dX11_byMud_160 : decode cX11_byMud 160 = .ok (.imul, 1) := by decide +kernel
theorem dX11_byMud_161 : decode cX11_byMud 161 = .ok (.iadd, 1) := by decide +kernel
theorem dX11_byMud_162 : decode cX11_byMud 162 = .ok (.istore 4, 2) := by decide +kernel
theorem dX11_byMud_164 : decode cX11_byMud 164 = .ok (.iinc 5 1, 3) := by decide +kernel
theorem dX11_byMud_167 : decode cX11_byMud 167 = .ok (.goto (-114), 3) := by decide +kernel
theorem dX11_byMud_170 : decode cX11_byMud 170 = .ok (.aload_n 0, 1) := by decide +kernel
theorem dX11_byMud_171 : decode cX11_byMud 171 = .ok (.iconst (-1), 1) := by decide +kernel
theorem dX11_byMud_172 : decode cX11_byMud 172 = .ok (.putfield 63, 3) := by decide +kernel
theorem dX11_byMud_175 : decode cX11_byMud 175 = .ok (.iload 4, 2) := by decide +kernel
theorem dX11_byMud_177 : decode cX11_byMud 177 = .ok (.ireturn, 1) := by decide +kernel
theorem dX11_gains_0 : decode cX11_gains 0 = .ok (.aload_n 0, 1) := by decide +kernel
theorem dX11_gains_1 : decode cX11_gains 1 = .ok (.invokevirtual 347, 3) := by decide +kernel
theorem dX11_gains_4 : decode cX11_gains 4 = .ok (.iload_n 3, 1) := by decide +kernel
theorem dX11_gains_5 : decode cX11_gains 5 = .ok (.iconst 1, 1) := by decide +kernel
theorem dX11_gains_6 : decode cX11_gains 6 = .ok (.if_icmp .ne 14, 3) := by decide +kernel
theorem dX11_gains_9 : decode cX11_gains 9 = .ok (.aload_n 0, 1) := by decide +kernel
theorem dX11_gains_10 : decode cX11_gains 10 = .ok (.getfield 51, 3) := by decide +kernel
theorem dX11_gains_13 : decode cX11_gains 13 = .ok (.bipush 42, 2) := by decide +kernel
theorem dX11_gains_15 : decode cX11_gains 15 = .ok (.iload_n 1, 1) := by decide +kernel
theorem dX11_gains_16 : decode cX11_gains 16 = .ok (.iadd, 1) := by decide +kernel
theorem dX11_gains_17 : decode cX11_gains 17 = .ok (.bipush 9, 2) := by decide +kernel
theorem dX11_gains_19 : decode cX11_gains 19 = .ok (.iastore, 1) := by decide +kernel
theorem dX11_gains_20 : decode cX11_gains 20 = .ok (.iload 4, 2) := by decide +kernel
theorem dX11_gains_22 : decode cX11_gains 22 = .ok (.iconst 1, 1) := by decide +kernel
theorem dX11_gains_23 : decode cX11_gains 23 = .ok (.if_icmp .ne 14, 3) := by decide +kernel
theorem dX11_gains_26 : decode cX11_gains 26 = .ok (.aload_n 0, 1) := by decide +kernel
theorem dX11_gains_27 : decode cX11_gains 27 = .ok (.getfield 51, 3) := by decide +kernel
theorem dX11_gains_30 : decode cX11_gains 30 = .ok (.bipush 42, 2) := by decide +kernel
theorem dX11_gains_32 : decode cX11_gains 32 = .ok (.iload_n 2, 1) := by decide +kernel
theorem dX11_gains_33 : decode cX11_gains 33 = .ok (.iadd, 1) := by decide +kernel
theorem dX11_gains_34 : decode cX11_gains 34 = .ok (.bipush 9, 2) := by decide +kernel
theorem dX11_gains_36 : decode cX11_gains 36 = .ok (.iastore, 1) := by decide +kernel
theorem dX11_gains_37 : decode cX11_gains 37 = .ok (.iconst 0, 1) := by decide +kernel
theorem dX11_gains_38 : decode cX11_gains 38 = .ok (.iload_n 3, 1) := by decide +kernel
theorem dX11_gains_39 : decode cX11_gains 39 = .ok (.isub, 1) := by decide +kernel
theorem dX11_gains_40 : decode cX11_gains 40 = .ok (.istore 5, 2) := by decide +kernel
theorem dX11_gains_42 : decode cX11_gains 42 = .ok (.iconst 0, 1) := by decide +kernel
theorem dX11_gains_43 : decode cX11_gains 43 = .ok (.istore 6, 2) := by decide +kernel
theorem dX11_gains_45 : decode cX11_gains 45 = .ok (.iload 6, 2) := by decide +kernel
theorem dX11_gains_47 : decode cX11_gains 47 = .ok (.bipush 6, 2) := by decide +kernel
theorem dX11_gains_49 : decode cX11_gains 49 = .ok (.if_icmp .ge 28, 3) := by decide +kernel
theorem dX11_gains_52 : decode cX11_gains 52 = .ok (.aload_n 0, 1) := by decide +kernel
theorem dX11_gains_53 : decode cX11_gains 53 = .ok (.bipush 33, 2) := by decide +kernel
theorem dX11_gains_55 : decode cX11_gains 55 = .ok (.invokevirtual 308, 3) := by decide +kernel
theorem dX11_gains_58 : decode cX11_gains 58 = .ok (.iload 5, 2) := by decide +kernel
theorem dX11_gains_60 : decode cX11_gains 60 = .ok (.aload_n 0, 1) := by decide +kernel
theorem dX11_gains_61 : decode cX11_gains 61 = .ok (.getfield 296, 3) := by decide +kernel
theorem dX11_gains_64 : decode cX11_gains 64 = .ok (.iload_n 2, 1) := by decide +kernel
theorem dX11_gains_65 : decode cX11_gains 65 = .ok (.ishr, 1) := by decide +kernel
theorem dX11_gains_66 : decode cX11_gains 66 = .ok (.iconst 1, 1) := by decide +kernel
theorem dX11_gains_67 : decode cX11_gains 67 = .ok (.iand, 1) := by decide +kernel
theorem dX11_gains_68 : decode cX11_gains 68 = .ok (.isub, 1) := by decide +kernel
theorem dX11_gains_69 : decode cX11_gains 69 = .ok (.istore 5, 2) := by decide +kernel
theorem dX11_gains_71 : decode cX11_gains 71 = .ok (.iinc 6 1, 3) := by decide +kernel
theorem dX11_gains_74 : decode cX11_gains 74 = .ok (.goto (-29), 3) := by decide +kernel
theorem dX11_gains_77 : decode cX11_gains 77 = .ok (.iload 5, 2) := by decide +kernel
theorem dX11_gains_79 : decode cX11_gains 79 = .ok (.aload_n 0, 1) := by decide +kernel
theorem dX11_gains_80 : decode cX11_gains 80 = .ok (.getfield 51, 3) := by decide +kernel
theorem dX11_gains_83 : decode cX11_gains 83 = .ok (.bipush 50, 2) := by decide +kernel
theorem dX11_gains_85 : decode cX11_gains 85 = .ok (.iload_n 1, 1) := by decide +kernel
theorem dX11_gains_86 : decode cX11_gains 86 = .ok (.iadd, 1) := by decide +kernel
theorem dX11_gains_87 : decode cX11_gains 87 = .ok (.iaload, 1) := by decide +kernel
theorem dX11_gains_88 : decode cX11_gains 88 = .ok (.iadd, 1) := by decide +kernel
theorem dX11_gains_89 : decode cX11_gains 89 = .ok (.aload_n 0, 1) := by decide +kernel
theorem dX11_gains_90 : decode cX11_gains 90 = .ok (.getfield 51, 3) := by decide +kernel
theorem dX11_gains_93 : decode cX11_gains 93 = .ok (.bipush 17, 2) := by decide +kernel
theorem dX11_gains_95 : decode cX11_gains 95 = .ok (.iload_n 1, 1) := by decide +kernel
theorem dX11_gains_96 : decode cX11_gains 96 = .ok (.iadd, 1) := by decide +kernel
theorem dX11_gains_97 : decode cX11_gains 97 = .ok (.iaload, 1) := by decide +kernel
theorem dX11_gains_98 : decode cX11_gains 98 = .ok (.isub, 1) := by decide +kernel
theorem dX11_gains_99 : decode cX11_gains 99 = .ok (.ireturn, 1) := by decide +kernel
theorem dX11_game_0 : decode cX11_game 0 = .ok (.aload_n 0, 1) := by decide +kernel
theorem dX11_game_1 : decode cX11_game 1 = .ok (.iconst 0, 1) := by decide +kernel
theorem dX11_game_2 : decode cX11_game 2 = .ok (.putfield 84, 3) := by decide +kernel
theorem dX11_game_5 : decode cX11_game 5 = .ok (.aload_n 0, 1) := by decide +kernel
theorem dX11_game_6 : decode cX11_game 6 = .ok (.iload_n 1, 1) := by decide +kernel
theorem dX11_game_7 : decode cX11_game 7 = .ok (.invokevirtual 327, 3) := by decide +kernel
theorem dX11_game_10 : decode cX11_game 10 = .ok (.ifCond .eq 58, 3) := by decide +kernel
theorem dX11_game_13 : decode cX11_game 13 = .ok (.aload_n 0, 1) := by decide +kernel
theorem dX11_game_14 : decode cX11_game 14 = .ok (.iload_n 2, 1) := by decide +kernel
theorem dX11_game_15 : decode cX11_game 15 = .ok (.invokevirtual 327, 3) := by decide +kernel
theorem dX11_game_18 : decode cX11_game 18 = .ok (.ifCond .eq 50, 3) := by decide +kernel
theorem dX11_game_21 : decode cX11_game 21 = .ok (.aload_n 0, 1) := by decide +kernel
theorem dX11_game_22 : decode cX11_game 22 = .ok (.iload_n 3, 1) := by decide +kernel
theorem dX11_game_23 : decode cX11_game 23 = .ok (.iconst 1, 1) := by decide +kernel
theorem dX11_game_24 : decode cX11_game 24 = .ok (.invokevirtual 330, 3) := by decide +kernel
theorem dX11_game_27 : decode cX11_game 27 = .ok (.ifCond .eq 41, 3) := by decide +kernel
theorem dX11_game_30 : decode cX11_game 30 = .ok (.aload_n 0, 1) := by decide +kernel
theorem dX11_game_31 : decode cX11_game 31 = .ok (.iload_n 1, 1) := by decide +kernel
theorem dX11_game_32 : decode cX11_game 32 = .ok (.iload_n 2, 1) := by decide +kernel
theorem dX11_game_33 : decode cX11_game 33 = .ok (.if_icmp .eq 27, 3) := by decide +kernel
theorem dX11_game_36 : decode cX11_game 36 = .ok (.aload_n 0, 1) := by decide +kernel
theorem dX11_game_37 : decode cX11_game 37 = .ok (.iconst 0, 1) := by decide +kernel
theorem dX11_game_38 : decode cX11_game 38 = .ok (.iload_n 1, 1) := by decide +kernel
theorem dX11_game_39 : decode cX11_game 39 = .ok (.invokevirtual 311, 3) := by decide +kernel
theorem dX11_game_42 : decode cX11_game 42 = .ok (.iconst (-1), 1) := by decide +kernel
theorem dX11_game_43 : decode cX11_game 43 = .ok (.if_icmp .eq 17, 3) := by decide +kernel
theorem dX11_game_46 : decode cX11_game 46 = .ok (.aload_n 0, 1) := by decide +kernel
theorem dX11_game_47 : decode cX11_game 47 = .ok (.iconst 0, 1) := by decide +kernel
theorem dX11_game_48 : decode cX11_game 48 = .ok (.iload_n 2, 1) := by decide +kernel
theorem dX11_game_49 : decode cX11_game 49 = .ok (.invokevirtual 311, 3) := by decide +kernel
theorem dX11_game_52 : decode cX11_game 52 = .ok (.iconst (-1), 1) := by decide +kernel
theorem dX11_game_53 : decode cX11_game 53 = .ok (.if_icmp .eq 7, 3) := by decide +kernel
theorem dX11_game_56 : decode cX11_game 56 = .ok (.iconst 1, 1) := by decide +kernel
theorem dX11_game_57 : decode cX11_game 57 = .ok (.goto 4, 3) := by decide +kernel
theorem dX11_game_60 : decode cX11_game 60 = .ok (.iconst 0, 1) := by decide +kernel
theorem dX11_game_61 : decode cX11_game 61 = .ok (.iconst 2, 1) := by decide +kernel
theorem dX11_game_62 : decode cX11_game 62 = .ok (.invokevirtual 244, 3) := by decide +kernel
theorem dX11_game_65 : decode cX11_game 65 = .ok (.ifCond .ne 5, 3) := by decide +kernel
theorem dX11_game_68 : decode cX11_game 68 = .ok (.iconst 0, 1) := by decide +kernel
theorem dX11_game_69 : decode cX11_game 69 = .ok (.ireturn, 1) := by decide +kernel
theorem dX11_game_70 : decode cX11_game 70 = .ok (.iconst 0, 1) := by decide +kernel
theorem dX11_game_71 : decode cX11_game 71 = .ok (.istore 4, 2) := by decide +kernel
theorem dX11_game_73 : decode cX11_game 73 = .ok (.iconst (-1), 1) := by decide +kernel
theorem dX11_game_74 : decode cX11_game 74 = .ok (.istore 5, 2) := by decide +kernel
theorem dX11_game_76 : decode cX11_game 76 = .ok (.iconst 0, 1) := by decide +kernel
theorem dX11_game_77 : decode cX11_game 77 = .ok (.istore 6, 2) := by decide +kernel
theorem dX11_game_79 : decode cX11_game 79 = .ok (.iload 6, 2) := by decide +kernel
theorem dX11_game_81 : decode cX11_game 81 = .ok (.iconst 4, 1) := by decide +kernel
theorem dX11_game_82 : decode cX11_game 82 = .ok (.if_icmp .ge 93, 3) := by decide +kernel
theorem dX11_game_85 : decode cX11_game 85 = .ok (.iload 6, 2) := by decide +kernel
theorem dX11_game_87 : decode cX11_game 87 = .ok (.iconst 2, 1) := by decide +kernel
theorem dX11_game_88 : decode cX11_game 88 = .ok (.idiv, 1) := by decide +kernel
theorem dX11_game_89 : decode cX11_game 89 = .ok (.istore 7, 2) := by decide +kernel
theorem dX11_game_91 : decode cX11_game 91 = .ok (.iload 6, 2) := by decide +kernel
theorem dX11_game_93 : decode cX11_game 93 = .ok (.iconst 2, 1) := by decide +kernel
theorem dX11_game_94 : decode cX11_game 94 = .ok (.irem, 1) := by decide +kernel
theorem dX11_game_95 : decode cX11_game 95 = .ok (.istore 8, 2) := by decide +kernel
theorem dX11_game_97 : decode cX11_game 97 = .ok (.aload_n 0, 1) := by decide +kernel
theorem dX11_game_98 : decode cX11_game 98 = .ok (.iload_n 1, 1) := by decide +kernel
theorem dX11_game_99 : decode cX11_game 99 = .ok (.iload_n 2, 1) := by decide +kernel
theorem dX11_game_100 : decode cX11_game 100 = .ok (.iconst 1, 1) := by decide +kernel
theorem dX11_game_101 : decode cX11_game 101 = .ok (.iload 7, 2) := by decide +kernel
theorem dX11_game_103 : decode cX11_game 103 = .ok (.isub, 1) := by decide +kernel
theorem dX11_game_104 : decode cX11_game 104 = .ok (.iload 8, 2) := by decide +kernel
theorem dX11_game_106 : decode cX11_game 106 = .ok (.invokevirtual 381, 3) := by decide +kernel
theorem dX11_game_109 : decode cX11_game 109 = .ok (.aload_n 0, 1) := by decide +kernel
theorem dX11_game_110 : decode cX11_game 110 = .ok (.iload_n 1, 1) := by decide +kernel
theorem dX11_game_111 : decode cX11_game 111 = .ok (.iload_n 2, 1) := by decide +kernel
theorem dX11_game_112 : decode cX11_game 112 = .ok (.iload 7, 2) := by decide +kernel
theorem dX11_game_114 : decode cX11_game 114 = .ok (.iload 8, 2) := by decide +kernel
theorem dX11_game_116 : decode cX11_game 116 = .ok (.invokevirtual 381, 3) := by decide +kernel
theorem dX11_game_119 : decode cX11_game 119 = .ok (.if_icmp .gt 50, 3) := by decide +kernel
theorem dX11_game_122 : decode cX11_game 122 = .ok (.aload_n 0, 1) := by decide +kernel
theorem dX11_game_123 : decode cX11_game 123 = .ok (.iload_n 2, 1) := by decide +kernel
theorem dX11_game_124 : decode cX11_game 124 = .ok (.iload_n 1, 1) := by decide +kernel
theorem dX11_game_125 : decode cX11_game 125 = .ok (.iconst 1, 1) := by decide +kernel
theorem dX11_game_126 : decode cX11_game 126 = .ok (.iload 8, 2) := by decide +kernel
theorem dX11_game_128 : decode cX11_game 128 = .ok (.isub, 1) := by decide +kernel
theorem dX11_game_129 : decode cX11_game 129 = .ok (.iload 7, 2) := by decide +kernel
theorem dX11_game_131 : decode cX11_game 131 = .ok (.invokevirtual 381, 3) := by decide +kernel
theorem dX11_game_134 : decode cX11_game 134 = .ok (.aload_n 0, 1) := by decide +kernel
theorem dX11_game_135 : decode cX11_game 135 = .ok (.iload_n 2, 1) := by decide +kernel
theorem dX11_game_136 : decode cX11_game 136 = .ok (.iload_n 1, 1) := by decide +kernel
theorem dX11_game_137 : decode cX11_game 137 = .ok (.iload 8, 2) := by decide +kernel
theorem dX11_game_139 : decode cX11_game 139 = .ok (.iload 7, 2) := by decide +kernel
theorem dX11_game_141 : decode cX11_game 141 = .ok (.invokevirtual 381, 3) := by decide +kernel
theorem dX11_game_144 : decode cX11_game 144 = .ok (.if_icmp .le 6, 3) := by decide +kernel
theorem dX11_game_147 : decode cX11_game 147 = .ok (.goto 22, 3) := by decide +kernel
theorem dX11_game_150 : decode cX11_game 150 = .ok (.iinc 4 1, 3) := by decide +kernel
theorem dX11_game_153 : decode cX11_game 153 = .ok (.iload 5, 2) := by decide +kernel
theorem dX11_game_155 : decode cX11_game 155 = .ok (.iconst (-1), 1) := by decide +kernel
theorem dX11_game_156 : decode cX11_game 156 = .ok (.if_icmp .ne 13, 3) := by decide +kernel
theorem dX11_game_159 : decode cX11_game 159 = .ok (.bipush 10, 2) := by decide +kernel
theorem dX11_game_161 : decode cX11_game 161 = .ok (.iload 7, 2) := by decide +kernel
theorem dX11_game_163 : decode cX11_game 163 = .ok (.imul, 1) := by decide +kernel
theorem dX11_game_164 : decode cX11_game 164 = .ok (.iload 8, 2) := by decide +kernel
theorem dX11_game_166 : decode cX11_game 166 = .ok (.iadd, 1) := by decide +kernel
theorem dX11_game_167 : decode cX11_game 167 = .ok (.istore 5, 2) := by decide +kernel
theorem dX11_game_169 : decode cX11_game 169 = .ok (.iinc 6 1, 3) := by decide +kernel
theorem dX11_game_172 : decode cX11_game 172 = .ok (.goto (-93), 3) := by decide +kernel
theorem dX11_game_175 : decode cX11_game 175 = .ok (.iload_n 3, 1) := by decide +kernel
theorem dX11_game_176 : decode cX11_game 176 = .ok (.ifCond .ne 8, 3) := by decide +kernel
theorem dX11_game_179 : decode cX11_game 179 = .ok (.iload 4, 2) := by decide +kernel
theorem dX11_game_181 : decode cX11_game 181 = .ok (.goto 5, 3) := by decide +kernel
theorem dX11_game_184 : decode cX11_game 184 = .ok (.iload 5, 2) := by decide +kernel
theorem dX11_game_186 : decode cX11_game 186 = .ok (.ireturn, 1) := by decide +kernel
theorem dX11_draw_0 : decode cX11_draw 0 = .ok (.aload_n 0, 1) := by decide +kernel
theorem dX11_draw_1 : decode cX11_draw 1 = .ok (.aload_n 0, 1) := by decide +kernel
theorem dX11_draw_2 : decode cX11_draw 2 = .ok (.getfield 385, 3) := by decide +kernel
theorem dX11_draw_5 : decode cX11_draw 5 = .ok (.ldc_w 388, 3) := by decide +kernel
theorem dX11_draw_8 : decode cX11_draw 8 = .ok (.imul, 1) := by decide +kernel
theorem dX11_draw_9 : decode cX11_draw 9 = .ok (.sipush 12345, 3) := by decide +kernel
theorem dX11_draw_12 : decode cX11_draw 12 = .ok (.iadd, 1) := by decide +kernel
theorem dX11_draw_13 : decode cX11_draw 13 = .ok (.putfield 385, 3) := by decide +kernel
theorem dX11_draw_16 : decode cX11_draw 16 = .ok (.aload_n 0, 1) := by decide +kernel
theorem dX11_draw_17 : decode cX11_draw 17 = .ok (.getfield 385, 3) := by decide +kernel
theorem dX11_draw_20 : decode cX11_draw 20 = .ok (.bipush 16, 2) := by decide +kernel
theorem dX11_draw_22 : decode cX11_draw 22 = .ok (.ishr, 1) := by decide +kernel
theorem dX11_draw_23 : decode cX11_draw 23 = .ok (.sipush 32767, 3) := by decide +kernel
theorem dX11_draw_26 : decode cX11_draw 26 = .ok (.iand, 1) := by decide +kernel
theorem dX11_draw_27 : decode cX11_draw 27 = .ok (.iload_n 1, 1) := by decide +kernel
theorem dX11_draw_28 : decode cX11_draw 28 = .ok (.irem, 1) := by decide +kernel
theorem dX11_draw_29 : decode cX11_draw 29 = .ok (.ireturn, 1) := by decide +kernel
theorem dX11_happens_0 : decode cX11_happens 0 = .ok (.aload_n 0, 1) := by decide +kernel
theorem dX11_happens_1 : decode cX11_happens 1 = .ok (.aload_n 0, 1) := by decide +kernel
theorem dX11_happens_2 : decode cX11_happens 2 = .ok (.getfield 251, 3) := by decide +kernel
theorem dX11_happens_5 : decode cX11_happens 5 = .ok (.invokevirtual 389, 3) := by decide +kernel
theorem dX11_happens_8 : decode cX11_happens 8 = .ok (.istore_n 1, 1) := by decide +kernel
theorem dX11_happens_9 : decode cX11_happens 9 = .ok (.aload_n 0, 1) := by decide +kernel
theorem dX11_happens_10 : decode cX11_happens 10 = .ok (.iconst 3, 1) := by decide +kernel
theorem dX11_happens_11 : decode cX11_happens 11 = .ok (.invokevirtual 389, 3) := by decide +kernel
theorem dX11_happens_14 : decode cX11_happens 14 = .ok (.istore_n 2, 1) := by decide +kernel
theorem dX11_happens_15 : decode cX11_happens 15 = .ok (.iload_n 2, 1) := by decide +kernel
theorem dX11_happens_16 : decode cX11_happens 16 = .ok (.ifCond .ne 28, 3) := by decide +kernel
theorem dX11_happens_19 : decode cX11_happens 19 = .ok (.aload_n 0, 1) := by decide +kernel
theorem dX11_happens_20 : decode cX11_happens 20 = .ok (.getfield 51, 3) := by decide +kernel
theorem dX11_happens_23 : decode cX11_happens 23 = .ok (.bipush 34, 2) := by decide +kernel
theorem dX11_happens_25 : decode cX11_happens 25 = .ok (.iload_n 1, 1) := by decide +kernel
theorem dX11_happens_26 : decode cX11_happens 26 = .ok (.iadd, 1) := by decide +kernel
theorem dX11_happens_27 : decode cX11_happens 27 = .ok (.dup2, 1) := by decide +kernel
theorem dX11_happens_28 : decode cX11_happens 28 = .ok (.iaload, 1) := by decide +kernel
theorem dX11_happens_29 : decode cX11_happens 29 = .ok (.iconst 1, 1) := by decide +kernel
theorem dX11_happens_30 : decode cX11_happens 30 = .ok (.aload_n 0, 1) := by decide +kernel
theorem dX11_happens_31 : decode cX11_happens 31 = .ok (.aload_n 0, 1) := by decide +kernel
theorem dX11_happens_32 : decode cX11_happens 32 = .ok (.getfield 7, 3) := by decide +kernel
theorem dX11_happens_35 : decode cX11_happens 35 = .ok (.invokevirtual 389, 3) := by decide +kernel
theorem dX11_happens_38 : decode cX11_happens 38 = .ok (.ishl, 1) := by decide +kernel
theorem dX11_happens_39 : decode cX11_happens 39 = .ok (.ixor, 1) := by decide +kernel
theorem dX11_happens_40 : decode cX11_happens 40 = .ok (.iastore, 1) := by decide +kernel
theorem dX11_happens_41 : decode cX11_happens 41 = .ok (.goto 25, 3) := by decide +kernel
theorem dX11_happens_44 : decode cX11_happens 44 = .ok (.iload_n 2, 1) := by decide +kernel
theorem dX11_happens_45 : decode cX11_happens 45 = .ok (.iconst 1, 1) := by decide +kernel
theorem dX11_happens_46 : decode cX11_happens 46 = .ok (.if_icmp .ne 20, 3) := by decide +kernel
theorem dX11_happens_49 : decode cX11_happens 49 = .ok (.aload_n 0, 1) := by decide +kernel
theorem dX11_happens_50 : decode cX11_happens 50 = .ok (.getfield 51, 3) := by decide +kernel
theorem dX11_happens_53 : decode cX11_happens 53 = .ok (.bipush 42, 2) := by decide +kernel
theorem dX11_happens_55 : decode cX11_happens 55 = .ok (.iload_n 1, 1) := by decide +kernel
theorem dX11_happens_56 : decode cX11_happens 56 = .ok (.iadd, 1) := by decide +kernel
theorem dX11_happens_57 : decode cX11_happens 57 = .ok (.aload_n 0, 1) := by decide +kernel
theorem dX11_happens_58 : decode cX11_happens 58 = .ok (.bipush 9, 2) := by decide +kernel
theorem dX11_happens_60 : decode cX11_happens 60 = .ok (.invokevirtual 389, 3) := by decide +kernel
theorem dX11_happens_63 : decode cX11_happens 63 = .ok (.iconst 1, 1) := by decide +kernel
theorem dX11_happens_64 : decode cX11_happens 64 = .ok (.iadd, 1) := by decide +kernel
theorem dX11_happens_65 : decode cX11_happens 65 = .ok (.iastore, 1) := by decide +kernel
theorem dX11_happens_66 : decode cX11_happens 66 = .ok (.return_, 1) := by decide +kernel
theorem dX11_reviews_0 : decode cX11_reviews 0 = .ok (.aload_n 0, 1) := by decide +kernel
theorem dX11_reviews_1 : decode cX11_reviews 1 = .ok (.iconst 0, 1) := by decide +kernel
theorem dX11_reviews_2 : decode cX11_reviews 2 = .ok (.putfield 84, 3) := by decide +kernel
theorem dX11_reviews_5 : decode cX11_reviews 5 = .ok (.aload_n 0, 1) := by decide +kernel
theorem dX11_reviews_6 : decode cX11_reviews 6 = .ok (.iload_n 3, 1) := by decide +kernel
theorem dX11_reviews_7 : decode cX11_reviews 7 = .ok (.iconst 2, 1) := by decide +kernel
theorem dX11_reviews_8 : decode cX11_reviews 8 = .ok (.invokevirtual 330, 3) := by decide +kernel
theorem dX11_reviews_11 : decode cX11_reviews 11 = .ok (.ifCond .eq 13, 3) := by decide +kernel
theorem dX11_reviews_14 : decode cX11_reviews 14 = .ok (.aload_n 0, 1) := by decide +kernel
theorem dX11_reviews_15 : decode cX11_reviews 15 = .ok (.iload_n 2, 1) := by decide +kernel
theorem dX11_reviews_16 : decode cX11_reviews 16 = .ok (.iconst 0, 1) := by decide +kernel
theorem dX11_reviews_17 : decode cX11_reviews 17 = .ok (.iconst 2, 1) := by decide +kernel
theorem dX11_reviews_18 : decode cX11_reviews 18 = .ok (.invokevirtual 353, 3) := by decide +kernel
theorem dX11_reviews_21 : decode cX11_reviews 21 = .ok (.ifCond .ne 5, 3) := by decide +kernel
theorem dX11_reviews_24 : decode cX11_reviews 24 = .ok (.iconst 0, 1) := by decide +kernel
theorem dX11_reviews_25 : decode cX11_reviews 25 = .ok (.ireturn, 1) := by decide +kernel
theorem dX11_reviews_26 : decode cX11_reviews 26 = .ok (.aload_n 0, 1) := by decide +kernel
theorem dX11_reviews_27 : decode cX11_reviews 27 = .ok (.invokevirtual 347, 3) := by decide +kernel
theorem dX11_reviews_30 : decode cX11_reviews 30 = .ok (.aload_n 0, 1) := by decide +kernel
theorem dX11_reviews_31 : decode cX11_reviews 31 = .ok (.iload_n 1, 1) := by decide +kernel
theorem dX11_reviews_32 : decode cX11_reviews 32 = .ok (.putfield 385, 3) := by decide +kernel
theorem dX11_reviews_35 : decode cX11_reviews 35 = .ok (.iconst 0, 1) := by decide +kernel
theorem dX11_reviews_36 : decode cX11_reviews 36 = .ok (.istore 4, 2) := by decide +kernel
theorem dX11_reviews_38 : decode cX11_reviews 38 = .ok (.iconst 0, 1) := by decide +kernel
theorem dX11_reviews_39 : decode cX11_reviews 39 = .ok (.istore 5, 2) := by decide +kernel
theorem dX11_reviews_41 : decode cX11_reviews 41 = .ok (.iload 5, 2) := by decide +kernel
theorem dX11_reviews_43 : decode cX11_reviews 43 = .ok (.iload_n 2, 1) := by decide +kernel
theorem dX11_reviews_44 : decode cX11_reviews 44 = .ok (.if_icmp .ge 48, 3) := by decide +kernel
theorem dX11_reviews_47 : decode cX11_reviews 47 = .ok (.aload_n 0, 1) := by decide +kernel
theorem dX11_reviews_48 : decode cX11_reviews 48 = .ok (.getfield 251, 3) := by decide +kernel
theorem dX11_reviews_51 : decode cX11_reviews 51 = .ok (.ifCond .le 7, 3) := by decide +kernel
theorem dX11_reviews_54 : decode cX11_reviews 54 = .ok (.aload_n 0, 1) := by decide +kernel
theorem dX11_reviews_55 : decode cX11_reviews 55 = .ok (.invokevirtual 392, 3) := by decide +kernel
theorem dX11_reviews_58 : decode cX11_reviews 58 = .ok (.aload_n 0, 1) := by decide +kernel
theorem dX11_reviews_59 : decode cX11_reviews 59 = .ok (.aload_n 0, 1) := by decide +kernel
theorem dX11_reviews_60 : decode cX11_reviews 60 = .ok (.bipush 10, 2) := by decide +kernel
theorem dX11_reviews_62 : decode cX11_reviews 62 = .ok (.invokevirtual 389, 3) := by decide +kernel
theorem dX11_reviews_65 : decode cX11_reviews 65 = .ok (.putfield 63, 3) := by decide +kernel
theorem dX11_reviews_68 : decode cX11_reviews 68 = .ok (.aload_n 0, 1) := by decide +kernel
theorem dX11_reviews_69 : decode cX11_reviews 69 = .ok (.bipush 33, 2) := by decide +kernel
theorem dX11_reviews_71 : decode cX11_reviews 71 = .ok (.invokevirtual 308, 3) := by decide +kernel
theorem dX11_reviews_74 : decode cX11_reviews 74 = .ok (.iload 4, 2) := by decide +kernel
theorem dX11_reviews_76 : decode cX11_reviews 76 = .ok (.aload_n 0, 1) := by decide +kernel
theorem dX11_reviews_77 : decode cX11_reviews 77 = .ok (.getfield 299, 3) := by decide +kernel
theorem dX11_reviews_80 : decode cX11_reviews 80 = .ok (.invokestatic 284, 3) := by decide +kernel
theorem dX11_reviews_83 : decode cX11_reviews 83 = .ok (.iadd, 1) := by decide +kernel
theorem dX11_reviews_84 : decode cX11_reviews 84 = .ok (.istore 4, 2) := by decide +kernel
theorem dX11_reviews_86 : decode cX11_reviews 86 = .ok (.iinc 5 1, 3) := by decide +kernel
theorem dX11_reviews_89 : decode cX11_reviews 89 = .ok (.goto (-48), 3) := by decide +kernel
theorem dX11_reviews_92 : decode cX11_reviews 92 = .ok (.aload_n 0, 1) := by decide +kernel
theorem dX11_reviews_93 : decode cX11_reviews 93 = .ok (.iconst (-1), 1) := by decide +kernel
theorem dX11_reviews_94 : decode cX11_reviews 94 = .ok (.putfield 63, 3) := by decide +kernel
theorem dX11_reviews_97 : decode cX11_reviews 97 = .ok (.iconst (-1), 1) := by decide +kernel
theorem dX11_reviews_98 : decode cX11_reviews 98 = .ok (.istore 5, 2) := by decide +kernel
theorem dX11_reviews_100 : decode cX11_reviews 100 = .ok (.iconst 0, 1) := by decide +kernel
theorem dX11_reviews_101 : decode cX11_reviews 101 = .ok (.istore 6, 2) := by decide +kernel
theorem dX11_reviews_103 : decode cX11_reviews 103 = .ok (.iload 6, 2) := by decide +kernel
theorem dX11_reviews_105 : decode cX11_reviews 105 = .ok (.aload_n 0, 1) := by decide +kernel
theorem dX11_reviews_106 : decode cX11_reviews 106 = .ok (.getfield 251, 3) := by decide +kernel
theorem dX11_reviews_109 : decode cX11_reviews 109 = .ok (.if_icmp .ge 42, 3) := by decide +kernel
theorem dX11_reviews_112 : decode cX11_reviews 112 = .ok (.iload 5, 2) := by decide +kernel
theorem dX11_reviews_114 : decode cX11_reviews 114 = .ok (.iconst (-1), 1) := by decide +kernel
theorem dX11_reviews_115 : decode cX11_reviews 115 = .ok (.if_icmp .eq 26, 3) := by decide +kernel
theorem dX11_reviews_118 : decode cX11_reviews 118 = .ok (.aload_n 0, 1) := by decide +kernel
theorem dX11_reviews_119 : decode cX11_reviews 119 = .ok (.getfield 51, 3) := by decide +kernel
theorem dX11_reviews_122 : decode cX11_reviews 122 = .ok (.bipush 50, 2) := by decide +kernel
theorem dX11_reviews_124 : decode cX11_reviews 124 = .ok (.iload 6, 2) := by decide +kernel
theorem dX11_reviews_126 : decode cX11_reviews 126 = .ok (.iadd, 1) := by decide +kernel
theorem dX11_reviews_127 : decode cX11_reviews 127 = .ok (.iaload, 1) := by decide +kernel
theorem dX11_reviews_128 : decode cX11_reviews 128 = .ok (.aload_n 0, 1) := by decide +kernel
theorem dX11_reviews_129 : decode cX11_reviews 129 = .ok (.getfield 51, 3) := by decide +kernel
theorem dX11_reviews_132 : decode cX11_reviews 132 = .ok (.bipush 50, 2) := by decide +kernel
theorem dX11_reviews_134 : decode cX11_reviews 134 = .ok (.iload 5, 2) := by decide +kernel
theorem dX11_reviews_136 : decode cX11_reviews 136 = .ok (.iadd, 1) := by decide +kernel
theorem dX11_reviews_137 : decode cX11_reviews 137 = .ok (.iaload, 1) := by decide +kernel
theorem dX11_reviews_138 : decode cX11_reviews 138 = .ok (.if_icmp .le 7, 3) := by decide +kernel
theorem dX11_reviews_141 : decode cX11_reviews 141 = .ok (.iload 6, 2) := by decide +kernel
theorem dX11_reviews_143 : decode cX11_reviews 143 = .ok (.istore 5, 2) := by decide +kernel
theorem dX11_reviews_145 : decode cX11_reviews 145 = .ok (.iinc 6 1, 3) := by decide +kernel
theorem dX11_reviews_148 : decode cX11_reviews 148 = .ok (.goto (-45), 3) := by decide +kernel
theorem dX11_reviews_151 : decode cX11_reviews 151 = .ok (.iload_n 3, 1) := by decide +kernel
theorem dX11_reviews_152 : decode cX11_reviews 152 = .ok (.ifCond .ne 12, 3) := by decide +kernel
theorem dX11_reviews_155 : decode cX11_reviews 155 = .ok (.aload_n 0, 1) := by decide +kernel
theorem dX11_reviews_156 : decode cX11_reviews 156 = .ok (.bipush 33, 2) := by decide +kernel
theorem dX11_reviews_158 : decode cX11_reviews 158 = .ok (.invokevirtual 318, 3) := by decide +kernel
theorem dX11_reviews_161 : decode cX11_reviews 161 = .ok (.goto 15, 3) := by decide +kernel
theorem dX11_reviews_164 : decode cX11_reviews 164 = .ok (.iload_n 3, 1) := by decide +kernel
theorem dX11_reviews_165 : decode cX11_reviews 165 = .ok (.iconst 1, 1) := by decide +kernel
theorem dX11_reviews_166 : decode cX11_reviews 166 = .ok (.if_icmp .ne 8, 3) := by decide +kernel
theorem dX11_reviews_169 : decode cX11_reviews 169 = .ok (.iload 4, 2) := by decide +kernel
theorem dX11_reviews_171 : decode cX11_reviews 171 = .ok (.goto 5, 3) := by decide +kernel
theorem dX11_reviews_174 : decode cX11_reviews 174 = .ok (.iload 5, 2) := by decide +kernel
theorem dX11_reviews_176 : decode cX11_reviews 176 = .ok (.ireturn, 1) := by decide +kernel
theorem dX11_areBeats_0 : decode cX11_areBeats 0 = .ok (.aload_n 0, 1) := by decide +kernel
theorem dX11_areBeats_1 : decode cX11_areBeats 1 = .ok (.iload_n 1, 1) := by decide +kernel
theorem dX11_areBeats_2 : decode cX11_areBeats 2 = .ok (.ifCond .lt 17, 3) := by decide +kernel
theorem dX11_areBeats_5 : decode cX11_areBeats 5 = .ok (.iload_n 1, 1) := by decide +kernel
theorem dX11_areBeats_6 : decode cX11_areBeats 6 = .ok (.iconst 1, 1) := by decide +kernel
theorem dX11_areBeats_7 : decode cX11_areBeats 7 = .ok (.aload_n 0, 1) := by decide +kernel
theorem dX11_areBeats_8 : decode cX11_areBeats 8 = .ok (.getfield 7, 3) := by decide +kernel
theorem dX11_areBeats_11 : decode cX11_areBeats 11 = .ok (.ishl, 1) := by decide +kernel
theorem dX11_areBeats_12 : decode cX11_areBeats 12 = .ok (.if_icmp .ge 7, 3) := by decide +kernel
theorem dX11_areBeats_15 : decode cX11_areBeats 15 = .ok (.iconst 1, 1) := by decide +kernel
theorem dX11_areBeats_16 : decode cX11_areBeats 16 = .ok (.goto 4, 3) := by decide +kernel
theorem dX11_areBeats_19 : decode cX11_areBeats 19 = .ok (.iconst 0, 1) := by decide +kernel
theorem dX11_areBeats_20 : decode cX11_areBeats 20 = .ok (.iconst 1, 1) := by decide +kernel
theorem dX11_areBeats_21 : decode cX11_areBeats 21 = .ok (.invokevirtual 244, 3) := by decide +kernel
theorem dX11_areBeats_24 : decode cX11_areBeats 24 = .ok (.ireturn, 1) := by decide +kernel
theorem dX11_nextTo_0 : decode cX11_nextTo 0 = .ok (.aload_n 0, 1) := by decide +kernel
theorem dX11_nextTo_1 : decode cX11_nextTo 1 = .ok (.iconst 0, 1) := by decide +kernel
theorem dX11_nextTo_2 : decode cX11_nextTo 2 = .ok (.putfield 84, 3) := by decide +kernel
theorem dX11_nextTo_5 : decode cX11_nextTo 5 = .ok (.aload_n 0, 1) := by decide +kernel
theorem dX11_nextTo_6 : decode cX11_nextTo 6 = .ok (.iload_n 1, 1) := by decide +kernel
theorem dX11_nextTo_7 : decode cX11_nextTo 7 = .ok (.invokevirtual 395, 3) := by decide +kernel
theorem dX11_nextTo_10 : decode cX11_nextTo 10 = .ok (.ifCond .eq 12, 3) := by decide +kernel
theorem dX11_nextTo_13 : decode cX11_nextTo 13 = .ok (.aload_n 0, 1) := by decide +kernel
theorem dX11_nextTo_14 : decode cX11_nextTo 14 = .ok (.iconst 0, 1) := by decide +kernel
theorem dX11_nextTo_15 : decode cX11_nextTo 15 = .ok (.iload_n 1, 1) := by decide +kernel
theorem dX11_nextTo_16 : decode cX11_nextTo 16 = .ok (.invokevirtual 293, 3) := by decide +kernel
theorem dX11_nextTo_19 : decode cX11_nextTo 19 = .ok (.goto 4, 3) := by decide +kernel
theorem dX11_nextTo_22 : decode cX11_nextTo 22 = .ok (.iconst 0, 1) := by decide +kernel
theorem dX11_nextTo_23 : decode cX11_nextTo 23 = .ok (.ireturn, 1) := by decide +kernel
theorem dX11_alike_0 : decode cX11_alike 0 = .ok (.aload_n 0, 1) := by decide +kernel
theorem dX11_alike_1 : decode cX11_alike 1 = .ok (.iconst 0, 1) := by decide +kernel
theorem dX11_alike_2 : decode cX11_alike 2 = .ok (.putfield 84, 3) := by decide +kernel
theorem dX11_alike_5 : decode cX11_alike 5 = .ok (.aload_n 0, 1) := by decide +kernel
theorem dX11_alike_6 : decode cX11_alike 6 = .ok (.iload_n 1, 1) := by decide +kernel
theorem dX11_alike_7 : decode cX11_alike 7 = .ok (.invokevirtual 395, 3) := by decide +kernel
theorem dX11_alike_10 : decode cX11_alike 10 = .ok (.ifCond .ne 5, 3) := by decide +kernel
theorem dX11_alike_13 : decode cX11_alike 13 = .ok (.iconst 0, 1) := by decide +kernel
theorem dX11_alike_14 : decode cX11_alike 14 = .ok (.ireturn, 1) := by decide +kernel
theorem dX11_alike_15 : decode cX11_alike 15 = .ok (.ldc_w 362, 3) := by decide +kernel
theorem dX11_alike_18 : decode cX11_alike 18 = .ok (.istore_n 2, 1) := by decide +kernel
theorem dX11_alike_19 : decode cX11_alike 19 = .ok (.iconst 0, 1) := by decide +kernel
theorem dX11_alike_20 : decode cX11_alike 20 = .ok (.istore_n 3, 1) := by decide +kernel
theorem dX11_alike_21 : decode cX11_alike 21 = .ok (.iconst 0, 1) := by decide +kernel
theorem dX11_alike_22 : decode cX11_alike 22 = .ok (.istore 4, 2) := by decide +kernel
theorem dX11_alike_24 : decode cX11_alike 24 = .ok (.iload 4, 2) := by decide +kernel
theorem dX11_alike_26 : decode cX11_alike 26 = .ok (.aload_n 0, 1) := by decide +kernel
theorem dX11_alike_27 : decode cX11_alike 27 = .ok (.getfield 251, 3) := by decide +kernel
theorem dX11_alike_30 : decode cX11_alike 30 = .ok (.if_icmp .ge 57, 3) := by decide +kernel
theorem dX11_alike_33 : decode cX11_alike 33 = .ok (.aload_n 0, 1) := by decide +kernel
theorem dX11_alike_34 : decode cX11_alike 34 = .ok (.getfield 51, 3) := by decide +kernel
theorem dX11_alike_37 : decode cX11_alike 37 = .ok (.iconst 1, 1) := by decide +kernel
theorem dX11_alike_38 : decode cX11_alike 38 = .ok (.iload 4, 2) := by decide +kernel
theorem dX11_alike_40 : decode cX11_alike 40 = .ok (.iadd, 1) := by decide +kernel
theorem dX11_alike_41 : decode cX11_alike 41 = .ok (.iaload, 1) := by decide +kernel
theorem dX11_alike_42 : decode cX11_alike 42 = .ok (.iload_n 1, 1) := by decide +kernel
theorem dX11_alike_43 : decode cX11_alike 43 = .ok (.ixor, 1) := by decide +kernel
theorem dX11_alike_44 : decode cX11_alike 44 = .ok (.invokestatic 284, 3) := by decide +kernel
theorem dX11_alike_47 : decode cX11_alike 47 = .ok (.istore 5, 2) := by decide +kernel
theorem dX11_alike_49 : decode cX11_alike 49 = .ok (.iload 5, 2) := by decide +kernel
theorem dX11_alike_51 : decode cX11_alike 51 = .ok (.iload_n 2, 1) := by decide +kernel
theorem dX11_alike_52 : decode cX11_alike 52 = .ok (.if_icmp .ge 5, 3) := by decide +kernel
theorem dX11_alike_55 : decode cX11_alike 55 = .ok (.iconst 0, 1) := by decide +kernel
theorem dX11_alike_56 : decode cX11_alike 56 = .ok (.istore_n 3, 1) := by decide +kernel
theorem dX11_alike_57 : decode cX11_alike 57 = .ok (.iload_n 2, 1) := by decide +kernel
theorem dX11_alike_58 : decode cX11_alike 58 = .ok (.iload 5, 2) := by decide +kernel
theorem dX11_alike_60 : decode cX11_alike 60 = .ok (.invokestatic 305, 3) := by decide +kernel
theorem dX11_alike_63 : decode cX11_alike 63 = .ok (.istore_n 2, 1) := by decide +kernel
theorem dX11_alike_64 : decode cX11_alike 64 = .ok (.iload_n 3, 1) := by decide +kernel
theorem dX11_alike_65 : decode cX11_alike 65 = .ok (.iload 5, 2) := by decide +kernel
theorem dX11_alike_67 : decode cX11_alike 67 = .ok (.iload_n 2, 1) := by decide +kernel
theorem dX11_alike_68 : decode cX11_alike 68 = .ok (.if_icmp .ne 10, 3) := by decide +kernel
theorem dX11_alike_71 : decode cX11_alike 71 = .ok (.iconst 1, 1) := by decide +kernel
theorem dX11_alike_72 : decode cX11_alike 72 = .ok (.iload 4, 2) := by decide +kernel
theorem dX11_alike_74 : decode cX11_alike 74 = .ok (.ishl, 1) := by decide +kernel
theorem dX11_alike_75 : decode cX11_alike 75 = .ok (.goto 4, 3) := by decide +kernel
theorem dX11_alike_78 : decode cX11_alike 78 = .ok (.iconst 0, 1) := by decide +kernel
theorem dX11_alike_79 : decode cX11_alike 79 = .ok (.ior, 1) := by decide +kernel
theorem dX11_alike_80 : decode cX11_alike 80 = .ok (.istore_n 3, 1) := by decide +kernel
theorem dX11_alike_81 : decode cX11_alike 81 = .ok (.iinc 4 1, 3) := by decide +kernel
theorem dX11_alike_84 : decode cX11_alike 84 = .ok (.goto (-60), 3) := by decide +kernel
theorem dX11_alike_87 : decode cX11_alike 87 = .ok (.iload_n 3, 1) := by decide +kernel
theorem dX11_alike_88 : decode cX11_alike 88 = .ok (.ireturn, 1) := by decide +kernel
theorem dX11_lost_0 : decode cX11_lost 0 = .ok (.aload_n 0, 1) := by decide +kernel
theorem dX11_lost_1 : decode cX11_lost 1 = .ok (.iconst 0, 1) := by decide +kernel
theorem dX11_lost_2 : decode cX11_lost 2 = .ok (.putfield 84, 3) := by decide +kernel
theorem dX11_lost_5 : decode cX11_lost 5 = .ok (.aload_n 0, 1) := by decide +kernel
theorem dX11_lost_6 : decode cX11_lost 6 = .ok (.iload_n 1, 1) := by decide +kernel
theorem dX11_lost_7 : decode cX11_lost 7 = .ok (.invokevirtual 327, 3) := by decide +kernel
theorem dX11_lost_10 : decode cX11_lost 10 = .ok (.ifCond .ne 5, 3) := by decide +kernel
theorem dX11_lost_13 : decode cX11_lost 13 = .ok (.iconst 0, 1) := by decide +kernel
theorem dX11_lost_14 : decode cX11_lost 14 = .ok (.ireturn, 1) := by decide +kernel
theorem dX11_lost_15 : decode cX11_lost 15 = .ok (.aload_n 0, 1) := by decide +kernel
theorem dX11_lost_16 : decode cX11_lost 16 = .ok (.iconst 0, 1) := by decide +kernel
theorem dX11_lost_17 : decode cX11_lost 17 = .ok (.iload_n 1, 1) := by decide +kernel
theorem dX11_lost_18 : decode cX11_lost 18 = .ok (.invokevirtual 311, 3) := by decide +kernel
theorem dX11_lost_21 : decode cX11_lost 21 = .ok (.istore_n 2, 1) := by decide +kernel
theorem dX11_lost_22 : decode cX11_lost 22 = .ok (.iload_n 2, 1) := by decide +kernel
theorem dX11_lost_23 : decode cX11_lost 23 = .ok (.iconst (-1), 1) := by decide +kernel
theorem dX11_lost_24 : decode cX11_lost 24 = .ok (.if_icmp .ne 14, 3) := by decide +kernel
theorem dX11_lost_27 : decode cX11_lost 27 = .ok (.aload_n 0, 1) := by decide +kernel
theorem dX11_lost_28 : decode cX11_lost 28 = .ok (.getfield 51, 3) := by decide +kernel
theorem dX11_lost_31 : decode cX11_lost 31 = .ok (.iconst 1, 1) := by decide +kernel
theorem dX11_lost_32 : decode cX11_lost 32 = .ok (.iload_n 1, 1) := by decide +kernel
theorem dX11_lost_33 : decode cX11_lost 33 = .ok (.iadd, 1) := by decide +kernel
theorem dX11_lost_34 : decode cX11_lost 34 = .ok (.iaload, 1) := by decide +kernel
theorem dX11_lost_35 : decode cX11_lost 35 = .ok (.goto 20, 3) := by decide +kernel
theorem dX11_lost_38 : decode cX11_lost 38 = .ok (.aload_n 0, 1) := by decide +kernel
theorem dX11_lost_39 : decode cX11_lost 39 = .ok (.getfield 51, 3) := by decide +kernel
theorem dX11_lost_42 : decode cX11_lost 42 = .ok (.iconst 1, 1) := by decide +kernel
theorem dX11_lost_43 : decode cX11_lost 43 = .ok (.iload_n 1, 1) := by decide +kernel
theorem dX11_lost_44 : decode cX11_lost 44 = .ok (.iadd, 1) := by decide +kernel
theorem dX11_lost_45 : decode cX11_lost 45 = .ok (.iaload, 1) := by decide +kernel
theorem dX11_lost_46 : decode cX11_lost 46 = .ok (.aload_n 0, 1) := by decide +kernel
theorem dX11_lost_47 : decode cX11_lost 47 = .ok (.iconst 0, 1) := by decide +kernel
theorem dX11_lost_48 : decode cX11_lost 48 = .ok (.iload_n 2, 1) := by decide +kernel
theorem dX11_lost_49 : decode cX11_lost 49 = .ok (.invokevirtual 290, 3) := by decide +kernel
theorem dX11_lost_52 : decode cX11_lost 52 = .ok (.iconst (-1), 1) := by decide +kernel
theorem dX11_lost_53 : decode cX11_lost 53 = .ok (.ixor, 1) := by decide +kernel
theorem dX11_lost_54 : decode cX11_lost 54 = .ok (.iand, 1) := by decide +kernel
theorem dX11_lost_55 : decode cX11_lost 55 = .ok (.ireturn, 1) := by decide +kernel
theorem dX11_mates_0 : decode cX11_mates 0 = .ok (.aload_n 0, 1) := by decide +kernel
theorem dX11_mates_1 : decode cX11_mates 1 = .ok (.iconst 0, 1) := by decide +kernel
theorem dX11_mates_2 : decode cX11_mates 2 = .ok (.putfield 84, 3) := by decide +kernel
theorem dX11_mates_5 : decode cX11_mates 5 = .ok (.aload_n 0, 1) := by decide +kernel
theorem dX11_mates_6 : decode cX11_mates 6 = .ok (.iload_n 1, 1) := by decide +kernel
theorem dX11_mates_7 : decode cX11_mates 7 = .ok (.invokevirtual 327, 3) := by decide +kernel
theorem dX11_mates_10 : decode cX11_mates 10 = .ok (.ifCond .ne 5, 3) := by decide +kernel
theorem dX11_mates_13 : decode cX11_mates 13 = .ok (.iconst 0, 1) := by decide +kernel
theorem dX11_mates_14 : decode cX11_mates 14 = .ok (.ireturn, 1) := by decide +kernel
theorem dX11_mates_15 : decode cX11_mates 15 = .ok (.aload_n 0, 1) := by decide +kernel
theorem dX11_mates_16 : decode cX11_mates 16 = .ok (.iconst 0, 1) := by decide +kernel
theorem dX11_mates_17 : decode cX11_mates 17 = .ok (.iload_n 1, 1) := by decide +kernel
theorem dX11_mates_18 : decode cX11_mates 18 = .ok (.invokevirtual 311, 3) := by decide +kernel
theorem dX11_mates_21 : decode cX11_mates 21 = .ok (.istore_n 2, 1) := by decide +kernel
theorem dX11_mates_22 : decode cX11_mates 22 = .ok (.iload_n 2, 1) := by decide +kernel
theorem dX11_mates_23 : decode cX11_mates 23 = .ok (.iconst (-1), 1) := by decide +kernel
theorem dX11_mates_24 : decode cX11_mates 24 = .ok (.if_icmp .ne 7, 3) := by decide +kernel
theorem dX11_mates_27 : decode cX11_mates 27 = .ok (.iconst 0, 1) := by decide +kernel
theorem dX11_mates_28 : decode cX11_mates 28 = .ok (.goto 18, 3) := by decide +kernel
theorem dX11_mates_31 : decode cX11_mates 31 = .ok (.aload_n 0, 1) := by decide +kernel
theorem dX11_mates_32 : decode cX11_mates 32 = .ok (.getfield 51, 3) := by decide +kernel
theorem dX11_mates_35 : decode cX11_mates 35 = .ok (.bipush 25, 2) := by decide +kernel
theorem dX11_mates_37 : decode cX11_mates 37 = .ok (.iload_n 2, 1) := by decide +kernel
theorem dX11_mates_38 : decode cX11_mates 38 = .ok (.iadd, 1) := by decide +kernel
theorem dX11_mates_39 : decode cX11_mates 39 = .ok (.iaload, 1) := by decide +kernel
theorem dX11_mates_40 : decode cX11_mates 40 = .ok (.iconst 1, 1) := by decide +kernel
theorem dX11_mates_41 : decode cX11_mates 41 = .ok (.iload_n 1, 1) := by decide +kernel
theorem dX11_mates_42 : decode cX11_mates 42 = .ok (.ishl, 1) := by decide +kernel
theorem dX11_mates_43 : decode cX11_mates 43 = .ok (.iconst (-1), 1) := by decide +kernel
theorem dX11_mates_44 : decode cX11_mates 44 = .ok (.ixor, 1) := by decide +kernel
theorem dX11_mates_45 : decode cX11_mates 45 = .ok (.iand, 1) := by decide +kernel
theorem dX11_mates_46 : decode cX11_mates 46 = .ok (.ireturn, 1) := by decide +kernel
theorem dX11_treadsOf_0 : decode cX11_treadsOf 0 = .ok (.iconst 0, 1) := by decide +kernel
theorem dX11_treadsOf_1 : decode cX11_treadsOf 1 = .ok (.istore_n 2, 1) := by decide +kernel
theorem dX11_treadsOf_2 : decode cX11_treadsOf 2 = .ok (.iconst 0, 1) := by decide +kernel
theorem dX11_treadsOf_3 : decode cX11_treadsOf 3 = .ok (.istore_n 3, 1) := by decide +kernel
theorem dX11_treadsOf_4 : decode cX11_treadsOf 4 = .ok (.iload_n 3, 1) := by decide +kernel
theorem dX11_treadsOf_5 : decode cX11_treadsOf 5 = .ok (.aload_n 0, 1) := by decide +kernel
theorem dX11_treadsOf_6 : decode cX11_treadsOf 6 = .ok (.getfield 251, 3) := by decide +kernel
theorem dX11_treadsOf_9 : decode cX11_treadsOf 9 = .ok (.if_icmp .ge 33, 3) := by decide +kernel
theorem dX11_treadsOf_12 : decode cX11_treadsOf 12 = .ok (.iload_n 2, 1) := by decide +kernel
theorem dX11_treadsOf_13 : decode cX11_treadsOf 13 = .ok (.iload_n 1, 1) := by decide +kernel
theorem dX11_treadsOf_14 : decode cX11_treadsOf 14 = .ok (.iload_n 3, 1) := by decide +kernel
theorem dX11_treadsOf_15 : decode cX11_treadsOf 15 = .ok (.ishr, 1) := by decide +kernel
theorem dX11_treadsOf_16 : decode cX11_treadsOf 16 = .ok (.iconst 1, 1) := by decide +kernel
theorem dX11_treadsOf_17 : decode cX11_treadsOf 17 = .ok (.iand, 1) := by decide +kernel
theorem dX11_treadsOf_18 : decode cX11_treadsOf 18 = .ok (.iconst 1, 1) := by decide +kernel
theorem dX11_treadsOf_19 : decode cX11_treadsOf 19 = .ok (.if_icmp .ne 14, 3) := by decide +kernel
theorem dX11_treadsOf_22 : decode cX11_treadsOf 22 = .ok (.aload_n 0, 1) := by decide +kernel
theorem dX11_treadsOf_23 : decode cX11_treadsOf 23 = .ok (.getfield 51, 3) := by decide +kernel
theorem dX11_treadsOf_26 : decode cX11_treadsOf 26 = .ok (.iconst 1, 1) := by decide +kernel
theorem dX11_treadsOf_27 : decode cX11_treadsOf 27 = .ok (.iload_n 3, 1) := by decide +kernel
theorem dX11_treadsOf_28 : decode cX11_treadsOf 28 = .ok (.iadd, 1) := by decide +kernel
theorem dX11_treadsOf_29 : decode cX11_treadsOf 29 = .ok (.iaload, 1) := by decide +kernel
theorem dX11_treadsOf_30 : decode cX11_treadsOf 30 = .ok (.goto 4, 3) := by decide +kernel
theorem dX11_treadsOf_33 : decode cX11_treadsOf 33 = .ok (.iconst 0, 1) := by decide +kernel
theorem dX11_treadsOf_34 : decode cX11_treadsOf 34 = .ok (.ior, 1) := by decide +kernel
theorem dX11_treadsOf_35 : decode cX11_treadsOf 35 = .ok (.istore_n 2, 1) := by decide +kernel
theorem dX11_treadsOf_36 : decode cX11_treadsOf 36 = .ok (.iinc 3 1, 3) := by decide +kernel
theorem dX11_treadsOf_39 : decode cX11_treadsOf 39 = .ok (.goto (-35), 3) := by decide +kernel
theorem dX11_treadsOf_42 : decode cX11_treadsOf 42 = .ok (.iload_n 2, 1) := by decide +kernel
theorem dX11_treadsOf_43 : decode cX11_treadsOf 43 = .ok (.ireturn, 1) := by decide +kernel
theorem dX11_step_0 : decode cX11_step 0 = .ok (.aload_n 0, 1) := by decide +kernel
theorem dX11_step_1 : decode cX11_step 1 = .ok (.iconst 0, 1) := by decide +kernel
theorem dX11_step_2 : decode cX11_step 2 = .ok (.putfield 84, 3) := by decide +kernel
theorem dX11_step_5 : decode cX11_step 5 = .ok (.iconst 1, 1) := by decide +kernel
theorem dX11_step_6 : decode cX11_step 6 = .ok (.aload_n 0, 1) := by decide +kernel
theorem dX11_step_7 : decode cX11_step 7 = .ok (.getfield 251, 3) := by decide +kernel
theorem dX11_step_10 : decode cX11_step 10 = .ok (.ishl, 1) := by decide +kernel
theorem dX11_step_11 : decode cX11_step 11 = .ok (.iconst 1, 1) := by decide +kernel
theorem dX11_step_12 : decode cX11_step 12 = .ok (.isub, 1) := by decide +kernel
theorem dX11_step_13 : decode cX11_step 13 = .ok (.istore_n 1, 1) := by decide +kernel
theorem dX11_step_14 : decode cX11_step 14 = .ok (.iload_n 1, 1) := by decide +kernel
theorem dX11_step_15 : decode cX11_step 15 = .ok (.istore_n 2, 1) := by decide +kernel
theorem dX11_step_16 : decode cX11_step 16 = .ok (.iload_n 1, 1) := by decide +kernel
theorem dX11_step_17 : decode cX11_step 17 = .ok (.istore_n 3, 1) := by decide +kernel
theorem dX11_step_18 : decode cX11_step 18 = .ok (.iload_n 3, 1) := by decide +kernel
theorem dX11_step_19 : decode cX11_step 19 = .ok (.ifCond .lt 35, 3) := by decide +kernel
theorem dX11_step_22 : decode cX11_step 22 = .ok (.aload_n 0, 1) := by decide +kernel
theorem dX11_step_23 : decode cX11_step 23 = .ok (.iload_n 3, 1) := by decide +kernel
theorem dX11_step_24 : decode cX11_step 24 = .ok (.invokevirtual 398, 3) := by decide +kernel
theorem dX11_step_27 : decode cX11_step 27 = .ok (.aload_n 0, 1) := by decide +kernel
theorem dX11_step_28 : decode cX11_step 28 = .ok (.iload_n 1, 1) := by decide +kernel
theorem dX11_step_29 : decode cX11_step 29 = .ok (.invokevirtual 398, 3) := by decide +kernel
theorem dX11_step_32 : decode cX11_step 32 = .ok (.if_icmp .ne 16, 3) := by decide +kernel
theorem dX11_step_35 : decode cX11_step 35 = .ok (.iload_n 3, 1) := by decide +kernel
theorem dX11_step_36 : decode cX11_step 36 = .ok (.invokestatic 284, 3) := by decide +kernel
theorem dX11_step_39 : decode cX11_step 39 = .ok (.iload_n 2, 1) := by decide +kernel
theorem dX11_step_40 : decode cX11_step 40 = .ok (.invokestatic 284, 3) := by decide +kernel
theorem dX11_step_43 : decode cX11_step 43 = .ok (.if_icmp .gt 5, 3) := by decide +kernel
theorem dX11_step_46 : decode cX11_step 46 = .ok (.iload_n 3, 1) := by decide +kernel
theorem dX11_step_47 : decode cX11_step 47 = .ok (.istore_n 2, 1) := by decide +kernel
theorem dX11_step_48 : decode cX11_step 48 = .ok (.iinc 3 (-1), 3) := by decide +kernel
theorem dX11_step_51 : decode cX11_step 51 = .ok (.goto (-33), 3) := by decide +kernel
theorem dX11_step_54 : decode cX11_step 54 = .ok (.iload_n 2, 1) := by decide +kernel
theorem dX11_step_55 : decode cX11_step 55 = .ok (.ireturn, 1) := by decide +kernel
theorem dX11_chain_0 : decode cX11_chain 0 = .ok (.aload_n 0, 1) := by decide +kernel
theorem dX11_chain_1 : decode cX11_chain 1 = .ok (.iconst 0, 1) := by decide +kernel
theorem dX11_chain_2 : decode cX11_chain 2 = .ok (.putfield 84, 3) := by decide +kernel
theorem dX11_chain_5 : decode cX11_chain 5 = .ok (.aload_n 0, 1) := by decide +kernel
theorem dX11_chain_6 : decode cX11_chain 6 = .ok (.iload_n 1, 1) := by decide +kernel
theorem dX11_chain_7 : decode cX11_chain 7 = .ok (.invokevirtual 327, 3) := by decide +kernel
theorem dX11_chain_10 : decode cX11_chain 10 = .ok (.ifCond .eq 26, 3) := by decide +kernel
theorem dX11_chain_13 : decode cX11_chain 13 = .ok (.aload_n 0, 1) := by decide +kernel
theorem dX11_chain_14 : decode cX11_chain 14 = .ok (.iload_n 2, 1) := by decide +kernel
theorem dX11_chain_15 : decode cX11_chain 15 = .ok (.invokevirtual 327, 3) := by decide +kernel
theorem dX11_chain_18 : decode cX11_chain 18 = .ok (.ifCond .eq 18, 3) := by decide +kernel
theorem dX11_chain_21 : decode cX11_chain 21 = .ok (.aload_n 0, 1) := by decide +kernel
theorem dX11_chain_22 : decode cX11_chain 22 = .ok (.iload_n 3, 1) := by decide +kernel
theorem dX11_chain_23 : decode cX11_chain 23 = .ok (.iconst 1, 1) := by decide +kernel
theorem dX11_chain_24 : decode cX11_chain 24 = .ok (.bipush 12, 2) := by decide +kernel
theorem dX11_chain_26 : decode cX11_chain 26 = .ok (.invokestatic 314, 3) := by decide +kernel
theorem dX11_chain_29 : decode cX11_chain 29 = .ok (.iconst 2, 1) := by decide +kernel
theorem dX11_chain_30 : decode cX11_chain 30 = .ok (.invokevirtual 244, 3) := by decide +kernel
theorem dX11_chain_33 : decode cX11_chain 33 = .ok (.ifCond .ne 5, 3) := by decide +kernel
theorem dX11_chain_36 : decode cX11_chain 36 = .ok (.iconst 0, 1) := by decide +kernel
theorem dX11_chain_37 : decode cX11_chain 37 = .ok (.ireturn, 1) := by decide +kernel
theorem dX11_chain_38 : decode cX11_chain 38 = .ok (.iconst 1, 1) := by decide +kernel
theorem dX11_chain_39 : decode cX11_chain 39 = .ok (.iload_n 1, 1) := by decide +kernel
theorem dX11_chain_40 : decode cX11_chain 40 = .ok (.ishl, 1) := by decide +kernel
theorem dX11_chain_41 : decode cX11_chain 41 = .ok (.istore 4, 2) := by decide +kernel
theorem dX11_chain_43 : decode cX11_chain 43 = .ok (.iconst 0, 1) := by decide +kernel
theorem dX11_chain_44 : decode cX11_chain 44 = .ok (.istore 5, 2) := by decide +kernel
theorem dX11_chain_46 : decode cX11_chain 46 = .ok (.iload 5, 2) := by decide +kernel
theorem dX11_chain_48 : decode cX11_chain 48 = .ok (.bipush 8, 2) := by decide +kernel
theorem dX11_chain_50 : decode cX11_chain 50 = .ok (.if_icmp .ge 102, 3) := by decide +kernel
theorem dX11_chain_53 : decode cX11_chain 53 = .ok (.iload 4, 2) := by decide +kernel
theorem dX11_chain_55 : decode cX11_chain 55 = .ok (.iload_n 2, 1) := by decide +kernel
theorem dX11_chain_56 : decode cX11_chain 56 = .ok (.ishr, 1) := by decide +kernel
theorem dX11_chain_57 : decode cX11_chain 57 = .ok (.iconst 1, 1) := by decide +kernel
theorem dX11_chain_58 : decode cX11_chain 58 = .ok (.iand, 1) := by decide +kernel
theorem dX11_chain_59 : decode cX11_chain 59 = .ok (.iconst 1, 1) := by decide +kernel
theorem dX11_chain_60 : decode cX11_chain 60 = .ok (.if_icmp .ne 6, 3) := by decide +kernel
theorem dX11_chain_63 : decode cX11_chain 63 = .ok (.iload 5, 2) := by decide +kernel
theorem dX11_chain_65 : decode cX11_chain 65 = .ok (.ireturn, 1) := by decide +kernel
theorem dX11_chain_66 : decode cX11_chain 66 = .ok (.iload 4, 2) := by decide +kernel
theorem dX11_chain_68 : decode cX11_chain 68 = .ok (.istore 6, 2) := by decide +kernel
theorem dX11_chain_70 : decode cX11_chain 70 = .ok (.iconst 0, 1) := by decide +kernel
theorem dX11_chain_71 : decode cX11_chain 71 = .ok (.istore 7, 2) := by decide +kernel
theorem dX11_chain_73 : decode cX11_chain 73 = .ok (.iload 7, 2) := by decide +kernel
theorem dX11_chain_75 : decode cX11_chain 75 = .ok (.aload_n 0, 1) := by decide +kernel
theorem dX11_chain_76 : decode cX11_chain 76 = .ok (.getfield 251, 3) := by decide +kernel
theorem dX11_chain_79 : decode cX11_chain 79 = .ok (.if_icmp .ge 63, 3) := by decide +kernel
theorem dX11_chain_82 : decode cX11_chain 82 = .ok (.iconst 0, 1) := by decide +kernel
theorem dX11_chain_83 : decode cX11_chain 83 = .ok (.istore 8, 2) := by decide +kernel
theorem dX11_chain_85 : decode cX11_chain 85 = .ok (.iload 8, 2) := by decide +kernel
theorem dX11_chain_87 : decode cX11_chain 87 = .ok (.aload_n 0, 1) := by decide +kernel
theorem dX11_chain_88 : decode cX11_chain 88 = .ok (.getfield 251, 3) := by decide +kernel
theorem dX11_chain_91 : decode cX11_chain 91 = .ok (.if_icmp .ge 45, 3) := by decide +kernel
theorem dX11_chain_94 : decode cX11_chain 94 = .ok (.iload 6, 2) := by decide +kernel
theorem dX11_chain_96 : decode cX11_chain 96 = .ok (.iload 4, 2) := by decide +kernel
theorem dX11_chain_98 : decode cX11_chain 98 = .ok (.iload 7, 2) := by decide +kernel
theorem dX11_chain_100 : decode cX11_chain 100 = .ok (.ishr, 1) := by decide +kernel
theorem dX11_chain_101 : decode cX11_chain 101 = .ok (.iconst 1, 1) := by decide +kernel
theorem dX11_chain_102 : decode cX11_chain 102 = .ok (.iand, 1) := by decide +kernel
theorem dX11_chain_103 : decode cX11_chain 103 = .ok (.iconst 1, 1) := by decide +kernel
theorem dX11_chain_104 : decode cX11_chain 104 = .ok (.if_icmp .ne 22, 3) := by decide +kernel
theorem dX11_chain_107 : decode cX11_chain 107 = .ok (.aload_n 0, 1) := by decide +kernel
theorem dX11_chain_108 : decode cX11_chain 108 = .ok (.iload 7, 2) := by decide +kernel
theorem dX11_chain_110 : decode cX11_chain 110 = .ok (.iload 8, 2) := by decide +kernel
theorem dX11_chain_112 : decode cX11_chain 112 = .ok (.invokevirtual 359, 3) := by decide +kernel
theorem dX11_chain_115 : decode cX11_chain 115 = .ok (.iload_n 3, 1) := by decide +kernel
theorem dX11_chain_116 : decode cX11_chain 116 = .ok (.if_icmp .gt 10, 3) := by decide +kernel
theorem dX11_chain_119 : decode cX11_chain 119 = .ok (.iconst 1, 1) := by decide +kernel
theorem dX11_chain_120 : decode cX11_chain 120 = .ok (.iload 8, 2) := by decide +kernel
theorem dX11_chain_122 : decode cX11_chain 122 = .ok (.ishl, 1) := by decide +kernel
theorem dX11_chain_123 : decode cX11_chain 123 = .ok (.goto 4, 3) := by decide +kernel
theorem dX11_chain_126 : decode cX11_chain 126 = .ok (.iconst 0, 1) := by decide +kernel
theorem dX11_chain_127 : decode cX11_chain 127 = .ok (.ior, 1) := by decide +kernel
theorem dX11_chain_128 : decode cX11_chain 128 = .ok (.istore 6, 2) := by decide +kernel
theorem dX11_chain_130 : decode cX11_chain 130 = .ok (.iinc 8 1, 3) := by decide +kernel
theorem dX11_chain_133 : decode cX11_chain 133 = .ok (.goto (-48), 3) := by decide +kernel
theorem dX11_chain_136 : decode cX11_chain 136 = .ok (.iinc 7 1, 3) := by decide +kernel
theorem dX11_chain_139 : decode cX11_chain 139 = .ok (.goto (-66), 3) := by decide +kernel
theorem dX11_chain_142 : decode cX11_chain 142 = .ok (.iload 6, 2) := by decide +kernel
theorem dX11_chain_144 : decode cX11_chain 144 = .ok (.istore 4, 2) := by decide +kernel
theorem dX11_chain_146 : decode cX11_chain 146 = .ok (.iinc 5 1, 3) := by decide +kernel
theorem dX11_chain_149 : decode cX11_chain 149 = .ok (.goto (-103), 3) := by decide +kernel
theorem dX11_chain_152 : decode cX11_chain 152 = .ok (.iconst (-1), 1) := by decide +kernel
theorem dX11_chain_153 : decode cX11_chain 153 = .ok (.ireturn, 1) := by decide +kernel
theorem dX11_most_0 : decode cX11_most 0 = .ok (.aload_n 0, 1) := by decide +kernel
theorem dX11_most_1 : decode cX11_most 1 = .ok (.iconst 0, 1) := by decide +kernel
theorem dX11_most_2 : decode cX11_most 2 = .ok (.putfield 84, 3) := by decide +kernel
theorem dX11_most_5 : decode cX11_most 5 = .ok (.aload_n 0, 1) := by decide +kernel
theorem dX11_most_6 : decode cX11_most 6 = .ok (.iload_n 1, 1) := by decide +kernel
theorem dX11_most_7 : decode cX11_most 7 = .ok (.iconst 1, 1) := by decide +kernel
theorem dX11_most_8 : decode cX11_most 8 = .ok (.iconst 1, 1) := by decide +kernel
theorem dX11_most_9 : decode cX11_most 9 = .ok (.invokevirtual 353, 3) := by decide +kernel
theorem dX11_most_12 : decode cX11_most 12 = .ok (.ifCond .ne 5, 3) := by decide +kernel
theorem dX11_most_15 : decode cX11_most 15 = .ok (.iconst 0, 1) := by decide +kernel
theorem dX11_most_16 : decode cX11_most 16 = .ok (.ireturn, 1) := by decide +kernel
theorem dX11_most_17 : decode cX11_most 17 = .ok (.aload_n 0, 1) := by decide +kernel
theorem dX11_most_18 : decode cX11_most 18 = .ok (.iload_n 1, 1) := by decide +kernel
theorem dX11_most_19 : decode cX11_most 19 = .ok (.invokevirtual 356, 3) := by decide +kernel
theorem dX11_most_22 : decode cX11_most 22 = .ok (.iconst (-1), 1) := by decide +kernel
theorem dX11_most_23 : decode cX11_most 23 = .ok (.istore_n 2, 1) := by decide +kernel
theorem dX11_most_24 : decode cX11_most 24 = .ok (.iconst 0, 1) := by decide +kernel
theorem dX11_most_25 : decode cX11_most 25 = .ok (.istore_n 3, 1) := by decide +kernel
theorem dX11_most_26 : decode cX11_most 26 = .ok (.iload_n 3, 1) := by decide +kernel
theorem dX11_most_27 : decode cX11_most 27 = .ok (.aload_n 0, 1) := by decide +kernel
theorem dX11_most_28 : decode cX11_most 28 = .ok (.getfield 251, 3) := by decide +kernel
theorem dX11_most_31 : decode cX11_most 31 = .ok (.if_icmp .ge 37, 3) := by decide +kernel
theorem dX11_most_34 : decode cX11_most 34 = .ok (.iload_n 2, 1) := by decide +kernel
theorem dX11_most_35 : decode cX11_most 35 = .ok (.iconst (-1), 1) := by decide +kernel
theorem dX11_most_36 : decode cX11_most 36 = .ok (.if_icmp .eq 24, 3) := by decide +kernel
theorem dX11_most_39 : decode cX11_most 39 = .ok (.aload_n 0, 1) := by decide +kernel
theorem dX11_most_40 : decode cX11_most 40 = .ok (.getfield 51, 3) := by decide +kernel
theorem dX11_most_43 : decode cX11_most 43 = .ok (.bipush 50, 2) := by decide +kernel
theorem dX11_most_45 : decode cX11_most 45 = .ok (.iload_n 3, 1) := by decide +kernel
theorem dX11_most_46 : decode cX11_most 46 = .ok (.iadd, 1) := by decide +kernel
theorem dX11_most_47 : decode cX11_most 47 = .ok (.iaload, 1) := by decide +kernel
theorem dX11_most_48 : decode cX11_most 48 = .ok (.aload_n 0, 1) := by decide +kernel
theorem dX11_most_49 : decode cX11_most 49 = .ok (.getfield 51, 3) := by decide +kernel
theorem dX11_most_52 : decode cX11_most 52 = .ok (.bipush 50, 2) := by decide +kernel
theorem dX11_most_54 : decode cX11_most 54 = .ok (.iload_n 2, 1) := by decide +kernel
theorem dX11_most_55 : decode cX11_most 55 = .ok (.iadd, 1) := by decide +kernel
theorem dX11_most_56 : decode cX11_most 56 = .ok (.iaload, 1) := by decide +kernel
theorem dX11_most_57 : decode cX11_most 57 = .ok (.if_icmp .le 5, 3) := by decide +kernel
theorem dX11_most_60 : decode cX11_most 60 = .ok (.iload_n 3, 1) := by decide +kernel
theorem dX11_most_61 : decode cX11_most 61 = .ok (.istore_n 2, 1) := by decide +kernel
theorem dX11_most_62 : decode cX11_most 62 = .ok (.iinc 3 1, 3) := by decide +kernel
theorem dX11_most_65 : decode cX11_most 65 = .ok (.goto (-39), 3) := by decide +kernel
theorem dX11_most_68 : decode cX11_most 68 = .ok (.iload_n 2, 1) := by decide +kernel
theorem dX11_most_69 : decode cX11_most 69 = .ok (.ireturn, 1) := by decide +kernel
theorem dX11_often_0 : decode cX11_often 0 = .ok (.aload_n 0, 1) := by decide +kernel
theorem dX11_often_1 : decode cX11_often 1 = .ok (.iconst 0, 1) := by decide +kernel
theorem dX11_often_2 : decode cX11_often 2 = .ok (.putfield 84, 3) := by decide +kernel
theorem dX11_often_5 : decode cX11_often 5 = .ok (.aload_n 0, 1) := by decide +kernel
theorem dX11_often_6 : decode cX11_often 6 = .ok (.iload_n 2, 1) := by decide +kernel
theorem dX11_often_7 : decode cX11_often 7 = .ok (.iconst 1, 1) := by decide +kernel
theorem dX11_often_8 : decode cX11_often 8 = .ok (.invokevirtual 330, 3) := by decide +kernel
theorem dX11_often_11 : decode cX11_often 11 = .ok (.ifCond .eq 13, 3) := by decide +kernel
theorem dX11_often_14 : decode cX11_often 14 = .ok (.aload_n 0, 1) := by decide +kernel
theorem dX11_often_15 : decode cX11_often 15 = .ok (.iload_n 1, 1) := by decide +kernel
theorem dX11_often_16 : decode cX11_often 16 = .ok (.iconst 1, 1) := by decide +kernel
theorem dX11_often_17 : decode cX11_often 17 = .ok (.iconst 2, 1) := by decide +kernel
theorem dX11_often_18 : decode cX11_often 18 = .ok (.invokevirtual 353, 3) := by decide +kernel
theorem dX11_often_21 : decode cX11_often 21 = .ok (.ifCond .ne 5, 3) := by decide +kernel
theorem dX11_often_24 : decode cX11_often 24 = .ok (.iconst 0, 1) := by decide +kernel
theorem dX11_often_25 : decode cX11_often 25 = .ok (.ireturn, 1) := by decide +kernel
theorem dX11_often_26 : decode cX11_often 26 = .ok (.aload_n 0, 1) := by decide +kernel
theorem dX11_often_27 : decode cX11_often 27 = .ok (.invokevirtual 347, 3) := by decide +kernel
theorem dX11_often_30 : decode cX11_often 30 = .ok (.iconst 0, 1) := by decide +kernel
theorem dX11_often_31 : decode cX11_often 31 = .ok (.istore_n 3, 1) := by decide +kernel
theorem dX11_often_32 : decode cX11_often 32 = .ok (.iconst 0, 1) := by decide +kernel
theorem dX11_often_33 : decode cX11_often 33 = .ok (.istore 4, 2) := by decide +kernel
theorem dX11_often_35 : decode cX11_often 35 = .ok (.iload 4, 2) := by decide +kernel
theorem dX11_often_37 : decode cX11_often 37 = .ok (.iload_n 1, 1) := by decide +kernel
theorem dX11_often_38 : decode cX11_often 38 = .ok (.if_icmp .ge 94, 3) := by decide +kernel
theorem dX11_often_41 : decode cX11_often 41 = .ok (.iconst 0, 1) := by decide +kernel
theorem dX11_often_42 : decode cX11_often 42 = .ok (.istore 5, 2) := by decide +kernel
theorem dX11_often_44 : decode cX11_often 44 = .ok (.iload 5, 2) := by decide +kernel
theorem dX11_often_46 : decode cX11_often 46 = .ok (.aload_n 0, 1) := by decide +kernel
theorem dX11_often_47 : decode cX11_often 47 = .ok (.getfield 254, 3) := by decide +kernel
theorem dX11_often_50 : decode cX11_often 50 = .ok (.if_icmp .ge 70, 3) := by decide +kernel
theorem dX11_often_53 : decode cX11_often 53 = .ok (.aload_n 0, 1) := by decide +kernel
theorem dX11_often_54 : decode cX11_often 54 = .ok (.bipush 33, 2) := by decide +kernel
theorem dX11_often_56 : decode cX11_often 56 = .ok (.iload 5, 2) := by decide +kernel
theorem dX11_often_58 : decode cX11_often 58 = .ok (.invokevirtual 302, 3) := by decide +kernel
theorem dX11_often_61 : decode cX11_often 61 = .ok (.istore 6, 2) := by decide +kernel
theorem dX11_often_63 : decode cX11_often 63 = .ok (.iload_n 3, 1) := by decide +kernel
theorem dX11_often_64 : decode cX11_often 64 = .ok (.iload_n 2, 1) := by decide +kernel
theorem dX11_often_65 : decode cX11_often 65 = .ok (.ifCond .ne 17, 3) := by decide +kernel
theorem dX11_often_68 : decode cX11_often 68 = .ok (.iload 6, 2) := by decide +kernel
theorem dX11_often_70 : decode cX11_often 70 = .ok (.iconst (-1), 1) := by decide +kernel
theorem dX11_often_71 : decode cX11_often 71 = .ok (.if_icmp .ne 7, 3) := by decide +kernel
theorem dX11_often_74 : decode cX11_often 74 = .ok (.iconst 1, 1) := by decide +kernel
theorem dX11_often_75 : decode cX11_often 75 = .ok (.goto 37, 3) := by decide +kernel
theorem dX11_often_78 : decode cX11_often 78 = .ok (.iconst 0, 1) := by decide +kernel
theorem dX11_often_79 : decode cX11_often 79 = .ok (.goto 33, 3) := by decide +kernel
theorem dX11_often_82 : decode cX11_often 82 = .ok (.iload 6, 2) := by decide +kernel
theorem dX11_often_84 : decode cX11_often 84 = .ok (.iconst (-1), 1) := by decide +kernel
theorem dX11_often_85 : decode cX11_often 85 = .ok (.if_icmp .eq 26, 3) := by decide +kernel
theorem dX11_often_88 : decode cX11_often 88 = .ok (.aload_n 0, 1) := by decide +kernel
theorem dX11_often_89 : decode cX11_often 89 = .ok (.getfield 51, 3) := by decide +kernel
theorem dX11_often_92 : decode cX11_often 92 = .ok (.bipush 58, 2) := by decide +kernel
theorem dX11_often_94 : decode cX11_often 94 = .ok (.iload 5, 2) := by decide +kernel
theorem dX11_often_96 : decode cX11_often 96 = .ok (.iadd, 1) := by decide +kernel
theorem dX11_often_97 : decode cX11_often 97 = .ok (.iaload, 1) := by decide +kernel
theorem dX11_often_98 : decode cX11_often 98 = .ok (.iload 6, 2) := by decide +kernel
theorem dX11_often_100 : decode cX11_often 100 = .ok (.ishr, 1) := by decide +kernel
theorem dX11_often_101 : decode cX11_often 101 = .ok (.iconst 1, 1) := by decide +kernel
theorem dX11_often_102 : decode cX11_often 102 = .ok (.iand, 1) := by decide +kernel
theorem dX11_often_103 : decode cX11_often 103 = .ok (.iconst 1, 1) := by decide +kernel
theorem dX11_often_104 : decode cX11_often 104 = .ok (.if_icmp .ne 7, 3) := by decide +kernel
theorem dX11_often_107 : decode cX11_often 107 = .ok (.iconst 1, 1) := by decide +kernel
theorem dX11_often_108 : decode cX11_often 108 = .ok (.goto 4, 3) := by decide +kernel
theorem dX11_often_111 : decode cX11_often 111 = .ok (.iconst 0, 1) := by decide +kernel
theorem dX11_often_112 : decode cX11_often 112 = .ok (.iadd, 1) := by decide +kernel
theorem dX11_often_113 : decode cX11_often 113 = .ok (.istore_n 3, 1) := by decide +kernel
theorem dX11_often_114 : decode cX11_often 114 = .ok (.iinc 5 1, 3) := by decide +kernel
theorem dX11_often_117 : decode cX11_often 117 = .ok (.goto (-73), 3) := by decide +kernel
theorem dX11_often_120 : decode cX11_often 120 = .ok (.aload_n 0, 1) := by decide +kernel
theorem dX11_often_121 : decode cX11_often 121 = .ok (.bipush 33, 2) := by decide +kernel
theorem dX11_often_123 : decode cX11_often 123 = .ok (.invokevirtual 308, 3) := by decide +kernel
theorem dX11_often_126 : decode cX11_often 126 = .ok (.iinc 4 1, 3) := by decide +kernel
theorem dX11_often_129 : decode cX11_often 129 = .ok (.goto (-94), 3) := by decide +kernel
theorem dX11_often_132 : decode cX11_often 132 = .ok (.iload_n 3, 1) := by decide +kernel
theorem dX11_often_133 : decode cX11_often 133 = .ok (.ireturn, 1) := by decide +kernel
theorem dX11_spoilt_0 : decode cX11_spoilt 0 = .ok (.aload_n 0, 1) := by decide +kernel
theorem dX11_spoilt_1 : decode cX11_spoilt 1 = .ok (.iconst 0, 1) := by decide +kernel
theorem dX11_spoilt_2 : decode cX11_spoilt 2 = .ok (.putfield 84, 3) := by decide +kernel
theorem dX11_spoilt_5 : decode cX11_spoilt 5 = .ok (.aload_n 0, 1) := by decide +kernel
theorem dX11_spoilt_6 : decode cX11_spoilt 6 = .ok (.iload_n 1, 1) := by decide +kernel
theorem dX11_spoilt_7 : decode cX11_spoilt 7 = .ok (.invokevirtual 327, 3) := by decide +kernel
theorem dX11_spoilt_10 : decode cX11_spoilt 10 = .ok (.ifCond .ne 5, 3) := by decide +kernel
theorem dX11_spoilt_13 : decode cX11_spoilt 13 = .ok (.iconst 0, 1) := by decide +kernel
theorem dX11_spoilt_14 : decode cX11_spoilt 14 = .ok (.ireturn, 1) := by decide +kernel
theorem dX11_spoilt_15 : decode cX11_spoilt 15 = .ok (.aload_n 0, 1) := by decide +kernel
theorem dX11_spoilt_16 : decode cX11_spoilt 16 = .ok (.invokevirtual 347, 3) := by decide +kernel
theorem dX11_spoilt_19 : decode cX11_spoilt 19 = .ok (.aload_n 0, 1) := by decide +kernel
theorem dX11_spoilt_20 : decode cX11_spoilt 20 = .ok (.invokevirtual 372, 3) := by decide +kernel
theorem dX11_spoilt_23 : decode cX11_spoilt 23 = .ok (.istore_n 2, 1) := by decide +kernel
theorem dX11_spoilt_24 : decode cX11_spoilt 24 = .ok (.aload_n 0, 1) := by decide +kernel
theorem dX11_spoilt_25 : decode cX11_spoilt 25 = .ok (.bipush 33, 2) := by decide +kernel
theorem dX11_spoilt_27 : decode cX11_spoilt 27 = .ok (.iload_n 1, 1) := by decide +kernel
theorem dX11_spoilt_28 : decode cX11_spoilt 28 = .ok (.iconst (-1), 1) := by decide +kernel
theorem dX11_spoilt_29 : decode cX11_spoilt 29 = .ok (.invokevirtual 343, 3) := by decide +kernel
theorem dX11_spoilt_32 : decode cX11_spoilt 32 = .ok (.aload_n 0, 1) := by decide +kernel
theorem dX11_spoilt_33 : decode cX11_spoilt 33 = .ok (.invokevirtual 372, 3) := by decide +kernel
theorem dX11_spoilt_36 : decode cX11_spoilt 36 = .ok (.iload_n 2, 1) := by decide +kernel
theorem dX11_spoilt_37 : decode cX11_spoilt 37 = .ok (.isub, 1) := by decide +kernel
theorem dX11_spoilt_38 : decode cX11_spoilt 38 = .ok (.ireturn, 1) := by decide +kernel
theorem dX11_reform_0 : decode cX11_reform 0 = .ok (.aload_n 0, 1) := by decide +kernel
theorem dX11_reform_1 : decode cX11_reform 1 = .ok (.iconst 0, 1) := by decide +kernel
theorem dX11_reform_2 : decode cX11_reform 2 = .ok (.putfield 84, 3) := by decide +kernel
theorem dX11_reform_5 : decode cX11_reform 5 = .ok (.aload_n 0, 1) := by decide +kernel
theorem dX11_reform_6 : decode cX11_reform 6 = .ok (.iload_n 1, 1) := by decide +kernel
theorem dX11_reform_7 : decode cX11_reform 7 = .ok (.invokevirtual 327, 3) := by decide +kernel
theorem dX11_reform_10 : decode cX11_reform 10 = .ok (.ifCond .eq 12, 3) := by decide +kernel
theorem dX11_reform_13 : decode cX11_reform 13 = .ok (.aload_n 0, 1) := by decide +kernel
theorem dX11_reform_14 : decode cX11_reform 14 = .ok (.iload_n 2, 1) := by decide +kernel
theorem dX11_reform_15 : decode cX11_reform 15 = .ok (.iconst 1, 1) := by decide +kernel
theorem dX11_reform_16 : decode cX11_reform 16 = .ok (.invokevirtual 330, 3) := by decide +kernel
theorem dX11_reform_19 : decode cX11_reform 19 = .ok (.ifCond .ne 5, 3) := by decide +kernel
theorem dX11_reform_22 : decode cX11_reform 22 = .ok (.iconst 0, 1) := by decide +kernel
theorem dX11_reform_23 : decode cX11_reform 23 = .ok (.ireturn, 1) := by decide +kernel
theorem dX11_reform_24 : decode cX11_reform 24 = .ok (.aload_n 0, 1) := by decide +kernel
theorem dX11_reform_25 : decode cX11_reform 25 = .ok (.iconst 0, 1) := by decide +kernel
theorem dX11_reform_26 : decode cX11_reform 26 = .ok (.iload_n 1, 1) := by decide +kernel
theorem dX11_reform_27 : decode cX11_reform 27 = .ok (.invokevirtual 311, 3) := by decide +kernel
theorem dX11_reform_30 : decode cX11_reform 30 = .ok (.istore_n 3, 1) := by decide +kernel
theorem dX11_reform_31 : decode cX11_reform 31 = .ok (.iconst (-1), 1) := by decide +kernel
theorem dX11_reform_32 : decode cX11_reform 32 = .ok (.istore 4, 2) := by decide +kernel
theorem dX11_reform_34 : decode cX11_reform 34 = .ok (.ldc_w 362, 3) := by decide +kernel
theorem dX11_reform_37 : decode cX11_reform 37 = .ok (.istore 5, 2) := by decide +kernel
theorem dX11_reform_39 : decode cX11_reform 39 = .ok (.aload_n 0, 1) := by decide +kernel
theorem dX11_reform_40 : decode cX11_reform 40 = .ok (.invokevirtual 347, 3) := by decide +kernel
theorem dX11_reform_43 : decode cX11_reform 43 = .ok (.iconst 0, 1) := by decide +kernel
theorem dX11_reform_44 : decode cX11_reform 44 = .ok (.istore 6, 2) := by decide +kernel
theorem dX11_reform_46 : decode cX11_reform 46 = .ok (.iload 6, 2) := by decide +kernel
theorem dX11_reform_48 : decode cX11_reform 48 = .ok (.iconst 1, 1) := by decide +kernel
theorem dX11_reform_49 : decode cX11_reform 49 = .ok (.aload_n 0, 1) := by decide +kernel
theorem dX11_reform_50 : decode cX11_reform 50 = .ok (.getfield 7, 3) := by decide +kernel
theorem dX11_reform_53 : decode cX11_reform 53 = .ok (.ishl, 1) := by decide +kernel
theorem dX11_reform_54 : decode cX11_reform 54 = .ok (.if_icmp .ge 73, 3) := by decide +kernel
theorem dX11_reform_57 : decode cX11_reform 57 = .ok (.iload_n 3, 1) := by decide +kernel
theorem dX11_reform_58 : decode cX11_reform 58 = .ok (.iconst (-1), 1) := by decide +kernel
theorem dX11_reform_59 : decode cX11_reform 59 = .ok (.if_icmp .eq 68, 3) := by decide +kernel
theorem dX11_reform_62 : decode cX11_reform 62 = .ok (.iload 6, 2) := by decide +kernel
theorem dX11_reform_64 : decode cX11_reform 64 = .ok (.aload_n 0, 1) := by decide +kernel
theorem dX11_reform_65 : decode cX11_reform 65 = .ok (.getfield 51, 3) := by decide +kernel
theorem dX11_reform_68 : decode cX11_reform 68 = .ok (.iconst 1, 1) := by decide +kernel
theorem dX11_reform_69 : decode cX11_reform 69 = .ok (.iload_n 1, 1) := by decide +kernel
theorem dX11_reform_70 : decode cX11_reform 70 = .ok (.iadd, 1) := by decide +kernel
theorem dX11_reform_71 : decode cX11_reform 71 = .ok (.iaload, 1) := by decide +kernel
theorem dX11_reform_72 : decode cX11_reform 72 = .ok (.ixor, 1) := by decide +kernel
theorem dX11_reform_73 : decode cX11_reform 73 = .ok (.invokestatic 284, 3) := by decide +kernel
theorem dX11_reform_76 : decode cX11_reform 76 = .ok (.istore 7, 2) := by decide +kernel
theorem dX11_reform_78 : decode cX11_reform 78 = .ok (.iload 7, 2) := by decide +kernel
theorem dX11_reform_80 : decode cX11_reform 80 = .ok (.iload 5, 2) := by decide +kernel
theorem dX11_reform_82 : decode cX11_reform 82 = .ok (.if_icmp .lt 6, 3) := by decide +kernel
theorem dX11_reform_85 : decode cX11_reform 85 = .ok (.goto 36, 3) := by decide +kernel
theorem dX11_reform_88 : decode cX11_reform 88 = .ok (.aload_n 0, 1) := by decide +kernel
theorem dX11_reform_89 : decode cX11_reform 89 = .ok (.getfield 51, 3) := by decide +kernel
theorem dX11_reform_92 : decode cX11_reform 92 = .ok (.bipush 34, 2) := by decide +kernel
theorem dX11_reform_94 : decode cX11_reform 94 = .ok (.iload_n 1, 1) := by decide +kernel
theorem dX11_reform_95 : decode cX11_reform 95 = .ok (.iadd, 1) := by decide +kernel
theorem dX11_reform_96 : decode cX11_reform 96 = .ok (.iload 6, 2) := by decide +kernel
theorem dX11_reform_98 : decode cX11_reform 98 = .ok (.iastore, 1) := by decide +kernel
theorem dX11_reform_99 : decode cX11_reform 99 = .ok (.aload_n 0, 1) := by decide +kernel
theorem dX11_reform_100 : decode cX11_reform 100 = .ok (.bipush 33, 2) := by decide +kernel
theorem dX11_reform_102 : decode cX11_reform 102 = .ok (.iload_n 3, 1) := by decide +kernel
theorem dX11_reform_103 : decode cX11_reform 103 = .ok (.invokevirtual 302, 3) := by decide +kernel
theorem dX11_reform_106 : decode cX11_reform 106 = .ok (.iload_n 1, 1) := by decide +kernel
theorem dX11_reform_107 : decode cX11_reform 107 = .ok (.if_icmp .eq 6, 3) := by decide +kernel
theorem dX11_reform_110 : decode cX11_reform 110 = .ok (.goto 11, 3) := by decide +kernel
theorem dX11_reform_113 : decode cX11_reform 113 = .ok (.iload 6, 2) := by decide +kernel
theorem dX11_reform_115 : decode cX11_reform 115 = .ok (.istore 4, 2) := by decide +kernel
theorem dX11_reform_117 : decode cX11_reform 117 = .ok (.iload 7, 2) := by decide +kernel
theorem dX11_reform_119 : decode cX11_reform 119 = .ok (.istore 5, 2) := by decide +kernel
theorem dX11_reform_121 : decode cX11_reform 121 = .ok (.iinc 6 1, 3) := by decide +kernel
theorem dX11_reform_124 : decode cX11_reform 124 = .ok (.goto (-78), 3) := by decide +kernel
theorem dX11_reform_127 : decode cX11_reform 127 = .ok (.iload 4, 2) := by decide +kernel
theorem dX11_reform_129 : decode cX11_reform 129 = .ok (.iconst (-1), 1) := by decide +kernel
theorem dX11_reform_130 : decode cX11_reform 130 = .ok (.if_icmp .ne 7, 3) := by decide +kernel
theorem dX11_reform_133 : decode cX11_reform 133 = .ok (.iconst (-1), 1) := by decide +kernel
theorem dX11_reform_134 : decode cX11_reform 134 = .ok (.goto 14, 3) := by decide +kernel
theorem dX11_reform_137 : decode cX11_reform 137 = .ok (.iload_n 2, 1) := by decide +kernel
theorem dX11_reform_138 : decode cX11_reform 138 = .ok (.ifCond .ne 8, 3) := by decide +kernel
theorem dX11_reform_141 : decode cX11_reform 141 = .ok (.iload 5, 2) := by decide +kernel
theorem dX11_reform_143 : decode cX11_reform 143 = .ok (.goto 5, 3) := by decide +kernel
theorem dX11_reform_146 : decode cX11_reform 146 = .ok (.iload 4, 2) := by decide +kernel
theorem dX11_reform_148 : decode cX11_reform 148 = .ok (.ireturn, 1) := by decide +kernel
theorem dX11_swap_0 : decode cX11_swap 0 = .ok (.aload_n 0, 1) := by decide +kernel
theorem dX11_swap_1 : decode cX11_swap 1 = .ok (.iconst 0, 1) := by decide +kernel
theorem dX11_swap_2 : decode cX11_swap 2 = .ok (.putfield 84, 3) := by decide +kernel
theorem dX11_swap_5 : decode cX11_swap 5 = .ok (.aload_n 0, 1) := by decide +kernel
theorem dX11_swap_6 : decode cX11_swap 6 = .ok (.invokevirtual 347, 3) := by decide +kernel
theorem dX11_swap_9 : decode cX11_swap 9 = .ok (.aload_n 0, 1) := by decide +kernel
theorem dX11_swap_10 : decode cX11_swap 10 = .ok (.invokevirtual 372, 3) := by decide +kernel
theorem dX11_swap_13 : decode cX11_swap 13 = .ok (.istore_n 1, 1) := by decide +kernel
theorem dX11_swap_14 : decode cX11_swap 14 = .ok (.iconst (-1), 1) := by decide +kernel
theorem dX11_swap_15 : decode cX11_swap 15 = .ok (.istore_n 2, 1) := by decide +kernel
theorem dX11_swap_16 : decode cX11_swap 16 = .ok (.iconst 0, 1) := by decide +kernel
theorem dX11_swap_17 : decode cX11_swap 17 = .ok (.istore_n 3, 1) := by decide +kernel
theorem dX11_swap_18 : decode cX11_swap 18 = .ok (.iload_n 3, 1) := by decide +kernel
theorem dX11_swap_19 : decode cX11_swap 19 = .ok (.aload_n 0, 1) := by decide +kernel
theorem dX11_swap_20 : decode cX11_swap 20 = .ok (.getfield 254, 3) := by decide +kernel
theorem dX11_swap_23 : decode cX11_swap 23 = .ok (.if_icmp .ge 97, 3) := by decide +kernel
theorem dX11_swap_26 : decode cX11_swap 26 = .ok (.iload_n 3, 1) := by decide +kernel
theorem dX11_swap_27 : decode cX11_swap 27 = .ok (.iconst 1, 1) := by decide +kernel
theorem dX11_swap_28 : decode cX11_swap 28 = .ok (.iadd, 1) := by decide +kernel
theorem dX11_swap_29 : decode cX11_swap 29 = .ok (.istore 4, 2) := by decide +kernel
theorem dX11_swap_31 : decode cX11_swap 31 = .ok (.iload 4, 2) := by decide +kernel
theorem dX11_swap_33 : decode cX11_swap 33 = .ok (.aload_n 0, 1) := by decide +kernel
theorem dX11_swap_34 : decode cX11_swap 34 = .ok (.getfield 254, 3) := by decide +kernel
theorem dX11_swap_37 : decode cX11_swap 37 = .ok (.if_icmp .ge 77, 3) := by decide +kernel
theorem dX11_swap_40 : decode cX11_swap 40 = .ok (.aload_n 0, 1) := by decide +kernel
theorem dX11_swap_41 : decode cX11_swap 41 = .ok (.invokevirtual 347, 3) := by decide +kernel
theorem dX11_swap_44 : decode cX11_swap 44 = .ok (.aload_n 0, 1) := by decide +kernel
theorem dX11_swap_45 : decode cX11_swap 45 = .ok (.getfield 51, 3) := by decide +kernel
theorem dX11_swap_48 : decode cX11_swap 48 = .ok (.bipush 58, 2) := by decide +kernel
theorem dX11_swap_50 : decode cX11_swap 50 = .ok (.iload_n 3, 1) := by decide +kernel
theorem dX11_swap_51 : decode cX11_swap 51 = .ok (.iadd, 1) := by decide +kernel
theorem dX11_swap_52 : decode cX11_swap 52 = .ok (.aload_n 0, 1) := by decide +kernel
theorem dX11_swap_53 : decode cX11_swap 53 = .ok (.getfield 51, 3) := by decide +kernel
theorem dX11_swap_56 : decode cX11_swap 56 = .ok (.bipush 25, 2) := by decide +kernel
theorem dX11_swap_58 : decode cX11_swap 58 = .ok (.iload 4, 2) := by decide +kernel
theorem dX11_swap_60 : decode cX11_swap 60 = .ok (.iadd, 1) := by decide +kernel
theorem dX11_swap_61 : decode cX11_swap 61 = .ok (.iaload, 1) := by decide +kernel
theorem dX11_swap_62 : decode cX11_swap 62 = .ok (.iastore, 1) := by decide +kernel
theorem dX11_swap_63 : decode cX11_swap 63 = .ok (.aload_n 0, 1) := by decide +kernel
theorem dX11_swap_64 : decode cX11_swap 64 = .ok (.getfield 51, 3) := by decide +kernel
theorem dX11_swap_67 : decode cX11_swap 67 = .ok (.bipush 58, 2) := by decide +kernel
theorem dX11_swap_69 : decode cX11_swap 69 = .ok (.iload 4, 2) := by decide +kernel
theorem dX11_swap_71 : decode cX11_swap 71 = .ok (.iadd, 1) := by decide +kernel
theorem dX11_swap_72 : decode cX11_swap 72 = .ok (.aload_n 0, 1) := by decide +kernel
theorem dX11_swap_73 : decode cX11_swap 73 = .ok (.getfield 51, 3) := by decide +kernel
theorem dX11_swap_76 : decode cX11_swap 76 = .ok (.bipush 25, 2) := by decide +kernel
theorem dX11_swap_78 : decode cX11_swap 78 = .ok (.iload_n 3, 1) := by decide +kernel
theorem dX11_swap_79 : decode cX11_swap 79 = .ok (.iadd, 1) := by decide +kernel
theorem dX11_swap_80 : decode cX11_swap 80 = .ok (.iaload, 1) := by decide +kernel
theorem dX11_swap_81 : decode cX11_swap 81 = .ok (.iastore, 1) := by decide +kernel
theorem dX11_swap_82 : decode cX11_swap 82 = .ok (.aload_n 0, 1) := by decide +kernel
theorem dX11_swap_83 : decode cX11_swap 83 = .ok (.invokevirtual 372, 3) := by decide +kernel
theorem dX11_swap_86 : decode cX11_swap 86 = .ok (.istore 5, 2) := by decide +kernel
theorem dX11_swap_88 : decode cX11_swap 88 = .ok (.iload 5, 2) := by decide +kernel
theorem dX11_swap_90 : decode cX11_swap 90 = .ok (.iload_n 1, 1) := by decide +kernel
theorem dX11_swap_91 : decode cX11_swap 91 = .ok (.if_icmp .gt 6, 3) := by decide +kernel
theorem dX11_swap_94 : decode cX11_swap 94 = .ok (.goto 14, 3) := by decide +kernel
theorem dX11_swap_97 : decode cX11_swap 97 = .ok (.bipush 10, 2) := by decide +kernel
theorem dX11_swap_99 : decode cX11_swap 99 = .ok (.iload_n 3, 1) := by decide +kernel
theorem dX11_swap_100 : decode cX11_swap 100 = .ok (.imul, 1) := by decide +kernel
theorem dX11_swap_101 : decode cX11_swap 101 = .ok (.iload 4, 2) := by decide +kernel
theorem dX11_swap_103 : decode cX11_swap 103 = .ok (.iadd, 1) := by decide +kernel
theorem dX11_swap_104 : decode cX11_swap 104 = .ok (.istore_n 2, 1) := by decide +kernel
theorem dX11_swap_105 : decode cX11_swap 105 = .ok (.iload 5, 2) := by decide +kernel
theorem dX11_swap_107 : decode cX11_swap 107 = .ok (.istore_n 1, 1) := by decide +kernel
theorem dX11_swap_108 : decode cX11_swap 108 = .ok (.iinc 4 1, 3) := by decide +kernel
theorem dX11_swap_111 : decode cX11_swap 111 = .ok (.goto (-80), 3) := by decide +kernel
theorem dX11_swap_114 : decode cX11_swap 114 = .ok (.iinc 3 1, 3) := by decide +kernel
theorem dX11_swap_117 : decode cX11_swap 117 = .ok (.goto (-99), 3) := by decide +kernel
theorem dX11_swap_120 : decode cX11_swap 120 = .ok (.iload_n 2, 1) := by decide +kernel
theorem dX11_swap_121 : decode cX11_swap 121 = .ok (.ireturn, 1) := by decide +kernel
theorem dX11_loudest_0 : decode cX11_loudest 0 = .ok (.aload_n 0, 1) := by decide +kernel
theorem dX11_loudest_1 : decode cX11_loudest 1 = .ok (.iconst 0, 1) := by decide +kernel
theorem dX11_loudest_2 : decode cX11_loudest 2 = .ok (.putfield 84, 3) := by decide +kernel
theorem dX11_loudest_5 : decode cX11_loudest 5 = .ok (.iconst (-1), 1) := by decide +kernel
theorem dX11_loudest_6 : decode cX11_loudest 6 = .ok (.istore_n 1, 1) := by decide +kernel
theorem dX11_loudest_7 : decode cX11_loudest 7 = .ok (.iconst (-1), 1) := by decide +kernel
theorem dX11_loudest_8 : decode cX11_loudest 8 = .ok (.istore_n 2, 1) := by decide +kernel
theorem dX11_loudest_9 : decode cX11_loudest 9 = .ok (.iconst 0, 1) := by decide +kernel
theorem dX11_loudest_10 : decode cX11_loudest 10 = .ok (.istore_n 3, 1) := by decide +kernel
theorem dX11_loudest_11 : decode cX11_loudest 11 = .ok (.iload_n 3, 1) := by decide +kernel
theorem dX11_loudest_12 : decode cX11_loudest 12 = .ok (.aload_n 0, 1) := by decide +kernel
theorem dX11_loudest_13 : decode cX11_loudest 13 = .ok (.getfield 254, 3) := by decide +kernel
theorem dX11_loudest_16 : decode cX11_loudest 16 = .ok (.if_icmp .ge 81, 3) := by decide +kernel
theorem dX11_loudest_19 : decode cX11_loudest 19 = .ok (.iconst 0, 1) := by decide +kernel
theorem dX11_loudest_20 : decode cX11_loudest 20 = .ok (.istore 4, 2) := by decide +kernel
theorem dX11_loudest_22 : decode cX11_loudest 22 = .ok (.iconst 0, 1) := by decide +kernel
theorem dX11_loudest_23 : decode cX11_loudest 23 = .ok (.istore 5, 2) := by decide +kernel
theorem dX11_loudest_25 : decode cX11_loudest 25 = .ok (.iload 5, 2) := by decide +kernel
theorem dX11_loudest_27 : decode cX11_loudest 27 = .ok (.aload_n 0, 1) := by decide +kernel
theorem dX11_loudest_28 : decode cX11_loudest 28 = .ok (.getfield 251, 3) := by decide +kernel
theorem dX11_loudest_31 : decode cX11_loudest 31 = .ok (.if_icmp .ge 46, 3) := by decide +kernel
theorem dX11_loudest_34 : decode cX11_loudest 34 = .ok (.iload 4, 2) := by decide +kernel
theorem dX11_loudest_36 : decode cX11_loudest 36 = .ok (.aload_n 0, 1) := by decide +kernel
theorem dX11_loudest_37 : decode cX11_loudest 37 = .ok (.getfield 51, 3) := by decide +kernel
theorem dX11_loudest_40 : decode cX11_loudest 40 = .ok (.bipush 25, 2) := by decide +kernel
theorem dX11_loudest_42 : decode cX11_loudest 42 = .ok (.iload_n 3, 1) := by decide +kernel
theorem dX11_loudest_43 : decode cX11_loudest 43 = .ok (.iadd, 1) := by decide +kernel
theorem dX11_loudest_44 : decode cX11_loudest 44 = .ok (.iaload, 1) := by decide +kernel
theorem dX11_loudest_45 : decode cX11_loudest 45 = .ok (.iload 5, 2) := by decide +kernel
theorem dX11_loudest_47 : decode cX11_loudest 47 = .ok (.ishr, 1) := by decide +kernel
theorem dX11_loudest_48 : decode cX11_loudest 48 = .ok (.iconst 1, 1) := by decide +kernel
theorem dX11_loudest_49 : decode cX11_loudest 49 = .ok (.iand, 1) := by decide +kernel
theorem dX11_loudest_50 : decode cX11_loudest 50 = .ok (.iconst 1, 1) := by decide +kernel
theorem dX11_loudest_51 : decode cX11_loudest 51 = .ok (.if_icmp .ne 16, 3) := by decide +kernel
theorem dX11_loudest_54 : decode cX11_loudest 54 = .ok (.aload_n 0, 1) := by decide +kernel
theorem dX11_loudest_55 : decode cX11_loudest 55 = .ok (.getfield 51, 3) := by decide +kernel
theorem dX11_loudest_58 : decode cX11_loudest 58 = .ok (.bipush 9, 2) := by decide +kernel
theorem dX11_loudest_60 : decode cX11_loudest 60 = .ok (.iload 5, 2) := by decide +kernel
theorem dX11_loudest_62 : decode cX11_loudest 62 = .ok (.iadd, 1) := by decide +kernel
theorem dX11_loudest_63 : decode cX11_loudest 63 = .ok (.iaload, 1) := by decide +kernel
theorem dX11_loudest_64 : decode cX11_loudest 64 = .ok (.goto 4, 3) := by decide +kernel
theorem dX11_loudest_67 : decode cX11_loudest 67 = .ok (.iconst 0, 1) := by decide +kernel
theorem dX11_loudest_68 : decode cX11_loudest 68 = .ok (.iadd, 1) := by decide +kernel
theorem dX11_loudest_69 : decode cX11_loudest 69 = .ok (.istore 4, 2) := by decide +kernel
theorem dX11_loudest_71 : decode cX11_loudest 71 = .ok (.iinc 5 1, 3) := by decide +kernel
theorem dX11_loudest_74 : decode cX11_loudest 74 = .ok (.goto (-49), 3) := by decide +kernel
theorem dX11_loudest_77 : decode cX11_loudest 77 = .ok (.iload 4, 2) := by decide +kernel
theorem dX11_loudest_79 : decode cX11_loudest 79 = .ok (.iload_n 2, 1) := by decide +kernel
theorem dX11_loudest_80 : decode cX11_loudest 80 = .ok (.if_icmp .gt 6, 3) := by decide +kernel
theorem dX11_loudest_83 : decode cX11_loudest 83 = .ok (.goto 8, 3) := by decide +kernel
theorem dX11_loudest_86 : decode cX11_loudest 86 = .ok (.iload_n 3, 1) := by decide +kernel
theorem dX11_loudest_87 : decode cX11_loudest 87 = .ok (.istore_n 1, 1) := by decide +kernel
theorem dX11_loudest_88 : decode cX11_loudest 88 = .ok (.iload 4, 2) := by decide +kernel
theorem dX11_loudest_90 : decode cX11_loudest 90 = .ok (.istore_n 2, 1) := by decide +kernel
theorem dX11_loudest_91 : decode cX11_loudest 91 = .ok (.iinc 3 1, 3) := by decide +kernel
theorem dX11_loudest_94 : decode cX11_loudest 94 = .ok (.goto (-83), 3) := by decide +kernel
theorem dX11_loudest_97 : decode cX11_loudest 97 = .ok (.iload_n 1, 1) := by decide +kernel
theorem dX11_loudest_98 : decode cX11_loudest 98 = .ok (.ireturn, 1) := by decide +kernel
theorem dX11_run_0 : decode cX11_run 0 = .ok (.aload_n 0, 1) := by decide +kernel
theorem dX11_run_1 : decode cX11_run 1 = .ok (.iconst 0, 1) := by decide +kernel
theorem dX11_run_2 : decode cX11_run 2 = .ok (.putfield 84, 3) := by decide +kernel
theorem dX11_run_5 : decode cX11_run 5 = .ok (.aload_n 0, 1) := by decide +kernel
theorem dX11_run_6 : decode cX11_run 6 = .ok (.iload_n 1, 1) := by decide +kernel
theorem dX11_run_7 : decode cX11_run 7 = .ok (.invokevirtual 327, 3) := by decide +kernel
theorem dX11_run_10 : decode cX11_run 10 = .ok (.ifCond .ne 5, 3) := by decide +kernel
theorem dX11_run_13 : decode cX11_run 13 = .ok (.iconst 0, 1) := by decide +kernel
theorem dX11_run_14 : decode cX11_run 14 = .ok (.ireturn, 1) := by decide +kernel
theorem dX11_run_15 : decode cX11_run 15 = .ok (.iconst 0, 1) := by decide +kernel
theorem dX11_run_16 : decode cX11_run 16 = .ok (.istore_n 2, 1) := by decide +kernel
theorem dX11_run_17 : decode cX11_run 17 = .ok (.iconst 0, 1) := by decide +kernel
theorem dX11_run_18 : decode cX11_run 18 = .ok (.istore_n 3, 1) := by decide +kernel
theorem dX11_run_19 : decode cX11_run 19 = .ok (.iconst 0, 1) := by decide +kernel
theorem dX11_run_20 : decode cX11_run 20 = .ok (.istore 4, 2) := by decide +kernel
theorem dX11_run_22 : decode cX11_run 22 = .ok (.iload 4, 2) := by decide +kernel
theorem dX11_run_24 : decode cX11_run 24 = .ok (.aload_n 0, 1) := by decide +kernel
theorem dX11_run_25 : decode cX11_run 25 = .ok (.getfield 7, 3) := by decide +kernel
theorem dX11_run_28 : decode cX11_run 28 = .ok (.if_icmp .ge 45, 3) := by decide +kernel
theorem dX11_run_31 : decode cX11_run 31 = .ok (.aload_n 0, 1) := by decide +kernel
theorem dX11_run_32 : decode cX11_run 32 = .ok (.getfield 51, 3) := by decide +kernel
theorem dX11_run_35 : decode cX11_run 35 = .ok (.iconst 1, 1) := by decide +kernel
theorem dX11_run_36 : decode cX11_run 36 = .ok (.iload_n 1, 1) := by decide +kernel
theorem dX11_run_37 : decode cX11_run 37 = .ok (.iadd, 1) := by decide +kernel
theorem dX11_run_38 : decode cX11_run 38 = .ok (.iaload, 1) := by decide +kernel
theorem dX11_run_39 : decode cX11_run 39 = .ok (.iload 4, 2) := by decide +kernel
theorem dX11_run_41 : decode cX11_run 41 = .ok (.ishr, 1) := by decide +kernel
theorem dX11_run_42 : decode cX11_run 42 = .ok (.iconst 1, 1) := by decide +kernel
theorem dX11_run_43 : decode cX11_run 43 = .ok (.iand, 1) := by decide +kernel
theorem dX11_run_44 : decode cX11_run 44 = .ok (.iconst 1, 1) := by decide +kernel
theorem dX11_run_45 : decode cX11_run 45 = .ok (.if_icmp .ne 9, 3) := by decide +kernel
theorem dX11_run_48 : decode cX11_run 48 = .ok (.iload_n 3, 1) := by decide +kernel
theorem dX11_run_49 : decode cX11_run 49 = .ok (.iconst 1, 1) := by decide +kernel
theorem dX11_run_50 : decode cX11_run 50 = .ok (.iadd, 1) := by decide +kernel
theorem dX11_run_51 : decode cX11_run 51 = .ok (.goto 4, 3) := by decide +kernel
theorem dX11_run_54 : decode cX11_run 54 = .ok (.iconst 0, 1) := by decide +kernel
theorem dX11_run_55 : decode cX11_run 55 = .ok (.istore_n 3, 1) := by decide +kernel
theorem dX11_run_56 : decode cX11_run 56 = .ok (.iload_n 3, 1) := by decide +kernel
theorem dX11_run_57 : decode cX11_run 57 = .ok (.iload_n 2, 1) := by decide +kernel
theorem dX11_run_58 : decode cX11_run 58 = .ok (.if_icmp .le 7, 3) := by decide +kernel
theorem dX11_run_61 : decode cX11_run 61 = .ok (.iload_n 3, 1) := by decide +kernel
theorem dX11_run_62 : decode cX11_run 62 = .ok (.goto 4, 3) := by decide +kernel
theorem dX11_run_65 : decode cX11_run 65 = .ok (.iload_n 2, 1) := by decide +kernel
theorem dX11_run_66 : decode cX11_run 66 = .ok (.istore_n 2, 1) := by decide +kernel
theorem dX11_run_67 : decode cX11_run 67 = .ok (.iinc 4 1, 3) := by decide +kernel
theorem dX11_run_70 : decode cX11_run 70 = .ok (.goto (-48), 3) := by decide +kernel
theorem dX11_run_73 : decode cX11_run 73 = .ok (.iload_n 2, 1) := by decide +kernel
theorem dX11_run_74 : decode cX11_run 74 = .ok (.ireturn, 1) := by decide +kernel
theorem dX11_rarest_0 : decode cX11_rarest 0 = .ok (.aload_n 0, 1) := by decide +kernel
theorem dX11_rarest_1 : decode cX11_rarest 1 = .ok (.iconst 0, 1) := by decide +kernel
theorem dX11_rarest_2 : decode cX11_rarest 2 = .ok (.putfield 84, 3) := by decide +kernel
theorem dX11_rarest_5 : decode cX11_rarest 5 = .ok (.iconst 0, 1) := by decide +kernel
theorem dX11_rarest_6 : decode cX11_rarest 6 = .ok (.istore_n 1, 1) := by decide +kernel
theorem dX11_rarest_7 : decode cX11_rarest 7 = .ok (.ldc_w 362, 3) := by decide +kernel
theorem dX11_rarest_10 : decode cX11_rarest 10 = .ok (.istore_n 2, 1) := by decide +kernel
theorem dX11_rarest_11 : decode cX11_rarest 11 = .ok (.iconst 0, 1) := by decide +kernel
theorem dX11_rarest_12 : decode cX11_rarest 12 = .ok (.istore_n 3, 1) := by decide +kernel
theorem dX11_rarest_13 : decode cX11_rarest 13 = .ok (.iload_n 3, 1) := by decide +kernel
theorem dX11_rarest_14 : decode cX11_rarest 14 = .ok (.aload_n 0, 1) := by decide +kernel
theorem dX11_rarest_15 : decode cX11_rarest 15 = .ok (.getfield 7, 3) := by decide +kernel
theorem dX11_rarest_18 : decode cX11_rarest 18 = .ok (.if_icmp .ge 62, 3) := by decide +kernel
theorem dX11_rarest_21 : decode cX11_rarest 21 = .ok (.iconst 0, 1) := by decide +kernel
theorem dX11_rarest_22 : decode cX11_rarest 22 = .ok (.istore 4, 2) := by decide +kernel
theorem dX11_rarest_24 : decode cX11_rarest 24 = .ok (.iconst 0, 1) := by decide +kernel
theorem dX11_rarest_25 : decode cX11_rarest 25 = .ok (.istore 5, 2) := by decide +kernel
theorem dX11_rarest_27 : decode cX11_rarest 27 = .ok (.iload 5, 2) := by decide +kernel
theorem dX11_rarest_29 : decode cX11_rarest 29 = .ok (.aload_n 0, 1) := by decide +kernel
theorem dX11_rarest_30 : decode cX11_rarest 30 = .ok (.getfield 251, 3) := by decide +kernel
theorem dX11_rarest_33 : decode cX11_rarest 33 = .ok (.if_icmp .ge 27, 3) := by decide +kernel
theorem dX11_rarest_36 : decode cX11_rarest 36 = .ok (.iload 4, 2) := by decide +kernel
theorem dX11_rarest_38 : decode cX11_rarest 38 = .ok (.aload_n 0, 1) := by decide +kernel
theorem dX11_rarest_39 : decode cX11_rarest 39 = .ok (.getfield 51, 3) := by decide +kernel
theorem dX11_rarest_42 : decode cX11_rarest 42 = .ok (.iconst 1, 1) := by decide +kernel
theorem dX11_rarest_43 : decode cX11_rarest 43 = .ok (.iload 5, 2) := by decide +kernel
theorem dX11_rarest_45 : decode cX11_rarest 45 = .ok (.iadd, 1) := by decide +kernel
theorem dX11_rarest_46 : decode cX11_rarest 46 = .ok (.iaload, 1) := by decide +kernel
theorem dX11_rarest_47 : decode cX11_rarest 47 = .ok (.iload_n 3, 1) := by decide +kernel
theorem dX11_rarest_48 : decode cX11_rarest 48 = .ok (.ishr, 1) := by decide +kernel
theorem dX11_rarest_49 : decode cX11_rarest 49 = .ok (.iconst 1, 1) := by decide +kernel
theorem dX11_rarest_50 : decode cX11_rarest 50 = .ok (.iand, 1) := by decide +kernel
theorem dX11_rarest_51 : decode cX11_rarest 51 = .ok (.iadd, 1) := by decide +kernel
theorem dX11_rarest_52 : decode cX11_rarest 52 = .ok (.istore 4, 2) := by decide +kernel
theorem dX11_rarest_54 : decode cX11_rarest 54 = .ok (.iinc 5 1, 3) := by decide +kernel
theorem dX11_rarest_57 : decode cX11_rarest 57 = .ok (.goto (-30), 3) := by decide +kernel
theorem dX11_rarest_60 : decode cX11_rarest 60 = .ok (.iload 4, 2) := by decide +kernel
theorem dX11_rarest_62 : decode cX11_rarest 62 = .ok (.iload_n 2, 1) := by decide +kernel
theorem dX11_rarest_63 : decode cX11_rarest 63 = .ok (.if_icmp .lt 6, 3) := by decide +kernel
theorem dX11_rarest_66 : decode cX11_rarest 66 = .ok (.goto 8, 3) := by decide +kernel
theorem dX11_rarest_69 : decode cX11_rarest 69 = .ok (.iload_n 3, 1) := by decide +kernel
theorem dX11_rarest_70 : decode cX11_rarest 70 = .ok (.istore_n 1, 1) := by decide +kernel
theorem dX11_rarest_71 : decode cX11_rarest 71 = .ok (.iload 4, 2) := by decide +kernel
theorem dX11_rarest_73 : decode cX11_rarest 73 = .ok (.istore_n 2, 1) := by decide +kernel
theorem dX11_rarest_74 : decode cX11_rarest 74 = .ok (.iinc 3 1, 3) := by decide +kernel
theorem dX11_rarest_77 : decode cX11_rarest 77 = .ok (.goto (-64), 3) := by decide +kernel
theorem dX11_rarest_80 : decode cX11_rarest 80 = .ok (.iload_n 1, 1) := by decide +kernel
theorem dX11_rarest_81 : decode cX11_rarest 81 = .ok (.ireturn, 1) := by decide +kernel
theorem dX11_image_0 : decode cX11_image 0 = .ok (.aload_n 0, 1) := by decide +kernel
theorem dX11_image_1 : decode cX11_image 1 = .ok (.iconst 0, 1) := by decide +kernel
theorem dX11_image_2 : decode cX11_image 2 = .ok (.putfield 84, 3) := by decide +kernel
theorem dX11_image_5 : decode cX11_image 5 = .ok (.aload_n 0, 1) := by decide +kernel
theorem dX11_image_6 : decode cX11_image 6 = .ok (.iconst 1, 1) := by decide +kernel
theorem dX11_image_7 : decode cX11_image 7 = .ok (.putfield 270, 3) := by decide +kernel
theorem dX11_image_10 : decode cX11_image 10 = .ok (.aload_n 0, 1) := by decide +kernel
theorem dX11_image_11 : decode cX11_image 11 = .ok (.aload_n 0, 1) := by decide +kernel
theorem dX11_image_12 : decode cX11_image 12 = .ok (.getfield 264, 3) := by decide +kernel
theorem dX11_image_15 : decode cX11_image 15 = .ok (.putfield 401, 3) := by decide +kernel
theorem dX11_image_18 : decode cX11_image 18 = .ok (.aload_n 0, 1) := by decide +kernel
theorem dX11_image_19 : decode cX11_image 19 = .ok (.aload_n 0, 1) := by decide +kernel
theorem dX11_image_20 : decode cX11_image 20 = .ok (.getfield 267, 3) := by decide +kernel
theorem dX11_image_23 : decode cX11_image 23 = .ok (.putfield 404, 3) := by decide +kernel
theorem dX11_image_26 : decode cX11_image 26 = .ok (.iconst 0, 1) := by decide +kernel
theorem dX11_image_27 : decode cX11_image 27 = .ok (.istore_n 1, 1) := by decide +kernel
theorem dX11_image_28 : decode cX11_image 28 = .ok (.iload_n 1, 1) := by decide +kernel
theorem dX11_image_29 : decode cX11_image 29 = .ok (.bipush 33, 2) := by decide +kernel
theorem dX11_image_31 : decode cX11_image 31 = .ok (.if_icmp .ge 21, 3) := by decide +kernel
theorem dX11_image_34 : decode cX11_image 34 = .ok (.aload_n 0, 1) := by decide +kernel
theorem dX11_image_35 : decode cX11_image 35 = .ok (.getfield 75, 3) := by decide +kernel
theorem dX11_image_38 : decode cX11_image 38 = .ok (.iload_n 1, 1) := by decide +kernel
theorem dX11_image_39 : decode cX11_image 39 = .ok (.aload_n 0, 1) := by decide +kernel
theorem dX11_image_40 : decode cX11_image 40 = .ok (.getfield 51, 3) := by decide +kernel
theorem dX11_image_43 : decode cX11_image 43 = .ok (.iload_n 1, 1) := by decide +kernel
theorem dX11_image_44 : decode cX11_image 44 = .ok (.iaload, 1) := by decide +kernel
theorem dX11_image_45 : decode cX11_image 45 = .ok (.iastore, 1) := by decide +kernel
theorem dX11_image_46 : decode cX11_image 46 = .ok (.iinc 1 1, 3) := by decide +kernel
theorem dX11_image_49 : decode cX11_image 49 = .ok (.goto (-21), 3) := by decide +kernel
theorem dX11_image_52 : decode cX11_image 52 = .ok (.aload_n 0, 1) := by decide +kernel
theorem dX11_image_53 : decode cX11_image 53 = .ok (.aload_n 0, 1) := by decide +kernel
theorem dX11_image_54 : decode cX11_image 54 = .ok (.getfield 54, 3) := by decide +kernel
theorem dX11_image_57 : decode cX11_image 57 = .ok (.aload_n 0, 1) := by decide +kernel
theorem dX11_image_58 : decode cX11_image 58 = .ok (.getfield 78, 3) := by decide +kernel
theorem dX11_image_61 : decode cX11_image 61 = .ok (.invokevirtual 260, 3) := by decide +kernel
theorem dX11_image_64 : decode cX11_image 64 = .ok (.aload_n 0, 1) := by decide +kernel
theorem dX11_image_65 : decode cX11_image 65 = .ok (.aload_n 0, 1) := by decide +kernel
theorem dX11_image_66 : decode cX11_image 66 = .ok (.getfield 69, 3) := by decide +kernel
theorem dX11_image_69 : decode cX11_image 69 = .ok (.aload_n 0, 1) := by decide +kernel
theorem dX11_image_70 : decode cX11_image 70 = .ok (.getfield 81, 3) := by decide +kernel
theorem dX11_image_73 : decode cX11_image 73 = .ok (.invokevirtual 260, 3) := by decide +kernel
theorem dX11_image_76 : decode cX11_image 76 = .ok (.return_, 1) := by decide +kernel
theorem dX11_restore_0 : decode cX11_restore 0 = .ok (.aload_n 0, 1) := by decide +kernel
theorem dX11_restore_1 : decode cX11_restore 1 = .ok (.iconst 0, 1) := by decide +kernel
theorem dX11_restore_2 : decode cX11_restore 2 = .ok (.putfield 84, 3) := by decide +kernel
theorem dX11_restore_5 : decode cX11_restore 5 = .ok (.aload_n 0, 1) := by decide +kernel
theorem dX11_restore_6 : decode cX11_restore 6 = .ok (.getfield 270, 3) := by decide +kernel
theorem dX11_restore_9 : decode cX11_restore 9 = .ok (.ifCond .ne 5, 3) := by decide +kernel
theorem dX11_restore_12 : decode cX11_restore 12 = .ok (.iconst 0, 1) := by decide +kernel
theorem dX11_restore_13 : decode cX11_restore 13 = .ok (.ireturn, 1) := by decide +kernel
theorem dX11_restore_14 : decode cX11_restore 14 = .ok (.aload_n 0, 1) := by decide +kernel
theorem dX11_restore_15 : decode cX11_restore 15 = .ok (.aload_n 0, 1) := by decide +kernel
theorem dX11_restore_16 : decode cX11_restore 16 = .ok (.getfield 401, 3) := by decide +kernel
theorem dX11_restore_19 : decode cX11_restore 19 = .ok (.putfield 264, 3) := by decide +kernel
theorem dX11_restore_22 : decode cX11_restore 22 = .ok (.aload_n 0, 1) := by decide +kernel
theorem dX11_restore_23 : decode cX11_restore 23 = .ok (.aload_n 0, 1) := by decide +kernel
theorem dX11_restore_24 : decode cX11_restore 24 = .ok (.getfield 404, 3) := by decide +kernel
theorem dX11_restore_27 : decode cX11_restore 27 = .ok (.putfield 267, 3) := by decide +kernel
theorem dX11_restore_30 : decode cX11_restore 30 = .ok (.iconst 0, 1) := by decide +kernel
theorem dX11_restore_31 : decode cX11_restore 31 = .ok (.istore_n 1, 1) := by decide +kernel
theorem dX11_restore_32 : decode cX11_restore 32 = .ok (.iload_n 1, 1) := by decide +kernel
theorem dX11_restore_33 : decode cX11_restore 33 = .ok (.bipush 33, 2) := by decide +kernel
theorem dX11_restore_35 : decode cX11_restore 35 = .ok (.if_icmp .ge 21, 3) := by decide +kernel
theorem dX11_restore_38 : decode cX11_restore 38 = .ok (.aload_n 0, 1) := by decide +kernel
theorem dX11_restore_39 : decode cX11_restore 39 = .ok (.getfield 51, 3) := by decide +kernel
theorem dX11_restore_42 : decode cX11_restore 42 = .ok (.iload_n 1, 1) := by decide +kernel
theorem dX11_restore_43 : decode cX11_restore 43 = .ok (.aload_n 0, 1) := by decide +kernel
theorem dX11_restore_44 : decode cX11_restore 44 = .ok (.getfield 75, 3) := by decide +kernel
theorem dX11_restore_47 : decode cX11_restore 47 = .ok (.iload_n 1, 1) := by decide +kernel
theorem dX11_restore_48 : decode cX11_restore 48 = .ok (.iaload, 1) := by decide +kernel
theorem dX11_restore_49 : decode cX11_restore 49 = .ok (.iastore, 1) := by decide +kernel
theorem dX11_restore_50 : decode cX11_restore 50 = .ok (.iinc 1 1, 3) := by decide +kernel
theorem dX11_restore_53 : decode cX11_restore 53 = .ok (.goto (-21), 3) := by decide +kernel
theorem dX11_restore_56 : decode cX11_restore 56 = .ok (.aload_n 0, 1) := by decide +kernel
theorem dX11_restore_57 : decode cX11_restore 57 = .ok (.aload_n 0, 1) := by decide +kernel
theorem dX11_restore_58 : decode cX11_restore 58 = .ok (.getfield 78, 3) := by decide +kernel
theorem dX11_restore_61 : decode cX11_restore 61 = .ok (.aload_n 0, 1) := by decide +kernel
theorem dX11_restore_62 : decode cX11_restore 62 = .ok (.getfield 54, 3) := by decide +kernel
theorem dX11_restore_65 : decode cX11_restore 65 = .ok (.invokevirtual 260, 3) := by decide +kernel
theorem dX11_restore_68 : decode cX11_restore 68 = .ok (.aload_n 0, 1) := by decide +kernel
theorem dX11_restore_69 : decode cX11_restore 69 = .ok (.aload_n 0, 1) := by decide +kernel
theorem dX11_restore_70 : decode cX11_restore 70 = .ok (.getfield 81, 3) := by decide +kernel
theorem dX11_restore_73 : decode cX11_restore 73 = .ok (.aload_n 0, 1) := by decide +kernel
theorem dX11_restore_74 : decode cX11_restore 74 = .ok (.getfield 69, 3) := by decide +kernel
theorem dX11_restore_77 : decode cX11_restore 77 = .ok (.invokevirtual 260, 3) := by decide +kernel
theorem dX11_restore_80 : decode cX11_restore 80 = .ok (.iconst 1, 1) := by decide +kernel
theorem dX11_restore_81 : decode cX11_restore 81 = .ok (.ireturn, 1) := by decide +kernel
theorem dJ11_isValidCodePoint_9a6ad_0 : decode cJ11_isValidCodePoint_9a6ad 0 = .ok (.iload_n 0, 1) := by decide +kernel
theorem dJ11_isValidCodePoint_9a6ad_1 : decode cJ11_isValidCodePoint_9a6ad 1 = .ok (.bipush 16, 2) := by decide +kernel
theorem dJ11_isValidCodePoint_9a6ad_3 : decode cJ11_isValidCodePoint_9a6ad 3 = .ok (.iushr, 1) := by decide +kernel
theorem dJ11_isValidCodePoint_9a6ad_4 : decode cJ11_isValidCodePoint_9a6ad 4 = .ok (.istore_n 1, 1) := by decide +kernel
theorem dJ11_isValidCodePoint_9a6ad_5 : decode cJ11_isValidCodePoint_9a6ad 5 = .ok (.iload_n 1, 1) := by decide +kernel
theorem dJ11_isValidCodePoint_9a6ad_6 : decode cJ11_isValidCodePoint_9a6ad 6 = .ok (.bipush 17, 2) := by decide +kernel
theorem dJ11_isValidCodePoint_9a6ad_8 : decode cJ11_isValidCodePoint_9a6ad 8 = .ok (.if_icmp .ge 7, 3) := by decide +kernel
theorem dJ11_isValidCodePoint_9a6ad_11 : decode cJ11_isValidCodePoint_9a6ad 11 = .ok (.iconst 1, 1) := by decide +kernel
theorem dJ11_isValidCodePoint_9a6ad_12 : decode cJ11_isValidCodePoint_9a6ad 12 = .ok (.goto 4, 3) := by decide +kernel
theorem dJ11_isValidCodePoint_9a6ad_15 : decode cJ11_isValidCodePoint_9a6ad 15 = .ok (.iconst 0, 1) := by decide +kernel
theorem dJ11_isValidCodePoint_9a6ad_16 : decode cJ11_isValidCodePoint_9a6ad 16 = .ok (.ireturn, 1) := by decide +kernel
theorem dJ11_highSurrogate_5068e_0 : decode cJ11_highSurrogate_5068e 0 = .ok (.iload_n 0, 1) := by decide +kernel
theorem dJ11_highSurrogate_5068e_1 : decode cJ11_highSurrogate_5068e 1 = .ok (.bipush 10, 2) := by decide +kernel
theorem dJ11_highSurrogate_5068e_3 : decode cJ11_highSurrogate_5068e 3 = .ok (.iushr, 1) := by decide +kernel
theorem dJ11_highSurrogate_5068e_4 : decode cJ11_highSurrogate_5068e 4 = .ok (.ldc 110, 2) := by decide +kernel
theorem dJ11_highSurrogate_5068e_6 : decode cJ11_highSurrogate_5068e 6 = .ok (.iadd, 1) := by decide +kernel
theorem dJ11_highSurrogate_5068e_7 : decode cJ11_highSurrogate_5068e 7 = .ok (.i2c, 1) := by decide +kernel
theorem dJ11_highSurrogate_5068e_8 : decode cJ11_highSurrogate_5068e 8 = .ok (.ireturn, 1) := by decide +kernel
theorem dJ11_lowSurrogate_5068e_0 : decode cJ11_lowSurrogate_5068e 0 = .ok (.iload_n 0, 1) := by decide +kernel
theorem dJ11_lowSurrogate_5068e_1 : decode cJ11_lowSurrogate_5068e 1 = .ok (.sipush 1023, 3) := by decide +kernel
theorem dJ11_lowSurrogate_5068e_4 : decode cJ11_lowSurrogate_5068e 4 = .ok (.iand, 1) := by decide +kernel
theorem dJ11_lowSurrogate_5068e_5 : decode cJ11_lowSurrogate_5068e 5 = .ok (.ldc 76, 2) := by decide +kernel
theorem dJ11_lowSurrogate_5068e_7 : decode cJ11_lowSurrogate_5068e 7 = .ok (.iadd, 1) := by decide +kernel
theorem dJ11_lowSurrogate_5068e_8 : decode cJ11_lowSurrogate_5068e 8 = .ok (.i2c, 1) := by decide +kernel
theorem dJ11_lowSurrogate_5068e_9 : decode cJ11_lowSurrogate_5068e 9 = .ok (.ireturn, 1) := by decide +kernel
theorem dJ6_bitCount_0f7a4_0 : decode cJ6_bitCount_0f7a4 0 = .ok (.iload_n 0, 1) := by decide +kernel
theorem dJ6_bitCount_0f7a4_1 : decode cJ6_bitCount_0f7a4 1 = .ok (.iload_n 0, 1) := by decide +kernel
theorem dJ6_bitCount_0f7a4_2 : decode cJ6_bitCount_0f7a4 2 = .ok (.iconst 1, 1) := by decide +kernel
theorem dJ6_bitCount_0f7a4_3 : decode cJ6_bitCount_0f7a4 3 = .ok (.iushr, 1) := by decide +kernel
theorem dJ6_bitCount_0f7a4_4 : decode cJ6_bitCount_0f7a4 4 = .ok (.ldc_w 265, 3) := by decide +kernel
theorem dJ6_bitCount_0f7a4_7 : decode cJ6_bitCount_0f7a4 7 = .ok (.iand, 1) := by decide +kernel
theorem dJ6_bitCount_0f7a4_8 : decode cJ6_bitCount_0f7a4 8 = .ok (.isub, 1) := by decide +kernel
theorem dJ6_bitCount_0f7a4_9 : decode cJ6_bitCount_0f7a4 9 = .ok (.istore_n 0, 1) := by decide +kernel
theorem dJ6_bitCount_0f7a4_10 : decode cJ6_bitCount_0f7a4 10 = .ok (.iload_n 0, 1) := by decide +kernel
theorem dJ6_bitCount_0f7a4_11 : decode cJ6_bitCount_0f7a4 11 = .ok (.ldc_w 266, 3) := by decide +kernel
theorem dJ6_bitCount_0f7a4_14 : decode cJ6_bitCount_0f7a4 14 = .ok (.iand, 1) := by decide +kernel
theorem dJ6_bitCount_0f7a4_15 : decode cJ6_bitCount_0f7a4 15 = .ok (.iload_n 0, 1) := by decide +kernel
theorem dJ6_bitCount_0f7a4_16 : decode cJ6_bitCount_0f7a4 16 = .ok (.iconst 2, 1) := by decide +kernel
theorem dJ6_bitCount_0f7a4_17 : decode cJ6_bitCount_0f7a4 17 = .ok (.iushr, 1) := by decide +kernel
theorem dJ6_bitCount_0f7a4_18 : decode cJ6_bitCount_0f7a4 18 = .ok (.ldc_w 266, 3) := by decide +kernel
theorem dJ6_bitCount_0f7a4_21 : decode cJ6_bitCount_0f7a4 21 = .ok (.iand, 1) := by decide +kernel
theorem dJ6_bitCount_0f7a4_22 : decode cJ6_bitCount_0f7a4 22 = .ok (.iadd, 1) := by decide +kernel
theorem dJ6_bitCount_0f7a4_23 : decode cJ6_bitCount_0f7a4 23 = .ok (.istore_n 0, 1) := by decide +kernel
theorem dJ6_bitCount_0f7a4_24 : decode cJ6_bitCount_0f7a4 24 = .ok (.iload_n 0, 1) := by decide +kernel
theorem dJ6_bitCount_0f7a4_25 : decode cJ6_bitCount_0f7a4 25 = .ok (.iload_n 0, 1) := by decide +kernel
theorem dJ6_bitCount_0f7a4_26 : decode cJ6_bitCount_0f7a4 26 = .ok (.iconst 4, 1) := by decide +kernel
theorem dJ6_bitCount_0f7a4_27 : decode cJ6_bitCount_0f7a4 27 = .ok (.iushr, 1) := by decide +kernel
theorem dJ6_bitCount_0f7a4_28 : decode cJ6_bitCount_0f7a4 28 = .ok (.iadd, 1) := by decide +kernel
theorem dJ6_bitCount_0f7a4_29 : decode cJ6_bitCount_0f7a4 29 = .ok (.ldc_w 267, 3) := by decide +kernel
theorem dJ6_bitCount_0f7a4_32 : decode cJ6_bitCount_0f7a4 32 = .ok (.iand, 1) := by decide +kernel
theorem dJ6_bitCount_0f7a4_33 : decode cJ6_bitCount_0f7a4 33 = .ok (.istore_n 0, 1) := by decide +kernel
theorem dJ6_bitCount_0f7a4_34 : decode cJ6_bitCount_0f7a4 34 = .ok (.iload_n 0, 1) := by decide +kernel
theorem dJ6_bitCount_0f7a4_35 : decode cJ6_bitCount_0f7a4 35 = .ok (.iload_n 0, 1) := by decide +kernel
theorem dJ6_bitCount_0f7a4_36 : decode cJ6_bitCount_0f7a4 36 = .ok (.bipush 8, 2) := by decide +kernel
theorem dJ6_bitCount_0f7a4_38 : decode cJ6_bitCount_0f7a4 38 = .ok (.iushr, 1) := by decide +kernel
theorem dJ6_bitCount_0f7a4_39 : decode cJ6_bitCount_0f7a4 39 = .ok (.iadd, 1) := by decide +kernel
theorem dJ6_bitCount_0f7a4_40 : decode cJ6_bitCount_0f7a4 40 = .ok (.istore_n 0, 1) := by decide +kernel
theorem dJ6_bitCount_0f7a4_41 : decode cJ6_bitCount_0f7a4 41 = .ok (.iload_n 0, 1) := by decide +kernel
theorem dJ6_bitCount_0f7a4_42 : decode cJ6_bitCount_0f7a4 42 = .ok (.iload_n 0, 1) := by decide +kernel
theorem dJ6_bitCount_0f7a4_43 : decode cJ6_bitCount_0f7a4 43 = .ok (.bipush 16, 2) := by decide +kernel
theorem dJ6_bitCount_0f7a4_45 : decode cJ6_bitCount_0f7a4 45 = .ok (.iushr, 1) := by decide +kernel
theorem dJ6_bitCount_0f7a4_46 : decode cJ6_bitCount_0f7a4 46 = .ok (.iadd, 1) := by decide +kernel
theorem dJ6_bitCount_0f7a4_47 : decode cJ6_bitCount_0f7a4 47 = .ok (.istore_n 0, 1) := by decide +kernel
theorem dJ6_bitCount_0f7a4_48 : decode cJ6_bitCount_0f7a4 48 = .ok (.iload_n 0, 1) := by decide +kernel
theorem dJ6_bitCount_0f7a4_49 : decode cJ6_bitCount_0f7a4 49 = .ok (.bipush 63, 2) := by decide +kernel
theorem dJ6_bitCount_0f7a4_51 : decode cJ6_bitCount_0f7a4 51 = .ok (.iand, 1) := by decide +kernel
theorem dJ6_bitCount_0f7a4_52 : decode cJ6_bitCount_0f7a4 52 = .ok (.ireturn, 1) := by decide +kernel
theorem dJ9_max_7cf53_0 : decode cJ9_max_7cf53 0 = .ok (.iload_n 0, 1) := by decide +kernel
theorem dJ9_max_7cf53_1 : decode cJ9_max_7cf53 1 = .ok (.iload_n 1, 1) := by decide +kernel
theorem dJ9_max_7cf53_2 : decode cJ9_max_7cf53 2 = .ok (.if_icmp .lt 7, 3) := by decide +kernel
theorem dJ9_max_7cf53_5 : decode cJ9_max_7cf53 5 = .ok (.iload_n 0, 1) := by decide +kernel
theorem dJ9_max_7cf53_6 : decode cJ9_max_7cf53 6 = .ok (.goto 4, 3) := by decide +kernel
theorem dJ9_max_7cf53_9 : decode cJ9_max_7cf53 9 = .ok (.iload_n 1, 1) := by decide +kernel
theorem dJ9_max_7cf53_10 : decode cJ9_max_7cf53 10 = .ok (.ireturn, 1) := by decide +kernel
theorem dJ9_min_7cf53_0 : decode cJ9_min_7cf53 0 = .ok (.iload_n 0, 1) := by decide +kernel
theorem dJ9_min_7cf53_1 : decode cJ9_min_7cf53 1 = .ok (.iload_n 1, 1) := by decide +kernel
theorem dJ9_min_7cf53_2 : decode cJ9_min_7cf53 2 = .ok (.if_icmp .gt 7, 3) := by decide +kernel
theorem dJ9_min_7cf53_5 : decode cJ9_min_7cf53 5 = .ok (.iload_n 0, 1) := by decide +kernel
theorem dJ9_min_7cf53_6 : decode cJ9_min_7cf53 6 = .ok (.goto 4, 3) := by decide +kernel
theorem dJ9_min_7cf53_9 : decode cJ9_min_7cf53 9 = .ok (.iload_n 1, 1) := by decide +kernel
theorem dJ9_min_7cf53_10 : decode cJ9_min_7cf53 10 = .ok (.ireturn, 1) := by decide +kernel
theorem dJ0_length_8abf5_0 : decode cJ0_length_8abf5 0 = .ok (.aload_n 0, 1) := by decide +kernel
theorem dJ0_length_8abf5_1 : decode cJ0_length_8abf5 1 = .ok (.getfield 9, 3) := by decide +kernel
theorem dJ0_length_8abf5_4 : decode cJ0_length_8abf5 4 = .ok (.arraylength, 1) := by decide +kernel
theorem dJ0_length_8abf5_5 : decode cJ0_length_8abf5 5 = .ok (.aload_n 0, 1) := by decide +kernel
theorem dJ0_length_8abf5_6 : decode cJ0_length_8abf5 6 = .ok (.invokevirtual 335, 3) := by decide +kernel
theorem dJ0_length_8abf5_9 : decode cJ0_length_8abf5 9 = .ok (.ishr, 1) := by decide +kernel
theorem dJ0_length_8abf5_10 : decode cJ0_length_8abf5 10 = .ok (.ireturn, 1) := by decide +kernel
theorem dJ0_charAt_5068e_0 : decode cJ0_charAt_5068e 0 = .ok (.aload_n 0, 1) := by decide +kernel
theorem dJ0_charAt_5068e_1 : decode cJ0_charAt_5068e 1 = .ok (.invokevirtual 492, 3) := by decide +kernel
theorem dJ0_charAt_5068e_4 : decode cJ0_charAt_5068e 4 = .ok (.ifCond .eq 12, 3) := by decide +kernel
theorem dJ0_charAt_5068e_7 : decode cJ0_charAt_5068e 7 = .ok (.aload_n 0, 1) := by decide +kernel
theorem dJ0_charAt_5068e_8 : decode cJ0_charAt_5068e 8 = .ok (.getfield 9, 3) := by decide +kernel
theorem dJ0_charAt_5068e_11 : decode cJ0_charAt_5068e 11 = .ok (.iload_n 1, 1) := by decide +kernel
theorem dJ0_charAt_5068e_12 : decode cJ0_charAt_5068e 12 = .ok (.invokestatic 495, 3) := by decide +kernel
theorem dJ0_charAt_5068e_15 : decode cJ0_charAt_5068e 15 = .ok (.ireturn, 1) := by decide +kernel
theorem dJ0_charAt_5068e_16 : decode cJ0_charAt_5068e 16 = .ok (.aload_n 0, 1) := by decide +kernel
theorem dJ0_charAt_5068e_17 : decode cJ0_charAt_5068e 17 = .ok (.getfield 9, 3) := by decide +kernel
theorem dJ0_charAt_5068e_20 : decode cJ0_charAt_5068e 20 = .ok (.iload_n 1, 1) := by decide +kernel
theorem dJ0_charAt_5068e_21 : decode cJ0_charAt_5068e 21 = .ok (.invokestatic 498, 3) := by decide +kernel
theorem dJ0_charAt_5068e_24 : decode cJ0_charAt_5068e 24 = .ok (.ireturn, 1) := by decide +kernel
theorem dJ0_indexOf_0f7a4_0 : decode cJ0_indexOf_0f7a4 0 = .ok (.aload_n 0, 1) := by decide +kernel
theorem dJ0_indexOf_0f7a4_1 : decode cJ0_indexOf_0f7a4 1 = .ok (.iload_n 1, 1) := by decide +kernel
theorem dJ0_indexOf_0f7a4_2 : decode cJ0_indexOf_0f7a4 2 = .ok (.iconst 0, 1) := by decide +kernel
theorem dJ0_indexOf_0f7a4_3 : decode cJ0_indexOf_0f7a4 3 = .ok (.invokevirtual 633, 3) := by decide +kernel
theorem dJ0_indexOf_0f7a4_6 : decode cJ0_indexOf_0f7a4 6 = .ok (.ireturn, 1) := by decide +kernel
theorem dJ0_indexOf_7cf53_0 : decode cJ0_indexOf_7cf53 0 = .ok (.aload_n 0, 1) := by decide +kernel
theorem dJ0_indexOf_7cf53_1 : decode cJ0_indexOf_7cf53 1 = .ok (.invokevirtual 492, 3) := by decide +kernel
theorem dJ0_indexOf_7cf53_4 : decode cJ0_indexOf_7cf53 4 = .ok (.ifCond .eq 19, 3) := by decide +kernel
theorem dJ0_indexOf_7cf53_7 : decode cJ0_indexOf_7cf53 7 = .ok (.aload_n 0, 1) := by decide +kernel
theorem dJ0_indexOf_7cf53_8 : decode cJ0_indexOf_7cf53 8 = .ok (.getfield 9, 3) := by decide +kernel
theorem dJ0_indexOf_7cf53_11 : decode cJ0_indexOf_7cf53 11 = .ok (.iload_n 1, 1) := by decide +kernel
theorem dJ0_indexOf_7cf53_12 : decode cJ0_indexOf_7cf53 12 = .ok (.iload_n 2, 1) := by decide +kernel
theorem dJ0_indexOf_7cf53_13 : decode cJ0_indexOf_7cf53 13 = .ok (.aload_n 0, 1) := by decide +kernel
theorem dJ0_indexOf_7cf53_14 : decode cJ0_indexOf_7cf53 14 = .ok (.invokevirtual 505, 3) := by decide +kernel
theorem dJ0_indexOf_7cf53_17 : decode cJ0_indexOf_7cf53 17 = .ok (.invokestatic 637, 3) := by decide +kernel
theorem dJ0_indexOf_7cf53_20 : decode cJ0_indexOf_7cf53 20 = .ok (.goto 16, 3) := by decide +kernel
theorem dJ0_indexOf_7cf53_23 : decode cJ0_indexOf_7cf53 23 = .ok (.aload_n 0, 1) := by decide +kernel
theorem dJ0_indexOf_7cf53_24 : decode cJ0_indexOf_7cf53 24 = .ok (.getfield 9, 3) := by decide +kernel
theorem dJ0_indexOf_7cf53_27 : decode cJ0_indexOf_7cf53 27 = .ok (.iload_n 1, 1) := by decide +kernel
theorem dJ0_indexOf_7cf53_28 : decode cJ0_indexOf_7cf53 28 = .ok (.iload_n 2, 1) := by decide +kernel
theorem dJ0_indexOf_7cf53_29 : decode cJ0_indexOf_7cf53 29 = .ok (.aload_n 0, 1) := by decide +kernel
theorem dJ0_indexOf_7cf53_30 : decode cJ0_indexOf_7cf53 30 = .ok (.invokevirtual 505, 3) := by decide +kernel
theorem dJ0_indexOf_7cf53_33 : decode cJ0_indexOf_7cf53 33 = .ok (.invokestatic 640, 3) := by decide +kernel
theorem dJ0_indexOf_7cf53_36 : decode cJ0_indexOf_7cf53 36 = .ok (.ireturn, 1) := by decide +kernel
theorem dJ0_coder_7d493_0 : decode cJ0_coder_7d493 0 = .ok (.getstatic 38, 3) := by decide +kernel
theorem dJ0_coder_7d493_3 : decode cJ0_coder_7d493 3 = .ok (.ifCond .eq 10, 3) := by decide +kernel
theorem dJ0_coder_7d493_6 : decode cJ0_coder_7d493 6 = .ok (.aload_n 0, 1) := by decide +kernel
theorem dJ0_coder_7d493_7 : decode cJ0_coder_7d493 7 = .ok (.getfield 15, 3) := by decide +kernel
theorem dJ0_coder_7d493_10 : decode cJ0_coder_7d493 10 = .ok (.goto 4, 3) := by decide +kernel
theorem dJ0_coder_7d493_13 : decode cJ0_coder_7d493 13 = .ok (.iconst 1, 1) := by decide +kernel
theorem dJ0_coder_7d493_14 : decode cJ0_coder_7d493 14 = .ok (.ireturn, 1) := by decide +kernel
theorem dJ0_isLatin1_aae02_0 : decode cJ0_isLatin1_aae02 0 = .ok (.getstatic 38, 3) := by decide +kernel
theorem dJ0_isLatin1_aae02_3 : decode cJ0_isLatin1_aae02 3 = .ok (.ifCond .eq 14, 3) := by decide +kernel
theorem dJ0_isLatin1_aae02_6 : decode cJ0_isLatin1_aae02 6 = .ok (.aload_n 0, 1) := by decide +kernel
theorem dJ0_isLatin1_aae02_7 : decode cJ0_isLatin1_aae02 7 = .ok (.getfield 15, 3) := by decide +kernel
theorem dJ0_isLatin1_aae02_10 : decode cJ0_isLatin1_aae02 10 = .ok (.ifCond .ne 7, 3) := by decide +kernel
theorem dJ0_isLatin1_aae02_13 : decode cJ0_isLatin1_aae02 13 = .ok (.iconst 1, 1) := by decide +kernel
theorem dJ0_isLatin1_aae02_14 : decode cJ0_isLatin1_aae02 14 = .ok (.goto 4, 3) := by decide +kernel
theorem dJ0_isLatin1_aae02_17 : decode cJ0_isLatin1_aae02 17 = .ok (.iconst 0, 1) := by decide +kernel
theorem dJ0_isLatin1_aae02_18 : decode cJ0_isLatin1_aae02 18 = .ok (.ireturn, 1) := by decide +kernel
theorem dJ0_checkIndex_df160_0 : decode cJ0_checkIndex_df160 0 = .ok (.iload_n 0, 1) := by decide +kernel
theorem dJ0_checkIndex_df160_1 : decode cJ0_checkIndex_df160 1 = .ok (.iload_n 1, 1) := by decide +kernel
theorem dJ0_checkIndex_df160_2 : decode cJ0_checkIndex_df160 2 = .ok (.getstatic 1053, 3) := by decide +kernel
theorem dJ0_checkIndex_df160_5 : decode cJ0_checkIndex_df160 5 = .ok (.invokestatic 1059, 3) := by decide +kernel
theorem dJ0_checkIndex_df160_8 : decode cJ0_checkIndex_df160 8 = .ok (.pop, 1) := by decide +kernel
theorem dJ0_checkIndex_df160_9 : decode cJ0_checkIndex_df160 9 = .ok (.return_, 1) := by decide +kernel
theorem dJ0_checkBoundsBeginEnd_23922_0 : decode cJ0_checkBoundsBeginEnd_23922 0 = .ok (.iload_n 0, 1) := by decide +kernel
theorem dJ0_checkBoundsBeginEnd_23922_1 : decode cJ0_checkBoundsBeginEnd_23922 1 = .ok (.iload_n 1, 1) := by decide +kernel
theorem dJ0_checkBoundsBeginEnd_23922_2 : decode cJ0_checkBoundsBeginEnd_23922 2 = .ok (.iload_n 2, 1) := by decide +kernel
theorem dJ0_checkBoundsBeginEnd_23922_3 : decode cJ0_checkBoundsBeginEnd_23922 3 = .ok (.getstatic 1053, 3) := by decide +kernel
theorem dJ0_checkBoundsBeginEnd_23922_6 : decode cJ0_checkBoundsBeginEnd_23922 6 = .ok (.invokestatic 1062, 3) := by decide +kernel
theorem dJ0_checkBoundsBeginEnd_23922_9 : decode cJ0_checkBoundsBeginEnd_23922 9 = .ok (.pop, 1) := by decide +kernel
theorem dJ0_checkBoundsBeginEnd_23922_10 : decode cJ0_checkBoundsBeginEnd_23922 10 = .ok (.return_, 1) := by decide +kernel
theorem dJ1_charAt_3b067_0 : decode cJ1_charAt_3b067 0 = .ok (.iload_n 1, 1) := by decide +kernel
theorem dJ1_charAt_3b067_1 : decode cJ1_charAt_3b067 1 = .ok (.aload_n 0, 1) := by decide +kernel
theorem dJ1_charAt_3b067_2 : decode cJ1_charAt_3b067 2 = .ok (.arraylength, 1) := by decide +kernel
theorem dJ1_charAt_3b067_3 : decode cJ1_charAt_3b067 3 = .ok (.invokestatic 9, 3) := by decide +kernel
theorem dJ1_charAt_3b067_6 : decode cJ1_charAt_3b067 6 = .ok (.aload_n 0, 1) := by decide +kernel
theorem dJ1_charAt_3b067_7 : decode cJ1_charAt_3b067 7 = .ok (.iload_n 1, 1) := by decide +kernel
theorem dJ1_charAt_3b067_8 : decode cJ1_charAt_3b067 8 = .ok (.baload, 1) := by decide +kernel
theorem dJ1_charAt_3b067_9 : decode cJ1_charAt_3b067 9 = .ok (.sipush 255, 3) := by decide +kernel
theorem dJ1_charAt_3b067_12 : decode cJ1_charAt_3b067 12 = .ok (.iand, 1) := by decide +kernel
theorem dJ1_charAt_3b067_13 : decode cJ1_charAt_3b067 13 = .ok (.i2c, 1) := by decide +kernel
theorem dJ1_charAt_3b067_14 : decode cJ1_charAt_3b067 14 = .ok (.ireturn, 1) := by decide +kernel
theorem dJ1_canEncode_9a6ad_0 : decode cJ1_canEncode_9a6ad 0 = .ok (.iload_n 0, 1) := by decide +kernel
theorem dJ1_canEncode_9a6ad_1 : decode cJ1_canEncode_9a6ad 1 = .ok (.ifCond .lt 14, 3) := by decide +kernel
theorem dJ1_canEncode_9a6ad_4 : decode cJ1_canEncode_9a6ad 4 = .ok (.iload_n 0, 1) := by decide +kernel
theorem dJ1_canEncode_9a6ad_5 : decode cJ1_canEncode_9a6ad 5 = .ok (.sipush 255, 3) := by decide +kernel
theorem dJ1_canEncode_9a6ad_8 : decode cJ1_canEncode_9a6ad 8 = .ok (.if_icmp .gt 7, 3) := by decide +kernel
theorem dJ1_canEncode_9a6ad_11 : decode cJ1_canEncode_9a6ad 11 = .ok (.iconst 1, 1) := by decide +kernel
theorem dJ1_canEncode_9a6ad_12 : decode cJ1_canEncode_9a6ad 12 = .ok (.goto 4, 3) := by decide +kernel
theorem dJ1_canEncode_9a6ad_15 : decode cJ1_canEncode_9a6ad 15 = .ok (.iconst 0, 1) := by decide +kernel
theorem dJ1_canEncode_9a6ad_16 : decode cJ1_canEncode_9a6ad 16 = .ok (.ireturn, 1) := by decide +kernel
theorem dJ1_indexOf_4cfef_0 : decode cJ1_indexOf_4cfef 0 = .ok (.iload_n 1, 1) := by decide +kernel
theorem dJ1_indexOf_4cfef_1 : decode cJ1_indexOf_4cfef 1 = .ok (.invokestatic 88, 3) := by decide +kernel
theorem dJ1_indexOf_4cfef_4 : decode cJ1_indexOf_4cfef 4 = .ok (.ifCond .ne 5, 3) := by decide +kernel
theorem dJ1_indexOf_4cfef_7 : decode cJ1_indexOf_4cfef 7 = .ok (.iconst (-1), 1) := by decide +kernel
theorem dJ1_indexOf_4cfef_8 : decode cJ1_indexOf_4cfef 8 = .ok (.ireturn, 1) := by decide +kernel
theorem dJ1_indexOf_4cfef_9 : decode cJ1_indexOf_4cfef 9 = .ok (.iload_n 2, 1) := by decide +kernel
theorem dJ1_indexOf_4cfef_10 : decode cJ1_indexOf_4cfef 10 = .ok (.iconst 0, 1) := by decide +kernel
theorem dJ1_indexOf_4cfef_11 : decode cJ1_indexOf_4cfef 11 = .ok (.invokestatic 92, 3) := by decide +kernel
theorem dJ1_indexOf_4cfef_14 : decode cJ1_indexOf_4cfef 14 = .ok (.istore_n 2, 1) := by decide +kernel
theorem dJ1_indexOf_4cfef_15 : decode cJ1_indexOf_4cfef 15 = .ok (.iload_n 3, 1) := by decide +kernel
theorem dJ1_indexOf_4cfef_16 : decode cJ1_indexOf_4cfef 16 = .ok (.aload_n 0, 1) := by decide +kernel
theorem dJ1_indexOf_4cfef_17 : decode cJ1_indexOf_4cfef 17 = .ok (.arraylength, 1) := by decide +kernel
theorem dJ1_indexOf_4cfef_18 : decode cJ1_indexOf_4cfef 18 = .ok (.invokestatic 38, 3) := by decide +kernel
theorem dJ1_indexOf_4cfef_21 : decode cJ1_indexOf_4cfef 21 = .ok (.istore_n 3, 1) := by decide +kernel
theorem dJ1_indexOf_4cfef_22 : decode cJ1_indexOf_4cfef 22 = .ok (.iload_n 2, 1) := by decide +kernel
theorem dJ1_indexOf_4cfef_23 : decode cJ1_indexOf_4cfef 23 = .ok (.iload_n 3, 1) := by decide +kernel
theorem dJ1_indexOf_4cfef_24 : decode cJ1_indexOf_4cfef 24 = .ok (.if_icmp .lt 5, 3) := by decide +kernel
theorem dJ1_indexOf_4cfef_27 : decode cJ1_indexOf_4cfef 27 = .ok (.iconst (-1), 1) := by decide +kernel
theorem dJ1_indexOf_4cfef_28 : decode cJ1_indexOf_4cfef 28 = .ok (.ireturn, 1) := by decide +kernel
theorem dJ1_indexOf_4cfef_29 : decode cJ1_indexOf_4cfef 29 = .ok (.aload_n 0, 1) := by decide +kernel
theorem dJ1_indexOf_4cfef_30 : decode cJ1_indexOf_4cfef 30 = .ok (.iload_n 1, 1) := by decide +kernel
theorem dJ1_indexOf_4cfef_31 : decode cJ1_indexOf_4cfef 31 = .ok (.iload_n 2, 1) := by decide +kernel
theorem dJ1_indexOf_4cfef_32 : decode cJ1_indexOf_4cfef 32 = .ok (.iload_n 3, 1) := by decide +kernel
theorem dJ1_indexOf_4cfef_33 : decode cJ1_indexOf_4cfef 33 = .ok (.invokestatic 95, 3) := by decide +kernel
theorem dJ1_indexOf_4cfef_36 : decode cJ1_indexOf_4cfef 36 = .ok (.ireturn, 1) := by decide +kernel
theorem dJ1_indexOfChar_4cfef_0 : decode cJ1_indexOfChar_4cfef 0 = .ok (.iload_n 1, 1) := by decide +kernel
theorem dJ1_indexOfChar_4cfef_1 : decode cJ1_indexOfChar_4cfef 1 = .ok (.i2b, 1) := by decide +kernel
theorem dJ1_indexOfChar_4cfef_2 : decode cJ1_indexOfChar_4cfef 2 = .ok (.istore 4, 2) := by decide +kernel
theorem dJ1_indexOfChar_4cfef_4 : decode cJ1_indexOfChar_4cfef 4 = .ok (.iload_n 2, 1) := by decide +kernel
theorem dJ1_indexOfChar_4cfef_5 : decode cJ1_indexOfChar_4cfef 5 = .ok (.istore 5, 2) := by decide +kernel
theorem dJ1_indexOfChar_4cfef_7 : decode cJ1_indexOfChar_4cfef 7 = .ok (.iload 5, 2) := by decide +kernel
theorem dJ1_indexOfChar_4cfef_9 : decode cJ1_indexOfChar_4cfef 9 = .ok (.iload_n 3, 1) := by decide +kernel
theorem dJ1_indexOfChar_4cfef_10 : decode cJ1_indexOfChar_4cfef 10 = .ok (.if_icmp .ge 21, 3) := by decide +kernel
theorem dJ1_indexOfChar_4cfef_13 : decode cJ1_indexOfChar_4cfef 13 = .ok (.aload_n 0, 1) := by decide +kernel
theorem dJ1_indexOfChar_4cfef_14 : decode cJ1_indexOfChar_4cfef 14 = .ok (.iload 5, 2) := by decide +kernel
theorem dJ1_indexOfChar_4cfef_16 : decode cJ1_indexOfChar_4cfef 16 = .ok (.baload, 1) := by decide +kernel
theorem dJ1_indexOfChar_4cfef_17 : decode cJ1_indexOfChar_4cfef 17 = .ok (.iload 4, 2) := by decide +kernel
theorem dJ1_indexOfChar_4cfef_19 : decode cJ1_indexOfChar_4cfef 19 = .ok (.if_icmp .ne 6, 3) := by decide +kernel
theorem dJ1_indexOfChar_4cfef_22 : decode cJ1_indexOfChar_4cfef 22 = .ok (.iload 5, 2) := by decide +kernel
theorem dJ1_indexOfChar_4cfef_24 : decode cJ1_indexOfChar_4cfef 24 = .ok (.ireturn, 1) := by decide +kernel
theorem dJ1_indexOfChar_4cfef_25 : decode cJ1_indexOfChar_4cfef 25 = .ok (.iinc 5 1, 3) := by decide +kernel
theorem dJ1_indexOfChar_4cfef_28 : decode cJ1_indexOfChar_4cfef 28 = .ok (.goto (-21), 3) := by decide +kernel
theorem dJ1_indexOfChar_4cfef_31 : decode cJ1_indexOfChar_4cfef 31 = .ok (.iconst (-1), 1) := by decide +kernel
theorem dJ1_indexOfChar_4cfef_32 : decode cJ1_indexOfChar_4cfef 32 = .ok (.ireturn, 1) := by decide +kernel
theorem dJ2_getChar_3b067_0 : decode cJ2_getChar_3b067 0 = .ok (.getstatic 44, 3) := by decide +kernel
theorem dJ2_getChar_3b067_3 : decode cJ2_getChar_3b067 3 = .ok (.ifCond .ne 25, 3) := by decide +kernel
theorem dJ2_getChar_3b067_6 : decode cJ2_getChar_3b067 6 = .ok (.iload_n 1, 1) := by decide +kernel
theorem dJ2_getChar_3b067_7 : decode cJ2_getChar_3b067 7 = .ok (.ifCond .lt 11, 3) := by decide +kernel
theorem dJ2_getChar_3b067_10 : decode cJ2_getChar_3b067 10 = .ok (.iload_n 1, 1) := by decide +kernel
theorem dJ2_getChar_3b067_11 : decode cJ2_getChar_3b067 11 = .ok (.aload_n 0, 1) := by decide +kernel
theorem dJ2_getChar_3b067_12 : decode cJ2_getChar_3b067 12 = .ok (.invokestatic 48, 3) := by decide +kernel
theorem dJ2_getChar_3b067_15 : decode cJ2_getChar_3b067 15 = .ok (.if_icmp .lt 13, 3) := by decide +kernel
theorem dJ2_getChar_3b067_18 : decode cJ2_getChar_3b067 18 = .ok (.new 52, 3) := by decide +kernel
theorem dJ2_getChar_3b067_21 : decode cJ2_getChar_3b067 21 = .ok (.dup, 1) := by decide +kernel
theorem dJ2_getChar_3b067_22 : decode cJ2_getChar_3b067 22 = .ok (.ldc 54, 2) := by decide +kernel
theorem dJ2_getChar_3b067_24 : decode cJ2_getChar_3b067 24 = .ok (.invokespecial 56, 3) := by decide +kernel
theorem dJ2_getChar_3b067_27 : decode cJ2_getChar_3b067 27 = .ok (.athrow, 1) := by decide +kernel
theorem dJ2_getChar_3b067_28 : decode cJ2_getChar_3b067 28 = .ok (.iload_n 1, 1) := by decide +kernel
theorem dJ2_getChar_3b067_29 : decode cJ2_getChar_3b067 29 = .ok (.iconst 1, 1) := by decide +kernel
theorem dJ2_getChar_3b067_30 : decode cJ2_getChar_3b067 30 = .ok (.ishl, 1) := by decide +kernel
theorem dJ2_getChar_3b067_31 : decode cJ2_getChar_3b067 31 = .ok (.istore_n 1, 1) := by decide +kernel
theorem dJ2_getChar_3b067_32 : decode cJ2_getChar_3b067 32 = .ok (.aload_n 0, 1) := by decide +kernel
theorem dJ2_getChar_3b067_33 : decode cJ2_getChar_3b067 33 = .ok (.iload_n 1, 1) := by decide +kernel
theorem dJ2_getChar_3b067_34 : decode cJ2_getChar_3b067 34 = .ok (.iinc 1 1, 3) := by decide +kernel
theorem dJ2_getChar_3b067_37 : decode cJ2_getChar_3b067 37 = .ok (.baload, 1) := by decide +kernel
theorem dJ2_getChar_3b067_38 : decode cJ2_getChar_3b067 38 = .ok (.sipush 255, 3) := by decide +kernel
theorem dJ2_getChar_3b067_41 : decode cJ2_getChar_3b067 41 = .ok (.iand, 1) := by decide +kernel
theorem dJ2_getChar_3b067_42 : decode cJ2_getChar_3b067 42 = .ok (.getstatic 59, 3) := by decide +kernel
theorem dJ2_getChar_3b067_45 : decode cJ2_getChar_3b067 45 = .ok (.ishl, 1) := by decide +kernel
theorem dJ2_getChar_3b067_46 : decode cJ2_getChar_3b067 46 = .ok (.aload_n 0, 1) := by decide +kernel
theorem dJ2_getChar_3b067_47 : decode cJ2_getChar_3b067 47 = .ok (.iload_n 1, 1) := by decide +kernel
theorem dJ2_getChar_3b067_48 : decode cJ2_getChar_3b067 48 = .ok (.baload, 1) := by decide +kernel
theorem dJ2_getChar_3b067_49 : decode cJ2_getChar_3b067 49 = .ok (.sipush 255, 3) := by decide +kernel
theorem dJ2_getChar_3b067_52 : decode cJ2_getChar_3b067 52 = .ok (.iand, 1) := by decide +kernel
theorem dJ2_getChar_3b067_53 : decode cJ2_getChar_3b067 53 = .ok (.getstatic 63, 3) := by decide +kernel
theorem dJ2_getChar_3b067_56 : decode cJ2_getChar_3b067 56 = .ok (.ishl, 1) := by decide +kernel
theorem dJ2_getChar_3b067_57 : decode cJ2_getChar_3b067 57 = .ok (.ior, 1) := by decide +kernel
theorem dJ2_getChar_3b067_58 : decode cJ2_getChar_3b067 58 = .ok (.i2c, 1) := by decide +kernel
theorem dJ2_getChar_3b067_59 : decode cJ2_getChar_3b067 59 = .ok (.ireturn, 1) := by decide +kernel
theorem dJ2_length_9d52b_0 : decode cJ2_length_9d52b 0 = .ok (.aload_n 0, 1) := by decide +kernel
theorem dJ2_length_9d52b_1 : decode cJ2_length_9d52b 1 = .ok (.arraylength, 1) := by decide +kernel
theorem dJ2_length_9d52b_2 : decode cJ2_length_9d52b 2 = .ok (.iconst 1, 1) := by decide +kernel
theorem dJ2_length_9d52b_3 : decode cJ2_length_9d52b 3 = .ok (.ishr, 1) := by decide +kernel
theorem dJ2_length_9d52b_4 : decode cJ2_length_9d52b 4 = .ok (.ireturn, 1) := by decide +kernel
theorem dJ2_indexOf_4cfef_0 : decode cJ2_indexOf_4cfef 0 = .ok (.iload_n 2, 1) := by decide +kernel
theorem dJ2_indexOf_4cfef_1 : decode cJ2_indexOf_4cfef 1 = .ok (.iconst 0, 1) := by decide +kernel
theorem dJ2_indexOf_4cfef_2 : decode cJ2_indexOf_4cfef 2 = .ok (.invokestatic 224, 3) := by decide +kernel
theorem dJ2_indexOf_4cfef_5 : decode cJ2_indexOf_4cfef 5 = .ok (.istore_n 2, 1) := by decide +kernel
theorem dJ2_indexOf_4cfef_6 : decode cJ2_indexOf_4cfef 6 = .ok (.iload_n 3, 1) := by decide +kernel
theorem dJ2_indexOf_4cfef_7 : decode cJ2_indexOf_4cfef 7 = .ok (.aload_n 0, 1) := by decide +kernel
theorem dJ2_indexOf_4cfef_8 : decode cJ2_indexOf_4cfef 8 = .ok (.arraylength, 1) := by decide +kernel
theorem dJ2_indexOf_4cfef_9 : decode cJ2_indexOf_4cfef 9 = .ok (.iconst 1, 1) := by decide +kernel
theorem dJ2_indexOf_4cfef_10 : decode cJ2_indexOf_4cfef 10 = .ok (.ishr, 1) := by decide +kernel
theorem dJ2_indexOf_4cfef_11 : decode cJ2_indexOf_4cfef 11 = .ok (.invokestatic 183, 3) := by decide +kernel
theorem dJ2_indexOf_4cfef_14 : decode cJ2_indexOf_4cfef 14 = .ok (.istore_n 3, 1) := by decide +kernel
theorem dJ2_indexOf_4cfef_15 : decode cJ2_indexOf_4cfef 15 = .ok (.iload_n 2, 1) := by decide +kernel
theorem dJ2_indexOf_4cfef_16 : decode cJ2_indexOf_4cfef 16 = .ok (.iload_n 3, 1) := by decide +kernel
theorem dJ2_indexOf_4cfef_17 : decode cJ2_indexOf_4cfef 17 = .ok (.if_icmp .lt 5, 3) := by decide +kernel
theorem dJ2_indexOf_4cfef_20 : decode cJ2_indexOf_4cfef 20 = .ok (.iconst (-1), 1) := by decide +kernel
theorem dJ2_indexOf_4cfef_21 : decode cJ2_indexOf_4cfef 21 = .ok (.ireturn, 1) := by decide +kernel
theorem dJ2_indexOf_4cfef_22 : decode cJ2_indexOf_4cfef 22 = .ok (.iload_n 1, 1) := by decide +kernel
theorem dJ2_indexOf_4cfef_23 : decode cJ2_indexOf_4cfef 23 = .ok (.ldc 227, 2) := by decide +kernel
theorem dJ2_indexOf_4cfef_25 : decode cJ2_indexOf_4cfef 25 = .ok (.if_icmp .ge 11, 3) := by decide +kernel
theorem dJ2_indexOf_4cfef_28 : decode cJ2_indexOf_4cfef 28 = .ok (.aload_n 0, 1) := by decide +kernel
theorem dJ2_indexOf_4cfef_29 : decode cJ2_indexOf_4cfef 29 = .ok (.iload_n 1, 1) := by decide +kernel
theorem dJ2_indexOf_4cfef_30 : decode cJ2_indexOf_4cfef 30 = .ok (.iload_n 2, 1) := by decide +kernel
theorem dJ2_indexOf_4cfef_31 : decode cJ2_indexOf_4cfef 31 = .ok (.iload_n 3, 1) := by decide +kernel
theorem dJ2_indexOf_4cfef_32 : decode cJ2_indexOf_4cfef 32 = .ok (.invokestatic 228, 3) := by decide +kernel
theorem dJ2_indexOf_4cfef_35 : decode cJ2_indexOf_4cfef 35 = .ok (.ireturn, 1) := by decide +kernel
theorem dJ2_indexOf_4cfef_36 : decode cJ2_indexOf_4cfef 36 = .ok (.aload_n 0, 1) := by decide +kernel
theorem dJ2_indexOf_4cfef_37 : decode cJ2_indexOf_4cfef 37 = .ok (.iload_n 1, 1) := by decide +kernel
theorem dJ2_indexOf_4cfef_38 : decode cJ2_indexOf_4cfef 38 = .ok (.iload_n 2, 1) := by decide +kernel
theorem dJ2_indexOf_4cfef_39 : decode cJ2_indexOf_4cfef 39 = .ok (.iload_n 3, 1) := by decide +kernel
theorem dJ2_indexOf_4cfef_40 : decode cJ2_indexOf_4cfef 40 = .ok (.invokestatic 232, 3) := by decide +kernel
theorem dJ2_indexOf_4cfef_43 : decode cJ2_indexOf_4cfef 43 = .ok (.ireturn, 1) := by decide +kernel
theorem dJ2_indexOfChar_4cfef_0 : decode cJ2_indexOfChar_4cfef 0 = .ok (.iload_n 2, 1) := by decide +kernel
theorem dJ2_indexOfChar_4cfef_1 : decode cJ2_indexOfChar_4cfef 1 = .ok (.iload_n 3, 1) := by decide +kernel
theorem dJ2_indexOfChar_4cfef_2 : decode cJ2_indexOfChar_4cfef 2 = .ok (.aload_n 0, 1) := by decide +kernel
theorem dJ2_indexOfChar_4cfef_3 : decode cJ2_indexOfChar_4cfef 3 = .ok (.invokestatic 96, 3) := by decide +kernel
theorem dJ2_indexOfChar_4cfef_6 : decode cJ2_indexOfChar_4cfef 6 = .ok (.aload_n 0, 1) := by decide +kernel
theorem dJ2_indexOfChar_4cfef_7 : decode cJ2_indexOfChar_4cfef 7 = .ok (.iload_n 1, 1) := by decide +kernel
theorem dJ2_indexOfChar_4cfef_8 : decode cJ2_indexOfChar_4cfef 8 = .ok (.iload_n 2, 1) := by decide +kernel
theorem dJ2_indexOfChar_4cfef_9 : decode cJ2_indexOfChar_4cfef 9 = .ok (.iload_n 3, 1) := by decide +kernel
theorem dJ2_indexOfChar_4cfef_10 : decode cJ2_indexOfChar_4cfef 10 = .ok (.invokestatic 244, 3) := by decide +kernel
theorem dJ2_indexOfChar_4cfef_13 : decode cJ2_indexOfChar_4cfef 13 = .ok (.ireturn, 1) := by decide +kernel
theorem dJ2_indexOfCharUnsafe_4cfef_0 : decode cJ2_indexOfCharUnsafe_4cfef 0 = .ok (.iload_n 2, 1) := by decide +kernel
theorem dJ2_indexOfCharUnsafe_4cfef_1 : decode cJ2_indexOfCharUnsafe_4cfef 1 = .ok (.istore 4, 2) := by decide +kernel
theorem dJ2_indexOfCharUnsafe_4cfef_3 : decode cJ2_indexOfCharUnsafe_4cfef 3 = .ok (.iload 4, 2) := by decide +kernel
theorem dJ2_indexOfCharUnsafe_4cfef_5 : decode cJ2_indexOfCharUnsafe_4cfef 5 = .ok (.iload_n 3, 1) := by decide +kernel
theorem dJ2_indexOfCharUnsafe_4cfef_6 : decode cJ2_indexOfCharUnsafe_4cfef 6 = .ok (.if_icmp .ge 22, 3) := by decide +kernel
theorem dJ2_indexOfCharUnsafe_4cfef_9 : decode cJ2_indexOfCharUnsafe_4cfef 9 = .ok (.aload_n 0, 1) := by decide +kernel
theorem dJ2_indexOfCharUnsafe_4cfef_10 : decode cJ2_indexOfCharUnsafe_4cfef 10 = .ok (.iload 4, 2) := by decide +kernel
theorem dJ2_indexOfCharUnsafe_4cfef_12 : decode cJ2_indexOfCharUnsafe_4cfef 12 = .ok (.invokestatic 71, 3) := by decide +kernel
theorem dJ2_indexOfCharUnsafe_4cfef_15 : decode cJ2_indexOfCharUnsafe_4cfef 15 = .ok (.iload_n 1, 1) := by decide +kernel
theorem dJ2_indexOfCharUnsafe_4cfef_16 : decode cJ2_indexOfCharUnsafe_4cfef 16 = .ok (.if_icmp .ne 6, 3) := by decide +kernel
theorem dJ2_indexOfCharUnsafe_4cfef_19 : decode cJ2_indexOfCharUnsafe_4cfef 19 = .ok (.iload 4, 2) := by decide +kernel
theorem dJ2_indexOfCharUnsafe_4cfef_21 : decode cJ2_indexOfCharUnsafe_4cfef 21 = .ok (.ireturn, 1) := by decide +kernel
theorem dJ2_indexOfCharUnsafe_4cfef_22 : decode cJ2_indexOfCharUnsafe_4cfef 22 = .ok (.iinc 4 1, 3) := by decide +kernel
theorem dJ2_indexOfCharUnsafe_4cfef_25 : decode cJ2_indexOfCharUnsafe_4cfef 25 = .ok (.goto (-22), 3) := by decide +kernel
theorem dJ2_indexOfCharUnsafe_4cfef_28 : decode cJ2_indexOfCharUnsafe_4cfef 28 = .ok (.iconst (-1), 1) := by decide +kernel
theorem dJ2_indexOfCharUnsafe_4cfef_29 : decode cJ2_indexOfCharUnsafe_4cfef 29 = .ok (.ireturn, 1) := by decide +kernel
theorem dJ2_indexOfSupplementary_4cfef_0 : decode cJ2_indexOfSupplementary_4cfef 0 = .ok (.iload_n 1, 1) := by decide +kernel
theorem dJ2_indexOfSupplementary_4cfef_1 : decode cJ2_indexOfSupplementary_4cfef 1 = .ok (.invokestatic 164, 3) := by decide +kernel
theorem dJ2_indexOfSupplementary_4cfef_4 : decode cJ2_indexOfSupplementary_4cfef 4 = .ok (.ifCond .eq 65, 3) := by decide +kernel
theorem dJ2_indexOfSupplementary_4cfef_7 : decode cJ2_indexOfSupplementary_4cfef 7 = .ok (.iload_n 1, 1) := by decide +kernel
theorem dJ2_indexOfSupplementary_4cfef_8 : decode cJ2_indexOfSupplementary_4cfef 8 = .ok (.invokestatic 157, 3) := by decide +kernel
theorem dJ2_indexOfSupplementary_4cfef_11 : decode cJ2_indexOfSupplementary_4cfef 11 = .ok (.istore 4, 2) := by decide +kernel
theorem dJ2_indexOfSupplementary_4cfef_13 : decode cJ2_indexOfSupplementary_4cfef 13 = .ok (.iload_n 1, 1) := by decide +kernel
theorem dJ2_indexOfSupplementary_4cfef_14 : decode cJ2_indexOfSupplementary_4cfef 14 = .ok (.invokestatic 161, 3) := by decide +kernel
theorem dJ2_indexOfSupplementary_4cfef_17 : decode cJ2_indexOfSupplementary_4cfef 17 = .ok (.istore 5, 2) := by decide +kernel
theorem dJ2_indexOfSupplementary_4cfef_19 : decode cJ2_indexOfSupplementary_4cfef 19 = .ok (.iload_n 2, 1) := by decide +kernel
theorem dJ2_indexOfSupplementary_4cfef_20 : decode cJ2_indexOfSupplementary_4cfef 20 = .ok (.iload_n 3, 1) := by decide +kernel
theorem dJ2_indexOfSupplementary_4cfef_21 : decode cJ2_indexOfSupplementary_4cfef 21 = .ok (.aload_n 0, 1) := by decide +kernel
theorem dJ2_indexOfSupplementary_4cfef_22 : decode cJ2_indexOfSupplementary_4cfef 22 = .ok (.invokestatic 96, 3) := by decide +kernel
theorem dJ2_indexOfSupplementary_4cfef_25 : decode cJ2_indexOfSupplementary_4cfef 25 = .ok (.iload_n 2, 1) := by decide +kernel
theorem dJ2_indexOfSupplementary_4cfef_26 : decode cJ2_indexOfSupplementary_4cfef 26 = .ok (.istore 6, 2) := by decide +kernel
theorem dJ2_indexOfSupplementary_4cfef_28 : decode cJ2_indexOfSupplementary_4cfef 28 = .ok (.iload 6, 2) := by decide +kernel
theorem dJ2_indexOfSupplementary_4cfef_30 : decode cJ2_indexOfSupplementary_4cfef 30 = .ok (.iload_n 3, 1) := by decide +kernel
theorem dJ2_indexOfSupplementary_4cfef_31 : decode cJ2_indexOfSupplementary_4cfef 31 = .ok (.iconst 1, 1) := by decide +kernel
theorem dJ2_indexOfSupplementary_4cfef_32 : decode cJ2_indexOfSupplementary_4cfef 32 = .ok (.isub, 1) := by decide +kernel
theorem dJ2_indexOfSupplementary_4cfef_33 : decode cJ2_indexOfSupplementary_4cfef 33 = .ok (.if_icmp .ge 36, 3) := by decide +kernel
theorem dJ2_indexOfSupplementary_4cfef_36 : decode cJ2_indexOfSupplementary_4cfef 36 = .ok (.aload_n 0, 1) := by decide +kernel
theorem dJ2_indexOfSupplementary_4cfef_37 : decode cJ2_indexOfSupplementary_4cfef 37 = .ok (.iload 6, 2) := by decide +kernel
theorem dJ2_indexOfSupplementary_4cfef_39 : decode cJ2_indexOfSupplementary_4cfef 39 = .ok (.invokestatic 71, 3) := by decide +kernel
theorem dJ2_indexOfSupplementary_4cfef_42 : decode cJ2_indexOfSupplementary_4cfef 42 = .ok (.iload 4, 2) := by decide +kernel
theorem dJ2_indexOfSupplementary_4cfef_44 : decode cJ2_indexOfSupplementary_4cfef 44 = .ok (.if_icmp .ne 19, 3) := by decide +kernel
theorem dJ2_indexOfSupplementary_4cfef_47 : decode cJ2_indexOfSupplementary_4cfef 47 = .ok (.aload_n 0, 1) := by decide +kernel
theorem dJ2_indexOfSupplementary_4cfef_48 : decode cJ2_indexOfSupplementary_4cfef 48 = .ok (.iload 6, 2) := by decide +kernel
theorem dJ2_indexOfSupplementary_4cfef_50 : decode cJ2_indexOfSupplementary_4cfef 50 = .ok (.iconst 1, 1) := by decide +kernel
theorem dJ2_indexOfSupplementary_4cfef_51 : decode cJ2_indexOfSupplementary_4cfef 51 = .ok (.iadd, 1) := by decide +kernel
theorem dJ2_indexOfSupplementary_4cfef_52 : decode cJ2_indexOfSupplementary_4cfef 52 = .ok (.invokestatic 71, 3) := by decide +kernel
theorem dJ2_indexOfSupplementary_4cfef_55 : decode cJ2_indexOfSupplementary_4cfef 55 = .ok (.iload 5, 2) := by decide +kernel
theorem dJ2_indexOfSupplementary_4cfef_57 : decode cJ2_indexOfSupplementary_4cfef 57 = .ok (.if_icmp .ne 6, 3) := by decide +kernel
theorem dJ2_indexOfSupplementary_4cfef_60 : decode cJ2_indexOfSupplementary_4cfef 60 = .ok (.iload 6, 2) := by decide +kernel
theorem dJ2_indexOfSupplementary_4cfef_62 : decode cJ2_indexOfSupplementary_4cfef 62 = .ok (.ireturn, 1) := by decide +kernel
theorem dJ2_indexOfSupplementary_4cfef_63 : decode cJ2_indexOfSupplementary_4cfef 63 = .ok (.iinc 6 1, 3) := by decide +kernel
theorem dJ2_indexOfSupplementary_4cfef_66 : decode cJ2_indexOfSupplementary_4cfef 66 = .ok (.goto (-38), 3) := by decide +kernel
theorem dJ2_indexOfSupplementary_4cfef_69 : decode cJ2_indexOfSupplementary_4cfef 69 = .ok (.iconst (-1), 1) := by decide +kernel
theorem dJ2_indexOfSupplementary_4cfef_70 : decode cJ2_indexOfSupplementary_4cfef 70 = .ok (.ireturn, 1) := by decide +kernel
theorem dJ2_charAt_3b067_0 : decode cJ2_charAt_3b067 0 = .ok (.iload_n 1, 1) := by decide +kernel
theorem dJ2_charAt_3b067_1 : decode cJ2_charAt_3b067 1 = .ok (.aload_n 0, 1) := by decide +kernel
theorem dJ2_charAt_3b067_2 : decode cJ2_charAt_3b067 2 = .ok (.invokestatic 67, 3) := by decide +kernel
theorem dJ2_charAt_3b067_5 : decode cJ2_charAt_3b067 5 = .ok (.aload_n 0, 1) := by decide +kernel
theorem dJ2_charAt_3b067_6 : decode cJ2_charAt_3b067 6 = .ok (.iload_n 1, 1) := by decide +kernel
theorem dJ2_charAt_3b067_7 : decode cJ2_charAt_3b067 7 = .ok (.invokestatic 71, 3) := by decide +kernel
theorem dJ2_charAt_3b067_10 : decode cJ2_charAt_3b067 10 = .ok (.ireturn, 1) := by decide +kernel
theorem dJ2_checkIndex_2214a_0 : decode cJ2_checkIndex_2214a 0 = .ok (.iload_n 0, 1) := by decide +kernel
theorem dJ2_checkIndex_2214a_1 : decode cJ2_checkIndex_2214a 1 = .ok (.aload_n 1, 1) := by decide +kernel
theorem dJ2_checkIndex_2214a_2 : decode cJ2_checkIndex_2214a 2 = .ok (.invokestatic 48, 3) := by decide +kernel
theorem dJ2_checkIndex_2214a_5 : decode cJ2_checkIndex_2214a 5 = .ok (.invokestatic 414, 3) := by decide +kernel
theorem dJ2_checkIndex_2214a_8 : decode cJ2_checkIndex_2214a 8 = .ok (.return_, 1) := by decide +kernel
theorem dJ2_checkBoundsBeginEnd_d044e_0 : decode cJ2_checkBoundsBeginEnd_d044e 0 = .ok (.iload_n 0, 1) := by decide +kernel
theorem dJ2_checkBoundsBeginEnd_d044e_1 : decode cJ2_checkBoundsBeginEnd_d044e 1 = .ok (.iload_n 1, 1) := by decide +kernel
theorem dJ2_checkBoundsBeginEnd_d044e_2 : decode cJ2_checkBoundsBeginEnd_d044e 2 = .ok (.aload_n 2, 1) := by decide +kernel
theorem dJ2_checkBoundsBeginEnd_d044e_3 : decode cJ2_checkBoundsBeginEnd_d044e 3 = .ok (.invokestatic 48, 3) := by decide +kernel
theorem dJ2_checkBoundsBeginEnd_d044e_6 : decode cJ2_checkBoundsBeginEnd_d044e 6 = .ok (.invokestatic 241, 3) := by decide +kernel
theorem dJ2_checkBoundsBeginEnd_d044e_9 : decode cJ2_checkBoundsBeginEnd_d044e 9 = .ok (.return_, 1) := by decide +kernel
theorem dJ3_checkIndex_8e157_0 : decode cJ3_checkIndex_8e157 0 = .ok (.iload_n 0, 1) := by decide +kernel
theorem dJ3_checkIndex_8e157_1 : decode cJ3_checkIndex_8e157 1 = .ok (.ifCond .lt 8, 3) := by decide +kernel
theorem dJ3_checkIndex_8e157_4 : decode cJ3_checkIndex_8e157 4 = .ok (.iload_n 0, 1) := by decide +kernel
theorem dJ3_checkIndex_8e157_5 : decode cJ3_checkIndex_8e157 5 = .ok (.iload_n 1, 1) := by decide +kernel
theorem dJ3_checkIndex_8e157_6 : decode cJ3_checkIndex_8e157 6 = .ok (.if_icmp .lt 10, 3) := by decide +kernel
theorem dJ3_checkIndex_8e157_9 : decode cJ3_checkIndex_8e157 9 = .ok (.aload_n 2, 1) := by decide +kernel
theorem dJ3_checkIndex_8e157_10 : decode cJ3_checkIndex_8e157 10 = .ok (.iload_n 0, 1) := by decide +kernel
theorem dJ3_checkIndex_8e157_11 : decode cJ3_checkIndex_8e157 11 = .ok (.iload_n 1, 1) := by decide +kernel
theorem dJ3_checkIndex_8e157_12 : decode cJ3_checkIndex_8e157 12 = .ok (.invokestatic 95, 3) := by decide +kernel
theorem dJ3_checkIndex_8e157_15 : decode cJ3_checkIndex_8e157 15 = .ok (.athrow, 1) := by decide +kernel
theorem dJ3_checkIndex_8e157_16 : decode cJ3_checkIndex_8e157 16 = .ok (.iload_n 0, 1) := by decide +kernel
theorem dJ3_checkIndex_8e157_17 : decode cJ3_checkIndex_8e157 17 = .ok (.ireturn, 1) := by decide +kernel
theorem dJ3_checkFromToIndex_8c36e_0 : decode cJ3_checkFromToIndex_8c36e 0 = .ok (.iload_n 0, 1) := by decide +kernel
theorem dJ3_checkFromToIndex_8c36e_1 : decode cJ3_checkFromToIndex_8c36e 1 = .ok (.ifCond .lt 13, 3) := by decide +kernel
theorem dJ3_checkFromToIndex_8c36e_4 : decode cJ3_checkFromToIndex_8c36e 4 = .ok (.iload_n 0, 1) := by decide +kernel
theorem dJ3_checkFromToIndex_8c36e_5 : decode cJ3_checkFromToIndex_8c36e 5 = .ok (.iload_n 1, 1) := by decide +kernel
