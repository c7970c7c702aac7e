theorem dX11_readsRow_50 : decode cX11_readsRow 50 = .ok (.getfield 127, 3) := by decide +kernel
theorem dX11_readsRow_53 : decode cX11_readsRow 53 = .ok (.iconst 4, 1) := by decide +kernel
theorem dX11_readsRow_54 : decode cX11_readsRow 54 = .ok (.if_icmp .le 11, 3) := by decide +kernel
theorem dX11_readsRow_57 : decode cX11_readsRow 57 = .ok (.aload_n 0, 1) := by decide +kernel
theorem dX11_readsRow_58 : decode cX11_readsRow 58 = .ok (.iconst 2, 1) := by decide +kernel
theorem dX11_readsRow_59 : decode cX11_readsRow 59 = .ok (.invokevirtual 150, 3) := by decide +kernel
theorem dX11_readsRow_62 : decode cX11_readsRow 62 = .ok (.goto 38, 3) := by decide +kernel
theorem dX11_readsRow_65 : decode cX11_readsRow 65 = .ok (.aload_n 0, 1) := by decide +kernel
theorem dX11_readsRow_66 : decode cX11_readsRow 66 = .ok (.getfield 111, 3) := by decide +kernel
theorem dX11_readsRow_69 : decode cX11_readsRow 69 = .ok (.aload_n 0, 1) := by decide +kernel
theorem dX11_readsRow_70 : decode cX11_readsRow 70 = .ok (.getfield 200, 3) := by decide +kernel
theorem dX11_readsRow_73 : decode cX11_readsRow 73 = .ok (.if_icmp .lt 11, 3) := by decide +kernel
theorem dX11_readsRow_76 : decode cX11_readsRow 76 = .ok (.aload_n 0, 1) := by decide +kernel
theorem dX11_readsRow_77 : decode cX11_readsRow 77 = .ok (.iconst 3, 1) := by decide +kernel
theorem dX11_readsRow_78 : decode cX11_readsRow 78 = .ok (.invokevirtual 150, 3) := by decide +kernel
theorem dX11_readsRow_81 : decode cX11_readsRow 81 = .ok (.goto 19, 3) := by decide +kernel
theorem dX11_readsRow_84 : decode cX11_readsRow 84 = .ok (.aload_n 0, 1) := by decide +kernel
theorem dX11_readsRow_85 : decode cX11_readsRow 85 = .ok (.aload_n 0, 1) := by decide +kernel
theorem dX11_readsRow_86 : decode cX11_readsRow 86 = .ok (.getfield 111, 3) := by decide +kernel
theorem dX11_readsRow_89 : decode cX11_readsRow 89 = .ok (.invokevirtual 210, 3) := by decide +kernel
theorem dX11_readsRow_92 : decode cX11_readsRow 92 = .ok (.ifCond .eq 8, 3) := by decide +kernel
theorem dX11_readsRow_95 : decode cX11_readsRow 95 = .ok (.aload_n 0, 1) := by decide +kernel
theorem dX11_readsRow_96 : decode cX11_readsRow 96 = .ok (.iconst 4, 1) := by decide +kernel
theorem dX11_readsRow_97 : decode cX11_readsRow 97 = .ok (.invokevirtual 150, 3) := by decide +kernel
theorem dX11_readsRow_100 : decode cX11_readsRow 100 = .ok (.aload_n 0, 1) := by decide +kernel
theorem dX11_readsRow_101 : decode cX11_readsRow 101 = .ok (.invokevirtual 143, 3) := by decide +kernel
theorem dX11_readsRow_104 : decode cX11_readsRow 104 = .ok (.ifCond .ne 4, 3) := by decide +kernel
theorem dX11_readsRow_107 : decode cX11_readsRow 107 = .ok (.return_, 1) := by decide +kernel
theorem dX11_readsRow_108 : decode cX11_readsRow 108 = .ok (.aload_n 0, 1) := by decide +kernel
theorem dX11_readsRow_109 : decode cX11_readsRow 109 = .ok (.getfield 38, 3) := by decide +kernel
theorem dX11_readsRow_112 : decode cX11_readsRow 112 = .ok (.bipush 25, 2) := by decide +kernel
theorem dX11_readsRow_114 : decode cX11_readsRow 114 = .ok (.aload_n 0, 1) := by decide +kernel
theorem dX11_readsRow_115 : decode cX11_readsRow 115 = .ok (.getfield 207, 3) := by decide +kernel
theorem dX11_readsRow_118 : decode cX11_readsRow 118 = .ok (.iadd, 1) := by decide +kernel
theorem dX11_readsRow_119 : decode cX11_readsRow 119 = .ok (.dup2, 1) := by decide +kernel
theorem dX11_readsRow_120 : decode cX11_readsRow 120 = .ok (.iaload, 1) := by decide +kernel
theorem dX11_readsRow_121 : decode cX11_readsRow 121 = .ok (.iconst 1, 1) := by decide +kernel
theorem dX11_readsRow_122 : decode cX11_readsRow 122 = .ok (.aload_n 0, 1) := by decide +kernel
theorem dX11_readsRow_123 : decode cX11_readsRow 123 = .ok (.getfield 111, 3) := by decide +kernel
theorem dX11_readsRow_126 : decode cX11_readsRow 126 = .ok (.ishl, 1) := by decide +kernel
theorem dX11_readsRow_127 : decode cX11_readsRow 127 = .ok (.ior, 1) := by decide +kernel
theorem dX11_readsRow_128 : decode cX11_readsRow 128 = .ok (.iastore, 1) := by decide +kernel
theorem dX11_readsRow_129 : decode cX11_readsRow 129 = .ok (.iinc 1 1, 3) := by decide +kernel
theorem dX11_readsRow_132 : decode cX11_readsRow 132 = .ok (.aload_n 0, 1) := by decide +kernel
theorem dX11_readsRow_133 : decode cX11_readsRow 133 = .ok (.invokevirtual 147, 3) := by decide +kernel
theorem dX11_readsRow_136 : decode cX11_readsRow 136 = .ok (.aload_n 0, 1) := by decide +kernel
theorem dX11_readsRow_137 : decode cX11_readsRow 137 = .ok (.getfield 117, 3) := by decide +kernel
theorem dX11_readsRow_140 : decode cX11_readsRow 140 = .ok (.iconst 2, 1) := by decide +kernel
theorem dX11_readsRow_141 : decode cX11_readsRow 141 = .ok (.if_icmp .ne 7, 3) := by decide +kernel
theorem dX11_readsRow_144 : decode cX11_readsRow 144 = .ok (.iconst 1, 1) := by decide +kernel
theorem dX11_readsRow_145 : decode cX11_readsRow 145 = .ok (.goto 4, 3) := by decide +kernel
theorem dX11_readsRow_148 : decode cX11_readsRow 148 = .ok (.iconst 0, 1) := by decide +kernel
theorem dX11_readsRow_149 : decode cX11_readsRow 149 = .ok (.istore_n 2, 1) := by decide +kernel
theorem dX11_readsRow_150 : decode cX11_readsRow 150 = .ok (.goto (-133), 3) := by decide +kernel
theorem dX11_readsRow_153 : decode cX11_readsRow 153 = .ok (.aload_n 0, 1) := by decide +kernel
theorem dX11_readsRow_154 : decode cX11_readsRow 154 = .ok (.dup, 1) := by decide +kernel
theorem dX11_readsRow_155 : decode cX11_readsRow 155 = .ok (.getfield 207, 3) := by decide +kernel
theorem dX11_readsRow_158 : decode cX11_readsRow 158 = .ok (.iconst 1, 1) := by decide +kernel
theorem dX11_readsRow_159 : decode cX11_readsRow 159 = .ok (.iadd, 1) := by decide +kernel
theorem dX11_readsRow_160 : decode cX11_readsRow 160 = .ok (.putfield 207, 3) := by decide +kernel
theorem dX11_readsRow_163 : decode cX11_readsRow 163 = .ok (.return_, 1) := by decide +kernel
theorem dX11_readsMud_0 : decode cX11_readsMud 0 = .ok (.iconst 1, 1) := by decide +kernel
theorem dX11_readsMud_1 : decode cX11_readsMud 1 = .ok (.istore_n 1, 1) := by decide +kernel
theorem dX11_readsMud_2 : decode cX11_readsMud 2 = .ok (.iload_n 1, 1) := by decide +kernel
theorem dX11_readsMud_3 : decode cX11_readsMud 3 = .ok (.ifCond .eq 85, 3) := by decide +kernel
theorem dX11_readsMud_6 : decode cX11_readsMud 6 = .ok (.aload_n 0, 1) := by decide +kernel
theorem dX11_readsMud_7 : decode cX11_readsMud 7 = .ok (.invokevirtual 143, 3) := by decide +kernel
theorem dX11_readsMud_10 : decode cX11_readsMud 10 = .ok (.ifCond .eq 78, 3) := by decide +kernel
theorem dX11_readsMud_13 : decode cX11_readsMud 13 = .ok (.aload_n 0, 1) := by decide +kernel
theorem dX11_readsMud_14 : decode cX11_readsMud 14 = .ok (.getfield 213, 3) := by decide +kernel
theorem dX11_readsMud_17 : decode cX11_readsMud 17 = .ok (.bipush 8, 2) := by decide +kernel
theorem dX11_readsMud_19 : decode cX11_readsMud 19 = .ok (.if_icmp .ne 16, 3) := by decide +kernel
theorem dX11_readsMud_22 : decode cX11_readsMud 22 = .ok (.aload_n 0, 1) := by decide +kernel
theorem dX11_readsMud_23 : decode cX11_readsMud 23 = .ok (.getfield 117, 3) := by decide +kernel
theorem dX11_readsMud_26 : decode cX11_readsMud 26 = .ok (.iconst 2, 1) := by decide +kernel
theorem dX11_readsMud_27 : decode cX11_readsMud 27 = .ok (.if_icmp .ne 8, 3) := by decide +kernel
theorem dX11_readsMud_30 : decode cX11_readsMud 30 = .ok (.aload_n 0, 1) := by decide +kernel
theorem dX11_readsMud_31 : decode cX11_readsMud 31 = .ok (.iconst 2, 1) := by decide +kernel
theorem dX11_readsMud_32 : decode cX11_readsMud 32 = .ok (.invokevirtual 150, 3) := by decide +kernel
theorem dX11_readsMud_35 : decode cX11_readsMud 35 = .ok (.aload_n 0, 1) := by decide +kernel
theorem dX11_readsMud_36 : decode cX11_readsMud 36 = .ok (.iconst 0, 1) := by decide +kernel
theorem dX11_readsMud_37 : decode cX11_readsMud 37 = .ok (.bipush 9, 2) := by decide +kernel
theorem dX11_readsMud_39 : decode cX11_readsMud 39 = .ok (.invokevirtual 203, 3) := by decide +kernel
theorem dX11_readsMud_42 : decode cX11_readsMud 42 = .ok (.istore_n 2, 1) := by decide +kernel
theorem dX11_readsMud_43 : decode cX11_readsMud 43 = .ok (.aload_n 0, 1) := by decide +kernel
theorem dX11_readsMud_44 : decode cX11_readsMud 44 = .ok (.invokevirtual 143, 3) := by decide +kernel
theorem dX11_readsMud_47 : decode cX11_readsMud 47 = .ok (.ifCond .ne 4, 3) := by decide +kernel
theorem dX11_readsMud_50 : decode cX11_readsMud 50 = .ok (.return_, 1) := by decide +kernel
theorem dX11_readsMud_51 : decode cX11_readsMud 51 = .ok (.aload_n 0, 1) := by decide +kernel
theorem dX11_readsMud_52 : decode cX11_readsMud 52 = .ok (.getfield 35, 3) := by decide +kernel
theorem dX11_readsMud_55 : decode cX11_readsMud 55 = .ok (.aload_n 0, 1) := by decide +kernel
theorem dX11_readsMud_56 : decode cX11_readsMud 56 = .ok (.getfield 213, 3) := by decide +kernel
theorem dX11_readsMud_59 : decode cX11_readsMud 59 = .ok (.iload_n 2, 1) := by decide +kernel
theorem dX11_readsMud_60 : decode cX11_readsMud 60 = .ok (.iastore, 1) := by decide +kernel
theorem dX11_readsMud_61 : decode cX11_readsMud 61 = .ok (.aload_n 0, 1) := by decide +kernel
theorem dX11_readsMud_62 : decode cX11_readsMud 62 = .ok (.dup, 1) := by decide +kernel
theorem dX11_readsMud_63 : decode cX11_readsMud 63 = .ok (.getfield 213, 3) := by decide +kernel
theorem dX11_readsMud_66 : decode cX11_readsMud 66 = .ok (.iconst 1, 1) := by decide +kernel
theorem dX11_readsMud_67 : decode cX11_readsMud 67 = .ok (.iadd, 1) := by decide +kernel
theorem dX11_readsMud_68 : decode cX11_readsMud 68 = .ok (.putfield 213, 3) := by decide +kernel
theorem dX11_readsMud_71 : decode cX11_readsMud 71 = .ok (.aload_n 0, 1) := by decide +kernel
theorem dX11_readsMud_72 : decode cX11_readsMud 72 = .ok (.getfield 117, 3) := by decide +kernel
theorem dX11_readsMud_75 : decode cX11_readsMud 75 = .ok (.iconst 2, 1) := by decide +kernel
theorem dX11_readsMud_76 : decode cX11_readsMud 76 = .ok (.if_icmp .ne 7, 3) := by decide +kernel
theorem dX11_readsMud_79 : decode cX11_readsMud 79 = .ok (.iconst 1, 1) := by decide +kernel
theorem dX11_readsMud_80 : decode cX11_readsMud 80 = .ok (.goto 4, 3) := by decide +kernel
theorem dX11_readsMud_83 : decode cX11_readsMud 83 = .ok (.iconst 0, 1) := by decide +kernel
theorem dX11_readsMud_84 : decode cX11_readsMud 84 = .ok (.istore_n 1, 1) := by decide +kernel
theorem dX11_readsMud_85 : decode cX11_readsMud 85 = .ok (.goto (-83), 3) := by decide +kernel
theorem dX11_readsMud_88 : decode cX11_readsMud 88 = .ok (.return_, 1) := by decide +kernel
theorem dX11_line_0 : decode cX11_line 0 = .ok (.aload_n 0, 1) := by decide +kernel
theorem dX11_line_1 : decode cX11_line 1 = .ok (.invokevirtual 168, 3) := by decide +kernel
theorem dX11_line_4 : decode cX11_line 4 = .ok (.istore_n 1, 1) := by decide +kernel
theorem dX11_line_5 : decode cX11_line 5 = .ok (.iload_n 1, 1) := by decide +kernel
theorem dX11_line_6 : decode cX11_line 6 = .ok (.bipush 6, 2) := by decide +kernel
theorem dX11_line_8 : decode cX11_line 8 = .ok (.if_icmp .ne 38, 3) := by decide +kernel
theorem dX11_line_11 : decode cX11_line 11 = .ok (.aload_n 0, 1) := by decide +kernel
theorem dX11_line_12 : decode cX11_line 12 = .ok (.iconst 0, 1) := by decide +kernel
theorem dX11_line_13 : decode cX11_line 13 = .ok (.aload_n 0, 1) := by decide +kernel
theorem dX11_line_14 : decode cX11_line 14 = .ok (.getfield 216, 3) := by decide +kernel
theorem dX11_line_17 : decode cX11_line 17 = .ok (.iconst (-1), 1) := by decide +kernel
theorem dX11_line_18 : decode cX11_line 18 = .ok (.if_icmp .eq 7, 3) := by decide +kernel
theorem dX11_line_21 : decode cX11_line 21 = .ok (.iconst 1, 1) := by decide +kernel
theorem dX11_line_22 : decode cX11_line 22 = .ok (.goto 4, 3) := by decide +kernel
theorem dX11_line_25 : decode cX11_line 25 = .ok (.iconst 0, 1) := by decide +kernel
theorem dX11_line_26 : decode cX11_line 26 = .ok (.invokevirtual 219, 3) := by decide +kernel
theorem dX11_line_29 : decode cX11_line 29 = .ok (.ifCond .eq 207, 3) := by decide +kernel
theorem dX11_line_32 : decode cX11_line 32 = .ok (.aload_n 0, 1) := by decide +kernel
theorem dX11_line_33 : decode cX11_line 33 = .ok (.aload_n 0, 1) := by decide +kernel
theorem dX11_line_34 : decode cX11_line 34 = .ok (.iconst 4, 1) := by decide +kernel
theorem dX11_line_35 : decode cX11_line 35 = .ok (.bipush 12, 2) := by decide +kernel
theorem dX11_line_37 : decode cX11_line 37 = .ok (.invokevirtual 203, 3) := by decide +kernel
theorem dX11_line_40 : decode cX11_line 40 = .ok (.putfield 216, 3) := by decide +kernel
theorem dX11_line_43 : decode cX11_line 43 = .ok (.goto 193, 3) := by decide +kernel
theorem dX11_line_46 : decode cX11_line 46 = .ok (.iload_n 1, 1) := by decide +kernel
theorem dX11_line_47 : decode cX11_line 47 = .ok (.bipush 7, 2) := by decide +kernel
theorem dX11_line_49 : decode cX11_line 49 = .ok (.if_icmp .ne 32, 3) := by decide +kernel
theorem dX11_line_52 : decode cX11_line 52 = .ok (.aload_n 0, 1) := by decide +kernel
theorem dX11_line_53 : decode cX11_line 53 = .ok (.aload_n 0, 1) := by decide +kernel
theorem dX11_line_54 : decode cX11_line 54 = .ok (.getfield 200, 3) := by decide +kernel
theorem dX11_line_57 : decode cX11_line 57 = .ok (.bipush 8, 2) := by decide +kernel
theorem dX11_line_59 : decode cX11_line 59 = .ok (.if_icmp .ne 7, 3) := by decide +kernel
theorem dX11_line_62 : decode cX11_line 62 = .ok (.iconst 1, 1) := by decide +kernel
theorem dX11_line_63 : decode cX11_line 63 = .ok (.goto 4, 3) := by decide +kernel
theorem dX11_line_66 : decode cX11_line 66 = .ok (.iconst 0, 1) := by decide +kernel
theorem dX11_line_67 : decode cX11_line 67 = .ok (.iconst 0, 1) := by decide +kernel
theorem dX11_line_68 : decode cX11_line 68 = .ok (.invokevirtual 219, 3) := by decide +kernel
theorem dX11_line_71 : decode cX11_line 71 = .ok (.ifCond .eq 165, 3) := by decide +kernel
theorem dX11_line_74 : decode cX11_line 74 = .ok (.aload_n 0, 1) := by decide +kernel
theorem dX11_line_75 : decode cX11_line 75 = .ok (.invokevirtual 223, 3) := by decide +kernel
theorem dX11_line_78 : decode cX11_line 78 = .ok (.goto 158, 3) := by decide +kernel
theorem dX11_line_81 : decode cX11_line 81 = .ok (.iload_n 1, 1) := by decide +kernel
theorem dX11_line_82 : decode cX11_line 82 = .ok (.bipush 8, 2) := by decide +kernel
theorem dX11_line_84 : decode cX11_line 84 = .ok (.if_icmp .ne 32, 3) := by decide +kernel
theorem dX11_line_87 : decode cX11_line 87 = .ok (.aload_n 0, 1) := by decide +kernel
theorem dX11_line_88 : decode cX11_line 88 = .ok (.aload_n 0, 1) := by decide +kernel
theorem dX11_line_89 : decode cX11_line 89 = .ok (.getfield 207, 3) := by decide +kernel
theorem dX11_line_92 : decode cX11_line 92 = .ok (.bipush 8, 2) := by decide +kernel
theorem dX11_line_94 : decode cX11_line 94 = .ok (.if_icmp .ne 7, 3) := by decide +kernel
theorem dX11_line_97 : decode cX11_line 97 = .ok (.iconst 1, 1) := by decide +kernel
theorem dX11_line_98 : decode cX11_line 98 = .ok (.goto 4, 3) := by decide +kernel
theorem dX11_line_101 : decode cX11_line 101 = .ok (.iconst 0, 1) := by decide +kernel
theorem dX11_line_102 : decode cX11_line 102 = .ok (.iconst 0, 1) := by decide +kernel
theorem dX11_line_103 : decode cX11_line 103 = .ok (.invokevirtual 219, 3) := by decide +kernel
theorem dX11_line_106 : decode cX11_line 106 = .ok (.ifCond .eq 130, 3) := by decide +kernel
theorem dX11_line_109 : decode cX11_line 109 = .ok (.aload_n 0, 1) := by decide +kernel
theorem dX11_line_110 : decode cX11_line 110 = .ok (.invokevirtual 226, 3) := by decide +kernel
theorem dX11_line_113 : decode cX11_line 113 = .ok (.goto 123, 3) := by decide +kernel
theorem dX11_line_116 : decode cX11_line 116 = .ok (.iload_n 1, 1) := by decide +kernel
theorem dX11_line_117 : decode cX11_line 117 = .ok (.iconst 2, 1) := by decide +kernel
theorem dX11_line_118 : decode cX11_line 118 = .ok (.if_icmp .ne 30, 3) := by decide +kernel
theorem dX11_line_121 : decode cX11_line 121 = .ok (.aload_n 0, 1) := by decide +kernel
theorem dX11_line_122 : decode cX11_line 122 = .ok (.iconst 0, 1) := by decide +kernel
theorem dX11_line_123 : decode cX11_line 123 = .ok (.aload_n 0, 1) := by decide +kernel
theorem dX11_line_124 : decode cX11_line 124 = .ok (.getfield 213, 3) := by decide +kernel
theorem dX11_line_127 : decode cX11_line 127 = .ok (.ifCond .le 7, 3) := by decide +kernel
theorem dX11_line_130 : decode cX11_line 130 = .ok (.iconst 1, 1) := by decide +kernel
theorem dX11_line_131 : decode cX11_line 131 = .ok (.goto 4, 3) := by decide +kernel
theorem dX11_line_134 : decode cX11_line 134 = .ok (.iconst 0, 1) := by decide +kernel
theorem dX11_line_135 : decode cX11_line 135 = .ok (.invokevirtual 219, 3) := by decide +kernel
theorem dX11_line_138 : decode cX11_line 138 = .ok (.ifCond .eq 98, 3) := by decide +kernel
theorem dX11_line_141 : decode cX11_line 141 = .ok (.aload_n 0, 1) := by decide +kernel
theorem dX11_line_142 : decode cX11_line 142 = .ok (.invokevirtual 229, 3) := by decide +kernel
theorem dX11_line_145 : decode cX11_line 145 = .ok (.goto 91, 3) := by decide +kernel
theorem dX11_line_148 : decode cX11_line 148 = .ok (.iload_n 1, 1) := by decide +kernel
theorem dX11_line_149 : decode cX11_line 149 = .ok (.bipush 9, 2) := by decide +kernel
theorem dX11_line_151 : decode cX11_line 151 = .ok (.if_icmp .ne 38, 3) := by decide +kernel
theorem dX11_line_154 : decode cX11_line 154 = .ok (.aload_n 0, 1) := by decide +kernel
theorem dX11_line_155 : decode cX11_line 155 = .ok (.iconst 0, 1) := by decide +kernel
theorem dX11_line_156 : decode cX11_line 156 = .ok (.aload_n 0, 1) := by decide +kernel
theorem dX11_line_157 : decode cX11_line 157 = .ok (.getfield 232, 3) := by decide +kernel
theorem dX11_line_160 : decode cX11_line 160 = .ok (.iconst (-1), 1) := by decide +kernel
theorem dX11_line_161 : decode cX11_line 161 = .ok (.if_icmp .eq 7, 3) := by decide +kernel
theorem dX11_line_164 : decode cX11_line 164 = .ok (.iconst 1, 1) := by decide +kernel
theorem dX11_line_165 : decode cX11_line 165 = .ok (.goto 4, 3) := by decide +kernel
theorem dX11_line_168 : decode cX11_line 168 = .ok (.iconst 0, 1) := by decide +kernel
theorem dX11_line_169 : decode cX11_line 169 = .ok (.invokevirtual 219, 3) := by decide +kernel
theorem dX11_line_172 : decode cX11_line 172 = .ok (.ifCond .eq 64, 3) := by decide +kernel
theorem dX11_line_175 : decode cX11_line 175 = .ok (.aload_n 0, 1) := by decide +kernel
theorem dX11_line_176 : decode cX11_line 176 = .ok (.aload_n 0, 1) := by decide +kernel
theorem dX11_line_177 : decode cX11_line 177 = .ok (.iconst 0, 1) := by decide +kernel
theorem dX11_line_178 : decode cX11_line 178 = .ok (.bipush 12, 2) := by decide +kernel
theorem dX11_line_180 : decode cX11_line 180 = .ok (.invokevirtual 203, 3) := by decide +kernel
theorem dX11_line_183 : decode cX11_line 183 = .ok (.putfield 232, 3) := by decide +kernel
theorem dX11_line_186 : decode cX11_line 186 = .ok (.goto 50, 3) := by decide +kernel
theorem dX11_line_189 : decode cX11_line 189 = .ok (.iload_n 1, 1) := by decide +kernel
theorem dX11_line_190 : decode cX11_line 190 = .ok (.bipush 10, 2) := by decide +kernel
theorem dX11_line_192 : decode cX11_line 192 = .ok (.if_icmp .ne 39, 3) := by decide +kernel
theorem dX11_line_195 : decode cX11_line 195 = .ok (.aload_n 0, 1) := by decide +kernel
theorem dX11_line_196 : decode cX11_line 196 = .ok (.iconst 0, 1) := by decide +kernel
theorem dX11_line_197 : decode cX11_line 197 = .ok (.aload_n 0, 1) := by decide +kernel
theorem dX11_line_198 : decode cX11_line 198 = .ok (.getfield 235, 3) := by decide +kernel
theorem dX11_line_201 : decode cX11_line 201 = .ok (.iconst (-1), 1) := by decide +kernel
theorem dX11_line_202 : decode cX11_line 202 = .ok (.if_icmp .eq 7, 3) := by decide +kernel
theorem dX11_line_205 : decode cX11_line 205 = .ok (.iconst 1, 1) := by decide +kernel
theorem dX11_line_206 : decode cX11_line 206 = .ok (.goto 4, 3) := by decide +kernel
theorem dX11_line_209 : decode cX11_line 209 = .ok (.iconst 0, 1) := by decide +kernel
theorem dX11_line_210 : decode cX11_line 210 = .ok (.invokevirtual 219, 3) := by decide +kernel
theorem dX11_line_213 : decode cX11_line 213 = .ok (.ifCond .eq 23, 3) := by decide +kernel
theorem dX11_line_216 : decode cX11_line 216 = .ok (.aload_n 0, 1) := by decide +kernel
theorem dX11_line_217 : decode cX11_line 217 = .ok (.aload_n 0, 1) := by decide +kernel
theorem dX11_line_218 : decode cX11_line 218 = .ok (.getfield 153, 3) := by decide +kernel
theorem dX11_line_221 : decode cX11_line 221 = .ok (.putfield 235, 3) := by decide +kernel
theorem dX11_line_224 : decode cX11_line 224 = .ok (.aload_n 0, 1) := by decide +kernel
theorem dX11_line_225 : decode cX11_line 225 = .ok (.invokevirtual 238, 3) := by decide +kernel
theorem dX11_line_228 : decode cX11_line 228 = .ok (.goto 8, 3) := by decide +kernel
theorem dX11_line_231 : decode cX11_line 231 = .ok (.aload_n 0, 1) := by decide +kernel
theorem dX11_line_232 : decode cX11_line 232 = .ok (.iconst 1, 1) := by decide +kernel
theorem dX11_line_233 : decode cX11_line 233 = .ok (.invokevirtual 150, 3) := by decide +kernel
theorem dX11_line_236 : decode cX11_line 236 = .ok (.aload_n 0, 1) := by decide +kernel
theorem dX11_line_237 : decode cX11_line 237 = .ok (.aload_n 0, 1) := by decide +kernel
theorem dX11_line_238 : decode cX11_line 238 = .ok (.bipush 59, 2) := by decide +kernel
theorem dX11_line_240 : decode cX11_line 240 = .ok (.invokevirtual 175, 3) := by decide +kernel
theorem dX11_line_243 : decode cX11_line 243 = .ok (.invokevirtual 241, 3) := by decide +kernel
theorem dX11_line_246 : decode cX11_line 246 = .ok (.return_, 1) := by decide +kernel
theorem dX11_army_0 : decode cX11_army 0 = .ok (.aload_n 0, 1) := by decide +kernel
theorem dX11_army_1 : decode cX11_army 1 = .ok (.iconst 0, 1) := by decide +kernel
theorem dX11_army_2 : decode cX11_army 2 = .ok (.putfield 84, 3) := by decide +kernel
theorem dX11_army_5 : decode cX11_army 5 = .ok (.aload_n 0, 1) := by decide +kernel
theorem dX11_army_6 : decode cX11_army 6 = .ok (.iload_n 1, 1) := by decide +kernel
theorem dX11_army_7 : decode cX11_army 7 = .ok (.ifCond .lt 15, 3) := by decide +kernel
theorem dX11_army_10 : decode cX11_army 10 = .ok (.iload_n 1, 1) := by decide +kernel
theorem dX11_army_11 : decode cX11_army 11 = .ok (.aload_n 0, 1) := by decide +kernel
theorem dX11_army_12 : decode cX11_army 12 = .ok (.getfield 87, 3) := by decide +kernel
theorem dX11_army_15 : decode cX11_army 15 = .ok (.if_icmp .gt 7, 3) := by decide +kernel
theorem dX11_army_18 : decode cX11_army 18 = .ok (.iconst 1, 1) := by decide +kernel
theorem dX11_army_19 : decode cX11_army 19 = .ok (.goto 4, 3) := by decide +kernel
theorem dX11_army_22 : decode cX11_army 22 = .ok (.iconst 0, 1) := by decide +kernel
theorem dX11_army_23 : decode cX11_army 23 = .ok (.iconst 1, 1) := by decide +kernel
theorem dX11_army_24 : decode cX11_army 24 = .ok (.invokevirtual 244, 3) := by decide +kernel
theorem dX11_army_27 : decode cX11_army 27 = .ok (.ifCond .ne 5, 3) := by decide +kernel
theorem dX11_army_30 : decode cX11_army 30 = .ok (.iconst 0, 1) := by decide +kernel
theorem dX11_army_31 : decode cX11_army 31 = .ok (.ireturn, 1) := by decide +kernel
theorem dX11_army_32 : decode cX11_army 32 = .ok (.aload_n 0, 1) := by decide +kernel
theorem dX11_army_33 : decode cX11_army 33 = .ok (.iconst 0, 1) := by decide +kernel
theorem dX11_army_34 : decode cX11_army 34 = .ok (.putfield 87, 3) := by decide +kernel
theorem dX11_army_37 : decode cX11_army 37 = .ok (.aload_n 0, 1) := by decide +kernel
theorem dX11_army_38 : decode cX11_army 38 = .ok (.iconst (-1), 1) := by decide +kernel
theorem dX11_army_39 : decode cX11_army 39 = .ok (.putfield 29, 3) := by decide +kernel
theorem dX11_army_42 : decode cX11_army 42 = .ok (.aload_n 0, 1) := by decide +kernel
theorem dX11_army_43 : decode cX11_army 43 = .ok (.iconst 0, 1) := by decide +kernel
theorem dX11_army_44 : decode cX11_army 44 = .ok (.putfield 140, 3) := by decide +kernel
theorem dX11_army_47 : decode cX11_army 47 = .ok (.aload_n 0, 1) := by decide +kernel
theorem dX11_army_48 : decode cX11_army 48 = .ok (.iload_n 1, 1) := by decide +kernel
theorem dX11_army_49 : decode cX11_army 49 = .ok (.putfield 94, 3) := by decide +kernel
theorem dX11_army_52 : decode cX11_army 52 = .ok (.aload_n 0, 1) := by decide +kernel
theorem dX11_army_53 : decode cX11_army 53 = .ok (.iconst 0, 1) := by decide +kernel
theorem dX11_army_54 : decode cX11_army 54 = .ok (.putfield 97, 3) := by decide +kernel
theorem dX11_army_57 : decode cX11_army 57 = .ok (.aload_n 0, 1) := by decide +kernel
theorem dX11_army_58 : decode cX11_army 58 = .ok (.iconst (-1), 1) := by decide +kernel
theorem dX11_army_59 : decode cX11_army 59 = .ok (.putfield 216, 3) := by decide +kernel
theorem dX11_army_62 : decode cX11_army 62 = .ok (.aload_n 0, 1) := by decide +kernel
theorem dX11_army_63 : decode cX11_army 63 = .ok (.iconst 0, 1) := by decide +kernel
theorem dX11_army_64 : decode cX11_army 64 = .ok (.putfield 200, 3) := by decide +kernel
theorem dX11_army_67 : decode cX11_army 67 = .ok (.aload_n 0, 1) := by decide +kernel
theorem dX11_army_68 : decode cX11_army 68 = .ok (.iconst 0, 1) := by decide +kernel
theorem dX11_army_69 : decode cX11_army 69 = .ok (.putfield 207, 3) := by decide +kernel
theorem dX11_army_72 : decode cX11_army 72 = .ok (.aload_n 0, 1) := by decide +kernel
theorem dX11_army_73 : decode cX11_army 73 = .ok (.iconst 0, 1) := by decide +kernel
theorem dX11_army_74 : decode cX11_army 74 = .ok (.putfield 213, 3) := by decide +kernel
theorem dX11_army_77 : decode cX11_army 77 = .ok (.aload_n 0, 1) := by decide +kernel
theorem dX11_army_78 : decode cX11_army 78 = .ok (.iconst (-1), 1) := by decide +kernel
theorem dX11_army_79 : decode cX11_army 79 = .ok (.putfield 232, 3) := by decide +kernel
theorem dX11_army_82 : decode cX11_army 82 = .ok (.aload_n 0, 1) := by decide +kernel
theorem dX11_army_83 : decode cX11_army 83 = .ok (.iconst (-1), 1) := by decide +kernel
theorem dX11_army_84 : decode cX11_army 84 = .ok (.putfield 235, 3) := by decide +kernel
theorem dX11_army_87 : decode cX11_army 87 = .ok (.iconst 0, 1) := by decide +kernel
theorem dX11_army_88 : decode cX11_army 88 = .ok (.istore_n 2, 1) := by decide +kernel
theorem dX11_army_89 : decode cX11_army 89 = .ok (.iload_n 2, 1) := by decide +kernel
theorem dX11_army_90 : decode cX11_army 90 = .ok (.bipush 33, 2) := by decide +kernel
theorem dX11_army_92 : decode cX11_army 92 = .ok (.if_icmp .ge 16, 3) := by decide +kernel
theorem dX11_army_95 : decode cX11_army 95 = .ok (.aload_n 0, 1) := by decide +kernel
theorem dX11_army_96 : decode cX11_army 96 = .ok (.getfield 38, 3) := by decide +kernel
theorem dX11_army_99 : decode cX11_army 99 = .ok (.iload_n 2, 1) := by decide +kernel
theorem dX11_army_100 : decode cX11_army 100 = .ok (.iconst 0, 1) := by decide +kernel
theorem dX11_army_101 : decode cX11_army 101 = .ok (.iastore, 1) := by decide +kernel
theorem dX11_army_102 : decode cX11_army 102 = .ok (.iinc 2 1, 3) := by decide +kernel
theorem dX11_army_105 : decode cX11_army 105 = .ok (.goto (-16), 3) := by decide +kernel
theorem dX11_army_108 : decode cX11_army 108 = .ok (.aload_n 0, 1) := by decide +kernel
theorem dX11_army_109 : decode cX11_army 109 = .ok (.iconst 0, 1) := by decide +kernel
theorem dX11_army_110 : decode cX11_army 110 = .ok (.putfield 153, 3) := by decide +kernel
theorem dX11_army_113 : decode cX11_army 113 = .ok (.aload_n 0, 1) := by decide +kernel
theorem dX11_army_114 : decode cX11_army 114 = .ok (.invokevirtual 147, 3) := by decide +kernel
theorem dX11_army_117 : decode cX11_army 117 = .ok (.aload_n 0, 1) := by decide +kernel
theorem dX11_army_118 : decode cX11_army 118 = .ok (.invokevirtual 143, 3) := by decide +kernel
theorem dX11_army_121 : decode cX11_army 121 = .ok (.ifCond .eq 17, 3) := by decide +kernel
theorem dX11_army_124 : decode cX11_army 124 = .ok (.aload_n 0, 1) := by decide +kernel
theorem dX11_army_125 : decode cX11_army 125 = .ok (.getfield 117, 3) := by decide +kernel
theorem dX11_army_128 : decode cX11_army 128 = .ok (.ifCond .eq 10, 3) := by decide +kernel
theorem dX11_army_131 : decode cX11_army 131 = .ok (.aload_n 0, 1) := by decide +kernel
theorem dX11_army_132 : decode cX11_army 132 = .ok (.invokevirtual 248, 3) := by decide +kernel
theorem dX11_army_135 : decode cX11_army 135 = .ok (.goto (-18), 3) := by decide +kernel
theorem dX11_army_138 : decode cX11_army 138 = .ok (.aload_n 0, 1) := by decide +kernel
theorem dX11_army_139 : decode cX11_army 139 = .ok (.invokevirtual 143, 3) := by decide +kernel
theorem dX11_army_142 : decode cX11_army 142 = .ok (.ifCond .ne 18, 3) := by decide +kernel
theorem dX11_army_145 : decode cX11_army 145 = .ok (.aload_n 0, 1) := by decide +kernel
theorem dX11_army_146 : decode cX11_army 146 = .ok (.getfield 32, 3) := by decide +kernel
theorem dX11_army_149 : decode cX11_army 149 = .ok (.iconst 0, 1) := by decide +kernel
theorem dX11_army_150 : decode cX11_army 150 = .ok (.dup2, 1) := by decide +kernel
theorem dX11_army_151 : decode cX11_army 151 = .ok (.iaload, 1) := by decide +kernel
theorem dX11_army_152 : decode cX11_army 152 = .ok (.iconst 1, 1) := by decide +kernel
theorem dX11_army_153 : decode cX11_army 153 = .ok (.iadd, 1) := by decide +kernel
theorem dX11_army_154 : decode cX11_army 154 = .ok (.iastore, 1) := by decide +kernel
theorem dX11_army_155 : decode cX11_army 155 = .ok (.aload_n 0, 1) := by decide +kernel
theorem dX11_army_156 : decode cX11_army 156 = .ok (.getfield 140, 3) := by decide +kernel
theorem dX11_army_159 : decode cX11_army 159 = .ok (.ireturn, 1) := by decide +kernel
theorem dX11_army_160 : decode cX11_army 160 = .ok (.aload_n 0, 1) := by decide +kernel
theorem dX11_army_161 : decode cX11_army 161 = .ok (.aload_n 0, 1) := by decide +kernel
theorem dX11_army_162 : decode cX11_army 162 = .ok (.getfield 216, 3) := by decide +kernel
theorem dX11_army_165 : decode cX11_army 165 = .ok (.iconst (-1), 1) := by decide +kernel
theorem dX11_army_166 : decode cX11_army 166 = .ok (.if_icmp .ne 8, 3) := by decide +kernel
theorem dX11_army_169 : decode cX11_army 169 = .ok (.bipush 8, 2) := by decide +kernel
theorem dX11_army_171 : decode cX11_army 171 = .ok (.goto 7, 3) := by decide +kernel
theorem dX11_army_174 : decode cX11_army 174 = .ok (.aload_n 0, 1) := by decide +kernel
theorem dX11_army_175 : decode cX11_army 175 = .ok (.getfield 216, 3) := by decide +kernel
theorem dX11_army_178 : decode cX11_army 178 = .ok (.putfield 7, 3) := by decide +kernel
theorem dX11_army_181 : decode cX11_army 181 = .ok (.aload_n 0, 1) := by decide +kernel
theorem dX11_army_182 : decode cX11_army 182 = .ok (.aload_n 0, 1) := by decide +kernel
theorem dX11_army_183 : decode cX11_army 183 = .ok (.getfield 200, 3) := by decide +kernel
theorem dX11_army_186 : decode cX11_army 186 = .ok (.putfield 251, 3) := by decide +kernel
theorem dX11_army_189 : decode cX11_army 189 = .ok (.aload_n 0, 1) := by decide +kernel
theorem dX11_army_190 : decode cX11_army 190 = .ok (.aload_n 0, 1) := by decide +kernel
theorem dX11_army_191 : decode cX11_army 191 = .ok (.getfield 207, 3) := by decide +kernel
theorem dX11_army_194 : decode cX11_army 194 = .ok (.putfield 254, 3) := by decide +kernel
theorem dX11_army_197 : decode cX11_army 197 = .ok (.aload_n 0, 1) := by decide +kernel
theorem dX11_army_198 : decode cX11_army 198 = .ok (.aload_n 0, 1) := by decide +kernel
theorem dX11_army_199 : decode cX11_army 199 = .ok (.getfield 213, 3) := by decide +kernel
theorem dX11_army_202 : decode cX11_army 202 = .ok (.putfield 257, 3) := by decide +kernel
theorem dX11_army_205 : decode cX11_army 205 = .ok (.aload_n 0, 1) := by decide +kernel
theorem dX11_army_206 : decode cX11_army 206 = .ok (.aload_n 0, 1) := by decide +kernel
theorem dX11_army_207 : decode cX11_army 207 = .ok (.getfield 232, 3) := by decide +kernel
theorem dX11_army_210 : decode cX11_army 210 = .ok (.iconst (-1), 1) := by decide +kernel
theorem dX11_army_211 : decode cX11_army 211 = .ok (.if_icmp .ne 7, 3) := by decide +kernel
theorem dX11_army_214 : decode cX11_army 214 = .ok (.iconst 2, 1) := by decide +kernel
theorem dX11_army_215 : decode cX11_army 215 = .ok (.goto 7, 3) := by decide +kernel
theorem dX11_army_218 : decode cX11_army 218 = .ok (.aload_n 0, 1) := by decide +kernel
theorem dX11_army_219 : decode cX11_army 219 = .ok (.getfield 232, 3) := by decide +kernel
theorem dX11_army_222 : decode cX11_army 222 = .ok (.putfield 13, 3) := by decide +kernel
theorem dX11_army_225 : decode cX11_army 225 = .ok (.aload_n 0, 1) := by decide +kernel
theorem dX11_army_226 : decode cX11_army 226 = .ok (.aload_n 0, 1) := by decide +kernel
theorem dX11_army_227 : decode cX11_army 227 = .ok (.getfield 235, 3) := by decide +kernel
theorem dX11_army_230 : decode cX11_army 230 = .ok (.putfield 16, 3) := by decide +kernel
theorem dX11_army_233 : decode cX11_army 233 = .ok (.aload_n 0, 1) := by decide +kernel
theorem dX11_army_234 : decode cX11_army 234 = .ok (.aload_n 0, 1) := by decide +kernel
theorem dX11_army_235 : decode cX11_army 235 = .ok (.getfield 35, 3) := by decide +kernel
theorem dX11_army_238 : decode cX11_army 238 = .ok (.aload_n 0, 1) := by decide +kernel
theorem dX11_army_239 : decode cX11_army 239 = .ok (.getfield 19, 3) := by decide +kernel
theorem dX11_army_242 : decode cX11_army 242 = .ok (.invokevirtual 260, 3) := by decide +kernel
theorem dX11_army_245 : decode cX11_army 245 = .ok (.aload_n 0, 1) := by decide +kernel
theorem dX11_army_246 : decode cX11_army 246 = .ok (.aload_n 0, 1) := by decide +kernel
theorem dX11_army_247 : decode cX11_army 247 = .ok (.getfield 41, 3) := by decide +kernel
theorem dX11_army_250 : decode cX11_army 250 = .ok (.aload_n 0, 1) := by decide +kernel
theorem dX11_army_251 : decode cX11_army 251 = .ok (.getfield 23, 3) := by decide +kernel
theorem dX11_army_254 : decode cX11_army 254 = .ok (.invokevirtual 260, 3) := by decide +kernel
theorem dX11_army_257 : decode cX11_army 257 = .ok (.iconst 0, 1) := by decide +kernel
theorem dX11_army_258 : decode cX11_army 258 = .ok (.istore_n 2, 1) := by decide +kernel
theorem dX11_army_259 : decode cX11_army 259 = .ok (.iload_n 2, 1) := by decide +kernel
theorem dX11_army_260 : decode cX11_army 260 = .ok (.bipush 33, 2) := by decide +kernel
theorem dX11_army_262 : decode cX11_army 262 = .ok (.if_icmp .ge 21, 3) := by decide +kernel
theorem dX11_army_265 : decode cX11_army 265 = .ok (.aload_n 0, 1) := by decide +kernel
theorem dX11_army_266 : decode cX11_army 266 = .ok (.getfield 51, 3) := by decide +kernel
theorem dX11_army_269 : decode cX11_army 269 = .ok (.iload_n 2, 1) := by decide +kernel
theorem dX11_army_270 : decode cX11_army 270 = .ok (.aload_n 0, 1) := by decide +kernel
theorem dX11_army_271 : decode cX11_army 271 = .ok (.getfield 38, 3) := by decide +kernel
theorem dX11_army_274 : decode cX11_army 274 = .ok (.iload_n 2, 1) := by decide +kernel
theorem dX11_army_275 : decode cX11_army 275 = .ok (.iaload, 1) := by decide +kernel
theorem dX11_army_276 : decode cX11_army 276 = .ok (.iastore, 1) := by decide +kernel
theorem dX11_army_277 : decode cX11_army 277 = .ok (.iinc 2 1, 3) := by decide +kernel
theorem dX11_army_280 : decode cX11_army 280 = .ok (.goto (-21), 3) := by decide +kernel
theorem dX11_army_283 : decode cX11_army 283 = .ok (.iconst 0, 1) := by decide +kernel
theorem dX11_army_284 : decode cX11_army 284 = .ok (.istore_n 2, 1) := by decide +kernel
theorem dX11_army_285 : decode cX11_army 285 = .ok (.iload_n 2, 1) := by decide +kernel
theorem dX11_army_286 : decode cX11_army 286 = .ok (.aload_n 0, 1) := by decide +kernel
theorem dX11_army_287 : decode cX11_army 287 = .ok (.getfield 251, 3) := by decide +kernel
theorem dX11_army_290 : decode cX11_army 290 = .ok (.if_icmp .ge 34, 3) := by decide +kernel
theorem dX11_army_293 : decode cX11_army 293 = .ok (.aload_n 0, 1) := by decide +kernel
theorem dX11_army_294 : decode cX11_army 294 = .ok (.getfield 51, 3) := by decide +kernel
theorem dX11_army_297 : decode cX11_army 297 = .ok (.iconst 1, 1) := by decide +kernel
theorem dX11_army_298 : decode cX11_army 298 = .ok (.iload_n 2, 1) := by decide +kernel
theorem dX11_army_299 : decode cX11_army 299 = .ok (.iadd, 1) := by decide +kernel
theorem dX11_army_300 : decode cX11_army 300 = .ok (.aload_n 0, 1) := by decide +kernel
theorem dX11_army_301 : decode cX11_army 301 = .ok (.getfield 51, 3) := by decide +kernel
theorem dX11_army_304 : decode cX11_army 304 = .ok (.iconst 1, 1) := by decide +kernel
theorem dX11_army_305 : decode cX11_army 305 = .ok (.iload_n 2, 1) := by decide +kernel
theorem dX11_army_306 : decode cX11_army 306 = .ok (.iadd, 1) := by decide +kernel
theorem dX11_army_307 : decode cX11_army 307 = .ok (.iaload, 1) := by decide +kernel
theorem dX11_army_308 : decode cX11_army 308 = .ok (.iconst 1, 1) := by decide +kernel
theorem dX11_army_309 : decode cX11_army 309 = .ok (.aload_n 0, 1) := by decide +kernel
theorem dX11_army_310 : decode cX11_army 310 = .ok (.getfield 7, 3) := by decide +kernel
theorem dX11_army_313 : decode cX11_army 313 = .ok (.ishl, 1) := by decide +kernel
theorem dX11_army_314 : decode cX11_army 314 = .ok (.iconst 1, 1) := by decide +kernel
theorem dX11_army_315 : decode cX11_army 315 = .ok (.isub, 1) := by decide +kernel
theorem dX11_army_316 : decode cX11_army 316 = .ok (.iand, 1) := by decide +kernel
theorem dX11_army_317 : decode cX11_army 317 = .ok (.iastore, 1) := by decide +kernel
theorem dX11_army_318 : decode cX11_army 318 = .ok (.iinc 2 1, 3) := by decide +kernel
theorem dX11_army_321 : decode cX11_army 321 = .ok (.goto (-36), 3) := by decide +kernel
theorem dX11_army_324 : decode cX11_army 324 = .ok (.aload_n 0, 1) := by decide +kernel
theorem dX11_army_325 : decode cX11_army 325 = .ok (.iconst 0, 1) := by decide +kernel
theorem dX11_army_326 : decode cX11_army 326 = .ok (.putfield 264, 3) := by decide +kernel
theorem dX11_army_329 : decode cX11_army 329 = .ok (.aload_n 0, 1) := by decide +kernel
theorem dX11_army_330 : decode cX11_army 330 = .ok (.iconst 0, 1) := by decide +kernel
theorem dX11_army_331 : decode cX11_army 331 = .ok (.putfield 267, 3) := by decide +kernel
theorem dX11_army_334 : decode cX11_army 334 = .ok (.aload_n 0, 1) := by decide +kernel
theorem dX11_army_335 : decode cX11_army 335 = .ok (.iconst 0, 1) := by decide +kernel
theorem dX11_army_336 : decode cX11_army 336 = .ok (.putfield 270, 3) := by decide +kernel
theorem dX11_army_339 : decode cX11_army 339 = .ok (.iconst 0, 1) := by decide +kernel
theorem dX11_army_340 : decode cX11_army 340 = .ok (.ireturn, 1) := by decide +kernel
theorem dX11_fault_0 : decode cX11_fault 0 = .ok (.aload_n 0, 1) := by decide +kernel
theorem dX11_fault_1 : decode cX11_fault 1 = .ok (.iconst 0, 1) := by decide +kernel
theorem dX11_fault_2 : decode cX11_fault 2 = .ok (.putfield 84, 3) := by decide +kernel
theorem dX11_fault_5 : decode cX11_fault 5 = .ok (.aload_n 0, 1) := by decide +kernel
theorem dX11_fault_6 : decode cX11_fault 6 = .ok (.getfield 29, 3) := by decide +kernel
theorem dX11_fault_9 : decode cX11_fault 9 = .ok (.ireturn, 1) := by decide +kernel
theorem dX11_keeps_0 : decode cX11_keeps 0 = .ok (.aload_n 0, 1) := by decide +kernel
theorem dX11_keeps_1 : decode cX11_keeps 1 = .ok (.getfield 264, 3) := by decide +kernel
theorem dX11_keeps_4 : decode cX11_keeps 4 = .ok (.bipush 40, 2) := by decide +kernel
theorem dX11_keeps_6 : decode cX11_keeps 6 = .ok (.if_icmp .ne 44, 3) := by decide +kernel
theorem dX11_keeps_9 : decode cX11_keeps 9 = .ok (.bipush 33, 2) := by decide +kernel
theorem dX11_keeps_11 : decode cX11_keeps 11 = .ok (.istore_n 1, 1) := by decide +kernel
theorem dX11_keeps_12 : decode cX11_keeps 12 = .ok (.iload_n 1, 1) := by decide +kernel
theorem dX11_keeps_13 : decode cX11_keeps 13 = .ok (.sipush 1320, 3) := by decide +kernel
theorem dX11_keeps_16 : decode cX11_keeps 16 = .ok (.if_icmp .ge 24, 3) := by decide +kernel
theorem dX11_keeps_19 : decode cX11_keeps 19 = .ok (.aload_n 0, 1) := by decide +kernel
theorem dX11_keeps_20 : decode cX11_keeps 20 = .ok (.getfield 54, 3) := by decide +kernel
theorem dX11_keeps_23 : decode cX11_keeps 23 = .ok (.iload_n 1, 1) := by decide +kernel
theorem dX11_keeps_24 : decode cX11_keeps 24 = .ok (.bipush 33, 2) := by decide +kernel
theorem dX11_keeps_26 : decode cX11_keeps 26 = .ok (.isub, 1) := by decide +kernel
theorem dX11_keeps_27 : decode cX11_keeps 27 = .ok (.aload_n 0, 1) := by decide +kernel
theorem dX11_keeps_28 : decode cX11_keeps 28 = .ok (.getfield 54, 3) := by decide +kernel
theorem dX11_keeps_31 : decode cX11_keeps 31 = .ok (.iload_n 1, 1) := by decide +kernel
theorem dX11_keeps_32 : decode cX11_keeps 32 = .ok (.iaload, 1) := by decide +kernel
theorem dX11_keeps_33 : decode cX11_keeps 33 = .ok (.iastore, 1) := by decide +kernel
theorem dX11_keeps_34 : decode cX11_keeps 34 = .ok (.iinc 1 1, 3) := by decide +kernel
theorem dX11_keeps_37 : decode cX11_keeps 37 = .ok (.goto (-25), 3) := by decide +kernel
theorem dX11_keeps_40 : decode cX11_keeps 40 = .ok (.aload_n 0, 1) := by decide +kernel
theorem dX11_keeps_41 : decode cX11_keeps 41 = .ok (.dup, 1) := by decide +kernel
theorem dX11_keeps_42 : decode cX11_keeps 42 = .ok (.getfield 264, 3) := by decide +kernel
theorem dX11_keeps_45 : decode cX11_keeps 45 = .ok (.iconst 1, 1) := by decide +kernel
theorem dX11_keeps_46 : decode cX11_keeps 46 = .ok (.isub, 1) := by decide +kernel
theorem dX11_keeps_47 : decode cX11_keeps 47 = .ok (.putfield 264, 3) := by decide +kernel
theorem dX11_keeps_50 : decode cX11_keeps 50 = .ok (.iconst 0, 1) := by decide +kernel
theorem dX11_keeps_51 : decode cX11_keeps 51 = .ok (.istore_n 1, 1) := by decide +kernel
theorem dX11_keeps_52 : decode cX11_keeps 52 = .ok (.iload_n 1, 1) := by decide +kernel
theorem dX11_keeps_53 : decode cX11_keeps 53 = .ok (.bipush 33, 2) := by decide +kernel
theorem dX11_keeps_55 : decode cX11_keeps 55 = .ok (.if_icmp .ge 29, 3) := by decide +kernel
theorem dX11_keeps_58 : decode cX11_keeps 58 = .ok (.aload_n 0, 1) := by decide +kernel
theorem dX11_keeps_59 : decode cX11_keeps 59 = .ok (.getfield 54, 3) := by decide +kernel
theorem dX11_keeps_62 : decode cX11_keeps 62 = .ok (.bipush 33, 2) := by decide +kernel
theorem dX11_keeps_64 : decode cX11_keeps 64 = .ok (.aload_n 0, 1) := by decide +kernel
theorem dX11_keeps_65 : decode cX11_keeps 65 = .ok (.getfield 264, 3) := by decide +kernel
theorem dX11_keeps_68 : decode cX11_keeps 68 = .ok (.imul, 1) := by decide +kernel
theorem dX11_keeps_69 : decode cX11_keeps 69 = .ok (.iload_n 1, 1) := by decide +kernel
theorem dX11_keeps_70 : decode cX11_keeps 70 = .ok (.iadd, 1) := by decide +kernel
theorem dX11_keeps_71 : decode cX11_keeps 71 = .ok (.aload_n 0, 1) := by decide +kernel
theorem dX11_keeps_72 : decode cX11_keeps 72 = .ok (.getfield 51, 3) := by decide +kernel
theorem dX11_keeps_75 : decode cX11_keeps 75 = .ok (.iload_n 1, 1) := by decide +kernel
theorem dX11_keeps_76 : decode cX11_keeps 76 = .ok (.iaload, 1) := by decide +kernel
theorem dX11_keeps_77 : decode cX11_keeps 77 = .ok (.iastore, 1) := by decide +kernel
theorem dX11_keeps_78 : decode cX11_keeps 78 = .ok (.iinc 1 1, 3) := by decide +kernel
theorem dX11_keeps_81 : decode cX11_keeps 81 = .ok (.goto (-29), 3) := by decide +kernel
theorem dX11_keeps_84 : decode cX11_keeps 84 = .ok (.aload_n 0, 1) := by decide +kernel
theorem dX11_keeps_85 : decode cX11_keeps 85 = .ok (.dup, 1) := by decide +kernel
theorem dX11_keeps_86 : decode cX11_keeps 86 = .ok (.getfield 264, 3) := by decide +kernel
theorem dX11_keeps_89 : decode cX11_keeps 89 = .ok (.iconst 1, 1) := by decide +kernel
theorem dX11_keeps_90 : decode cX11_keeps 90 = .ok (.iadd, 1) := by decide +kernel
theorem dX11_keeps_91 : decode cX11_keeps 91 = .ok (.putfield 264, 3) := by decide +kernel
theorem dX11_keeps_94 : decode cX11_keeps 94 = .ok (.return_, 1) := by decide +kernel
theorem dX11_refuses_0 : decode cX11_refuses 0 = .ok (.aload_n 0, 1) := by decide +kernel
theorem dX11_refuses_1 : decode cX11_refuses 1 = .ok (.getfield 32, 3) := by decide +kernel
theorem dX11_refuses_4 : decode cX11_refuses 4 = .ok (.iload_n 1, 1) := by decide +kernel
theorem dX11_refuses_5 : decode cX11_refuses 5 = .ok (.dup2, 1) := by decide +kernel
theorem dX11_refuses_6 : decode cX11_refuses 6 = .ok (.iaload, 1) := by decide +kernel
theorem dX11_refuses_7 : decode cX11_refuses 7 = .ok (.iconst 1, 1) := by decide +kernel
theorem dX11_refuses_8 : decode cX11_refuses 8 = .ok (.iadd, 1) := by decide +kernel
theorem dX11_refuses_9 : decode cX11_refuses 9 = .ok (.iastore, 1) := by decide +kernel
theorem dX11_refuses_10 : decode cX11_refuses 10 = .ok (.iconst (-1), 1) := by decide +kernel
theorem dX11_refuses_11 : decode cX11_refuses 11 = .ok (.ireturn, 1) := by decide +kernel
theorem dX11_undo_0 : decode cX11_undo 0 = .ok (.aload_n 0, 1) := by decide +kernel
theorem dX11_undo_1 : decode cX11_undo 1 = .ok (.iconst 0, 1) := by decide +kernel
theorem dX11_undo_2 : decode cX11_undo 2 = .ok (.putfield 84, 3) := by decide +kernel
theorem dX11_undo_5 : decode cX11_undo 5 = .ok (.aload_n 0, 1) := by decide +kernel
theorem dX11_undo_6 : decode cX11_undo 6 = .ok (.getfield 264, 3) := by decide +kernel
theorem dX11_undo_9 : decode cX11_undo 9 = .ok (.ifCond .ne 5, 3) := by decide +kernel
theorem dX11_undo_12 : decode cX11_undo 12 = .ok (.iconst (-1), 1) := by decide +kernel
theorem dX11_undo_13 : decode cX11_undo 13 = .ok (.ireturn, 1) := by decide +kernel
theorem dX11_undo_14 : decode cX11_undo 14 = .ok (.aload_n 0, 1) := by decide +kernel
theorem dX11_undo_15 : decode cX11_undo 15 = .ok (.dup, 1) := by decide +kernel
theorem dX11_undo_16 : decode cX11_undo 16 = .ok (.getfield 264, 3) := by decide +kernel
theorem dX11_undo_19 : decode cX11_undo 19 = .ok (.iconst 1, 1) := by decide +kernel
theorem dX11_undo_20 : decode cX11_undo 20 = .ok (.isub, 1) := by decide +kernel
theorem dX11_undo_21 : decode cX11_undo 21 = .ok (.putfield 264, 3) := by decide +kernel
theorem dX11_undo_24 : decode cX11_undo 24 = .ok (.iconst 0, 1) := by decide +kernel
theorem dX11_undo_25 : decode cX11_undo 25 = .ok (.istore_n 1, 1) := by decide +kernel
theorem dX11_undo_26 : decode cX11_undo 26 = .ok (.iload_n 1, 1) := by decide +kernel
theorem dX11_undo_27 : decode cX11_undo 27 = .ok (.bipush 33, 2) := by decide +kernel
theorem dX11_undo_29 : decode cX11_undo 29 = .ok (.if_icmp .ge 29, 3) := by decide +kernel
theorem dX11_undo_32 : decode cX11_undo 32 = .ok (.aload_n 0, 1) := by decide +kernel
theorem dX11_undo_33 : decode cX11_undo 33 = .ok (.getfield 51, 3) := by decide +kernel
theorem dX11_undo_36 : decode cX11_undo 36 = .ok (.iload_n 1, 1) := by decide +kernel
theorem dX11_undo_37 : decode cX11_undo 37 = .ok (.aload_n 0, 1) := by decide +kernel
theorem dX11_undo_38 : decode cX11_undo 38 = .ok (.getfield 54, 3) := by decide +kernel
theorem dX11_undo_41 : decode cX11_undo 41 = .ok (.bipush 33, 2) := by decide +kernel
theorem dX11_undo_43 : decode cX11_undo 43 = .ok (.aload_n 0, 1) := by decide +kernel
theorem dX11_undo_44 : decode cX11_undo 44 = .ok (.getfield 264, 3) := by decide +kernel
theorem dX11_undo_47 : decode cX11_undo 47 = .ok (.imul, 1) := by decide +kernel
theorem dX11_undo_48 : decode cX11_undo 48 = .ok (.iload_n 1, 1) := by decide +kernel
theorem dX11_undo_49 : decode cX11_undo 49 = .ok (.iadd, 1) := by decide +kernel
theorem dX11_undo_50 : decode cX11_undo 50 = .ok (.iaload, 1) := by decide +kernel
theorem dX11_undo_51 : decode cX11_undo 51 = .ok (.iastore, 1) := by decide +kernel
theorem dX11_undo_52 : decode cX11_undo 52 = .ok (.iinc 1 1, 3) := by decide +kernel
theorem dX11_undo_55 : decode cX11_undo 55 = .ok (.goto (-29), 3) := by decide +kernel
theorem dX11_undo_58 : decode cX11_undo 58 = .ok (.aload_n 0, 1) := by decide +kernel
theorem dX11_undo_59 : decode cX11_undo 59 = .ok (.getfield 264, 3) := by decide +kernel
theorem dX11_undo_62 : decode cX11_undo 62 = .ok (.ireturn, 1) := by decide +kernel
theorem dX11_tries_0 : decode cX11_tries 0 = .ok (.iconst 0, 1) := by decide +kernel
theorem dX11_tries_1 : decode cX11_tries 1 = .ok (.istore_n 1, 1) := by decide +kernel
theorem dX11_tries_2 : decode cX11_tries 2 = .ok (.iload_n 1, 1) := by decide +kernel
theorem dX11_tries_3 : decode cX11_tries 3 = .ok (.bipush 33, 2) := by decide +kernel
theorem dX11_tries_5 : decode cX11_tries 5 = .ok (.if_icmp .ge 24, 3) := by decide +kernel
theorem dX11_tries_8 : decode cX11_tries 8 = .ok (.aload_n 0, 1) := by decide +kernel
theorem dX11_tries_9 : decode cX11_tries 9 = .ok (.getfield 51, 3) := by decide +kernel
theorem dX11_tries_12 : decode cX11_tries 12 = .ok (.bipush 33, 2) := by decide +kernel
theorem dX11_tries_14 : decode cX11_tries 14 = .ok (.iload_n 1, 1) := by decide +kernel
theorem dX11_tries_15 : decode cX11_tries 15 = .ok (.iadd, 1) := by decide +kernel
theorem dX11_tries_16 : decode cX11_tries 16 = .ok (.aload_n 0, 1) := by decide +kernel
theorem dX11_tries_17 : decode cX11_tries 17 = .ok (.getfield 51, 3) := by decide +kernel
theorem dX11_tries_20 : decode cX11_tries 20 = .ok (.iload_n 1, 1) := by decide +kernel
theorem dX11_tries_21 : decode cX11_tries 21 = .ok (.iaload, 1) := by decide +kernel
theorem dX11_tries_22 : decode cX11_tries 22 = .ok (.iastore, 1) := by decide +kernel
theorem dX11_tries_23 : decode cX11_tries 23 = .ok (.iinc 1 1, 3) := by decide +kernel
theorem dX11_tries_26 : decode cX11_tries 26 = .ok (.goto (-24), 3) := by decide +kernel
theorem dX11_tries_29 : decode cX11_tries 29 = .ok (.return_, 1) := by decide +kernel
theorem dX11_works_0 : decode cX11_works 0 = .ok (.iload_n 0, 1) := by decide +kernel
theorem dX11_works_1 : decode cX11_works 1 = .ok (.tableswitch 105 4 10 #[43, 57, 71, 82, 93, 97, 101], 43) := by decide +kernel
theorem dX11_works_44 : decode cX11_works 44 = .ok (.iload_n 1, 1) := by decide +kernel
theorem dX11_works_45 : decode cX11_works 45 = .ok (.ifCond .eq 11, 3) := by decide +kernel
theorem dX11_works_48 : decode cX11_works 48 = .ok (.iload_n 2, 1) := by decide +kernel
theorem dX11_works_49 : decode cX11_works 49 = .ok (.ifCond .eq 7, 3) := by decide +kernel
theorem dX11_works_52 : decode cX11_works 52 = .ok (.iconst 1, 1) := by decide +kernel
theorem dX11_works_53 : decode cX11_works 53 = .ok (.goto 4, 3) := by decide +kernel
theorem dX11_works_56 : decode cX11_works 56 = .ok (.iconst 0, 1) := by decide +kernel
theorem dX11_works_57 : decode cX11_works 57 = .ok (.ireturn, 1) := by decide +kernel
theorem dX11_works_58 : decode cX11_works 58 = .ok (.iload_n 1, 1) := by decide +kernel
theorem dX11_works_59 : decode cX11_works 59 = .ok (.ifCond .ne 7, 3) := by decide +kernel
theorem dX11_works_62 : decode cX11_works 62 = .ok (.iload_n 2, 1) := by decide +kernel
theorem dX11_works_63 : decode cX11_works 63 = .ok (.ifCond .eq 7, 3) := by decide +kernel
theorem dX11_works_66 : decode cX11_works 66 = .ok (.iconst 1, 1) := by decide +kernel
theorem dX11_works_67 : decode cX11_works 67 = .ok (.goto 4, 3) := by decide +kernel
theorem dX11_works_70 : decode cX11_works 70 = .ok (.iconst 0, 1) := by decide +kernel
theorem dX11_works_71 : decode cX11_works 71 = .ok (.ireturn, 1) := by decide +kernel
theorem dX11_works_72 : decode cX11_works 72 = .ok (.iload_n 1, 1) := by decide +kernel
theorem dX11_works_73 : decode cX11_works 73 = .ok (.iload_n 2, 1) := by decide +kernel
theorem dX11_works_74 : decode cX11_works 74 = .ok (.if_icmp .ge 7, 3) := by decide +kernel
theorem dX11_works_77 : decode cX11_works 77 = .ok (.iconst 1, 1) := by decide +kernel
theorem dX11_works_78 : decode cX11_works 78 = .ok (.goto 4, 3) := by decide +kernel
theorem dX11_works_81 : decode cX11_works 81 = .ok (.iconst 0, 1) := by decide +kernel
theorem dX11_works_82 : decode cX11_works 82 = .ok (.ireturn, 1) := by decide +kernel
theorem dX11_works_83 : decode cX11_works 83 = .ok (.iload_n 1, 1) := by decide +kernel
theorem dX11_works_84 : decode cX11_works 84 = .ok (.iload_n 2, 1) := by decide +kernel
theorem dX11_works_85 : decode cX11_works 85 = .ok (.if_icmp .ne 7, 3) := by decide +kernel
theorem dX11_works_88 : decode cX11_works 88 = .ok (.iconst 1, 1) := by decide +kernel
theorem dX11_works_89 : decode cX11_works 89 = .ok (.goto 4, 3) := by decide +kernel
theorem dX11_works_92 : decode cX11_works 92 = .ok (.iconst 0, 1) := by decide +kernel
theorem dX11_works_93 : decode cX11_works 93 = .ok (.ireturn, 1) := by decide +kernel
theorem dX11_works_94 : decode cX11_works 94 = .ok (.iload_n 1, 1) := by decide +kernel
theorem dX11_works_95 : decode cX11_works 95 = .ok (.iload_n 2, 1) := by decide +kernel
theorem dX11_works_96 : decode cX11_works 96 = .ok (.iadd, 1) := by decide +kernel
theorem dX11_works_97 : decode cX11_works 97 = .ok (.ireturn, 1) := by decide +kernel
theorem dX11_works_98 : decode cX11_works 98 = .ok (.iload_n 1, 1) := by decide +kernel
theorem dX11_works_99 : decode cX11_works 99 = .ok (.iload_n 2, 1) := by decide +kernel
theorem dX11_works_100 : decode cX11_works 100 = .ok (.isub, 1) := by decide +kernel
theorem dX11_works_101 : decode cX11_works 101 = .ok (.ireturn, 1) := by decide +kernel
theorem dX11_works_102 : decode cX11_works 102 = .ok (.iload_n 1, 1) := by decide +kernel
theorem dX11_works_103 : decode cX11_works 103 = .ok (.iload_n 2, 1) := by decide +kernel
theorem dX11_works_104 : decode cX11_works 104 = .ok (.imul, 1) := by decide +kernel
theorem dX11_works_105 : decode cX11_works 105 = .ok (.ireturn, 1) := by decide +kernel
theorem dX11_works_106 : decode cX11_works 106 = .ok (.iload_n 2, 1) := by decide +kernel
theorem dX11_works_107 : decode cX11_works 107 = .ok (.ifCond .ne 7, 3) := by decide +kernel
theorem dX11_works_110 : decode cX11_works 110 = .ok (.iconst 0, 1) := by decide +kernel
theorem dX11_works_111 : decode cX11_works 111 = .ok (.goto 6, 3) := by decide +kernel
theorem dX11_works_114 : decode cX11_works 114 = .ok (.iload_n 1, 1) := by decide +kernel
theorem dX11_works_115 : decode cX11_works 115 = .ok (.iload_n 2, 1) := by decide +kernel
theorem dX11_works_116 : decode cX11_works 116 = .ok (.idiv, 1) := by decide +kernel
theorem dX11_works_117 : decode cX11_works 117 = .ok (.ireturn, 1) := by decide +kernel
theorem dX11_reckons_0 : decode cX11_reckons 0 = .ok (.iconst 0, 1) := by decide +kernel
theorem dX11_reckons_1 : decode cX11_reckons 1 = .ok (.istore_n 2, 1) := by decide +kernel
theorem dX11_reckons_2 : decode cX11_reckons 2 = .ok (.iload_n 1, 1) := by decide +kernel
theorem dX11_reckons_3 : decode cX11_reckons 3 = .ok (.istore_n 3, 1) := by decide +kernel
theorem dX11_reckons_4 : decode cX11_reckons 4 = .ok (.aload_n 0, 1) := by decide +kernel
theorem dX11_reckons_5 : decode cX11_reckons 5 = .ok (.getfield 23, 3) := by decide +kernel
theorem dX11_reckons_8 : decode cX11_reckons 8 = .ok (.iload_n 3, 1) := by decide +kernel
theorem dX11_reckons_9 : decode cX11_reckons 9 = .ok (.iaload, 1) := by decide +kernel
theorem dX11_reckons_10 : decode cX11_reckons 10 = .ok (.ifCond .eq 133, 3) := by decide +kernel
theorem dX11_reckons_13 : decode cX11_reckons 13 = .ok (.aload_n 0, 1) := by decide +kernel
theorem dX11_reckons_14 : decode cX11_reckons 14 = .ok (.getfield 23, 3) := by decide +kernel
theorem dX11_reckons_17 : decode cX11_reckons 17 = .ok (.iload_n 3, 1) := by decide +kernel
theorem dX11_reckons_18 : decode cX11_reckons 18 = .ok (.iaload, 1) := by decide +kernel
theorem dX11_reckons_19 : decode cX11_reckons 19 = .ok (.istore 4, 2) := by decide +kernel
theorem dX11_reckons_21 : decode cX11_reckons 21 = .ok (.iinc 3 1, 3) := by decide +kernel
theorem dX11_reckons_24 : decode cX11_reckons 24 = .ok (.iload 4, 2) := by decide +kernel
theorem dX11_reckons_26 : decode cX11_reckons 26 = .ok (.iconst 1, 1) := by decide +kernel
theorem dX11_reckons_27 : decode cX11_reckons 27 = .ok (.if_icmp .eq 9, 3) := by decide +kernel
theorem dX11_reckons_30 : decode cX11_reckons 30 = .ok (.iload 4, 2) := by decide +kernel
theorem dX11_reckons_32 : decode cX11_reckons 32 = .ok (.iconst 2, 1) := by decide +kernel
theorem dX11_reckons_33 : decode cX11_reckons 33 = .ok (.if_icmp .ne 44, 3) := by decide +kernel
theorem dX11_reckons_36 : decode cX11_reckons 36 = .ok (.aload_n 0, 1) := by decide +kernel
theorem dX11_reckons_37 : decode cX11_reckons 37 = .ok (.getfield 60, 3) := by decide +kernel
theorem dX11_reckons_40 : decode cX11_reckons 40 = .ok (.iload_n 2, 1) := by decide +kernel
theorem dX11_reckons_41 : decode cX11_reckons 41 = .ok (.iload 4, 2) := by decide +kernel
theorem dX11_reckons_43 : decode cX11_reckons 43 = .ok (.iconst 1, 1) := by decide +kernel
theorem dX11_reckons_44 : decode cX11_reckons 44 = .ok (.if_icmp .ne 12, 3) := by decide +kernel
theorem dX11_reckons_47 : decode cX11_reckons 47 = .ok (.aload_n 0, 1) := by decide +kernel
theorem dX11_reckons_48 : decode cX11_reckons 48 = .ok (.getfield 23, 3) := by decide +kernel
theorem dX11_reckons_51 : decode cX11_reckons 51 = .ok (.iload_n 3, 1) := by decide +kernel
theorem dX11_reckons_52 : decode cX11_reckons 52 = .ok (.iaload, 1) := by decide +kernel
theorem dX11_reckons_53 : decode cX11_reckons 53 = .ok (.goto 14, 3) := by decide +kernel
theorem dX11_reckons_56 : decode cX11_reckons 56 = .ok (.aload_n 0, 1) := by decide +kernel
theorem dX11_reckons_57 : decode cX11_reckons 57 = .ok (.getfield 57, 3) := by decide +kernel
theorem dX11_reckons_60 : decode cX11_reckons 60 = .ok (.aload_n 0, 1) := by decide +kernel
theorem dX11_reckons_61 : decode cX11_reckons 61 = .ok (.getfield 23, 3) := by decide +kernel
theorem dX11_reckons_64 : decode cX11_reckons 64 = .ok (.iload_n 3, 1) := by decide +kernel
theorem dX11_reckons_65 : decode cX11_reckons 65 = .ok (.iaload, 1) := by decide +kernel
theorem dX11_reckons_66 : decode cX11_reckons 66 = .ok (.iaload, 1) := by decide +kernel
theorem dX11_reckons_67 : decode cX11_reckons 67 = .ok (.iastore, 1) := by decide +kernel
theorem dX11_reckons_68 : decode cX11_reckons 68 = .ok (.iinc 3 1, 3) := by decide +kernel
theorem dX11_reckons_71 : decode cX11_reckons 71 = .ok (.iinc 2 1, 3) := by decide +kernel
theorem dX11_reckons_74 : decode cX11_reckons 74 = .ok (.goto 66, 3) := by decide +kernel
theorem dX11_reckons_77 : decode cX11_reckons 77 = .ok (.iload 4, 2) := by decide +kernel
theorem dX11_reckons_79 : decode cX11_reckons 79 = .ok (.iconst 3, 1) := by decide +kernel
theorem dX11_reckons_80 : decode cX11_reckons 80 = .ok (.if_icmp .ne 30, 3) := by decide +kernel
theorem dX11_reckons_83 : decode cX11_reckons 83 = .ok (.aload_n 0, 1) := by decide +kernel
theorem dX11_reckons_84 : decode cX11_reckons 84 = .ok (.getfield 60, 3) := by decide +kernel
theorem dX11_reckons_87 : decode cX11_reckons 87 = .ok (.iload_n 2, 1) := by decide +kernel
theorem dX11_reckons_88 : decode cX11_reckons 88 = .ok (.iconst 1, 1) := by decide +kernel
theorem dX11_reckons_89 : decode cX11_reckons 89 = .ok (.isub, 1) := by decide +kernel
theorem dX11_reckons_90 : decode cX11_reckons 90 = .ok (.aload_n 0, 1) := by decide +kernel
theorem dX11_reckons_91 : decode cX11_reckons 91 = .ok (.getfield 60, 3) := by decide +kernel
theorem dX11_reckons_94 : decode cX11_reckons 94 = .ok (.iload_n 2, 1) := by decide +kernel
theorem dX11_reckons_95 : decode cX11_reckons 95 = .ok (.iconst 1, 1) := by decide +kernel
theorem dX11_reckons_96 : decode cX11_reckons 96 = .ok (.isub, 1) := by decide +kernel
theorem dX11_reckons_97 : decode cX11_reckons 97 = .ok (.iaload, 1) := by decide +kernel
theorem dX11_reckons_98 : decode cX11_reckons 98 = .ok (.ifCond .ne 7, 3) := by decide +kernel
theorem dX11_reckons_101 : decode cX11_reckons 101 = .ok (.iconst 1, 1) := by decide +kernel
theorem dX11_reckons_102 : decode cX11_reckons 102 = .ok (.goto 4, 3) := by decide +kernel
theorem dX11_reckons_105 : decode cX11_reckons 105 = .ok (.iconst 0, 1) := by decide +kernel
theorem dX11_reckons_106 : decode cX11_reckons 106 = .ok (.iastore, 1) := by decide +kernel
theorem dX11_reckons_107 : decode cX11_reckons 107 = .ok (.goto 33, 3) := by decide +kernel
theorem dX11_reckons_110 : decode cX11_reckons 110 = .ok (.iinc 2 (-1), 3) := by decide +kernel
theorem dX11_reckons_113 : decode cX11_reckons 113 = .ok (.aload_n 0, 1) := by decide +kernel
theorem dX11_reckons_114 : decode cX11_reckons 114 = .ok (.getfield 60, 3) := by decide +kernel
theorem dX11_reckons_117 : decode cX11_reckons 117 = .ok (.iload_n 2, 1) := by decide +kernel
theorem dX11_reckons_118 : decode cX11_reckons 118 = .ok (.iconst 1, 1) := by decide +kernel
theorem dX11_reckons_119 : decode cX11_reckons 119 = .ok (.isub, 1) := by decide +kernel
theorem dX11_reckons_120 : decode cX11_reckons 120 = .ok (.iload 4, 2) := by decide +kernel
theorem dX11_reckons_122 : decode cX11_reckons 122 = .ok (.aload_n 0, 1) := by decide +kernel
theorem dX11_reckons_123 : decode cX11_reckons 123 = .ok (.getfield 60, 3) := by decide +kernel
theorem dX11_reckons_126 : decode cX11_reckons 126 = .ok (.iload_n 2, 1) := by decide +kernel
theorem dX11_reckons_127 : decode cX11_reckons 127 = .ok (.iconst 1, 1) := by decide +kernel
theorem dX11_reckons_128 : decode cX11_reckons 128 = .ok (.isub, 1) := by decide +kernel
theorem dX11_reckons_129 : decode cX11_reckons 129 = .ok (.iaload, 1) := by decide +kernel
theorem dX11_reckons_130 : decode cX11_reckons 130 = .ok (.aload_n 0, 1) := by decide +kernel
theorem dX11_reckons_131 : decode cX11_reckons 131 = .ok (.getfield 60, 3) := by decide +kernel
theorem dX11_reckons_134 : decode cX11_reckons 134 = .ok (.iload_n 2, 1) := by decide +kernel
theorem dX11_reckons_135 : decode cX11_reckons 135 = .ok (.iaload, 1) := by decide +kernel
theorem dX11_reckons_136 : decode cX11_reckons 136 = .ok (.invokestatic 274, 3) := by decide +kernel
theorem dX11_reckons_139 : decode cX11_reckons 139 = .ok (.iastore, 1) := by decide +kernel
theorem dX11_reckons_140 : decode cX11_reckons 140 = .ok (.goto (-136), 3) := by decide +kernel
theorem dX11_reckons_143 : decode cX11_reckons 143 = .ok (.aload_n 0, 1) := by decide +kernel
theorem dX11_reckons_144 : decode cX11_reckons 144 = .ok (.getfield 60, 3) := by decide +kernel
theorem dX11_reckons_147 : decode cX11_reckons 147 = .ok (.iconst 0, 1) := by decide +kernel
theorem dX11_reckons_148 : decode cX11_reckons 148 = .ok (.iaload, 1) := by decide +kernel
theorem dX11_reckons_149 : decode cX11_reckons 149 = .ok (.ireturn, 1) := by decide +kernel
theorem dX11_mudOf_0 : decode cX11_mudOf 0 = .ok (.aload_n 0, 1) := by decide +kernel
theorem dX11_mudOf_1 : decode cX11_mudOf 1 = .ok (.getfield 63, 3) := by decide +kernel
theorem dX11_mudOf_4 : decode cX11_mudOf 4 = .ok (.iconst (-1), 1) := by decide +kernel
theorem dX11_mudOf_5 : decode cX11_mudOf 5 = .ok (.if_icmp .eq 8, 3) := by decide +kernel
theorem dX11_mudOf_8 : decode cX11_mudOf 8 = .ok (.aload_n 0, 1) := by decide +kernel
theorem dX11_mudOf_9 : decode cX11_mudOf 9 = .ok (.getfield 63, 3) := by decide +kernel
theorem dX11_mudOf_12 : decode cX11_mudOf 12 = .ok (.ireturn, 1) := by decide +kernel
theorem dX11_mudOf_13 : decode cX11_mudOf 13 = .ok (.aload_n 0, 1) := by decide +kernel
theorem dX11_mudOf_14 : decode cX11_mudOf 14 = .ok (.getfield 257, 3) := by decide +kernel
theorem dX11_mudOf_17 : decode cX11_mudOf 17 = .ok (.ifCond .ne 7, 3) := by decide +kernel
theorem dX11_mudOf_20 : decode cX11_mudOf 20 = .ok (.iconst 2, 1) := by decide +kernel
theorem dX11_mudOf_21 : decode cX11_mudOf 21 = .ok (.goto 14, 3) := by decide +kernel
theorem dX11_mudOf_24 : decode cX11_mudOf 24 = .ok (.aload_n 0, 1) := by decide +kernel
theorem dX11_mudOf_25 : decode cX11_mudOf 25 = .ok (.getfield 19, 3) := by decide +kernel
theorem dX11_mudOf_28 : decode cX11_mudOf 28 = .ok (.iload_n 1, 1) := by decide +kernel
theorem dX11_mudOf_29 : decode cX11_mudOf 29 = .ok (.aload_n 0, 1) := by decide +kernel
theorem dX11_mudOf_30 : decode cX11_mudOf 30 = .ok (.getfield 257, 3) := by decide +kernel
theorem dX11_mudOf_33 : decode cX11_mudOf 33 = .ok (.irem, 1) := by decide +kernel
theorem dX11_mudOf_34 : decode cX11_mudOf 34 = .ok (.iaload, 1) := by decide +kernel
theorem dX11_mudOf_35 : decode cX11_mudOf 35 = .ok (.ireturn, 1) := by decide +kernel
theorem dX11_loudOf_0 : decode cX11_loudOf 0 = .ok (.iload_n 2, 1) := by decide +kernel
theorem dX11_loudOf_1 : decode cX11_loudOf 1 = .ok (.ifCond .lt 11, 3) := by decide +kernel
theorem dX11_loudOf_4 : decode cX11_loudOf 4 = .ok (.iload_n 2, 1) := by decide +kernel
theorem dX11_loudOf_5 : decode cX11_loudOf 5 = .ok (.aload_n 0, 1) := by decide +kernel
theorem dX11_loudOf_6 : decode cX11_loudOf 6 = .ok (.getfield 254, 3) := by decide +kernel
theorem dX11_loudOf_9 : decode cX11_loudOf 9 = .ok (.if_icmp .lt 5, 3) := by decide +kernel
theorem dX11_loudOf_12 : decode cX11_loudOf 12 = .ok (.iconst 0, 1) := by decide +kernel
theorem dX11_loudOf_13 : decode cX11_loudOf 13 = .ok (.ireturn, 1) := by decide +kernel
theorem dX11_loudOf_14 : decode cX11_loudOf 14 = .ok (.iconst 0, 1) := by decide +kernel
theorem dX11_loudOf_15 : decode cX11_loudOf 15 = .ok (.istore 4, 2) := by decide +kernel
theorem dX11_loudOf_17 : decode cX11_loudOf 17 = .ok (.iconst 0, 1) := by decide +kernel
theorem dX11_loudOf_18 : decode cX11_loudOf 18 = .ok (.istore 5, 2) := by decide +kernel
theorem dX11_loudOf_20 : decode cX11_loudOf 20 = .ok (.iload 5, 2) := by decide +kernel
theorem dX11_loudOf_22 : decode cX11_loudOf 22 = .ok (.aload_n 0, 1) := by decide +kernel
theorem dX11_loudOf_23 : decode cX11_loudOf 23 = .ok (.getfield 251, 3) := by decide +kernel
theorem dX11_loudOf_26 : decode cX11_loudOf 26 = .ok (.if_icmp .ge 69, 3) := by decide +kernel
theorem dX11_loudOf_29 : decode cX11_loudOf 29 = .ok (.iload 4, 2) := by decide +kernel
theorem dX11_loudOf_31 : decode cX11_loudOf 31 = .ok (.aload_n 0, 1) := by decide +kernel
theorem dX11_loudOf_32 : decode cX11_loudOf 32 = .ok (.getfield 51, 3) := by decide +kernel
theorem dX11_loudOf_35 : decode cX11_loudOf 35 = .ok (.iload_n 1, 1) := by decide +kernel
theorem dX11_loudOf_36 : decode cX11_loudOf 36 = .ok (.bipush 25, 2) := by decide +kernel
theorem dX11_loudOf_38 : decode cX11_loudOf 38 = .ok (.iadd, 1) := by decide +kernel
theorem dX11_loudOf_39 : decode cX11_loudOf 39 = .ok (.iload_n 2, 1) := by decide +kernel
theorem dX11_loudOf_40 : decode cX11_loudOf 40 = .ok (.iadd, 1) := by decide +kernel
theorem dX11_loudOf_41 : decode cX11_loudOf 41 = .ok (.iaload, 1) := by decide +kernel
theorem dX11_loudOf_42 : decode cX11_loudOf 42 = .ok (.iload 5, 2) := by decide +kernel
theorem dX11_loudOf_44 : decode cX11_loudOf 44 = .ok (.ishr, 1) := by decide +kernel
theorem dX11_loudOf_45 : decode cX11_loudOf 45 = .ok (.iconst 1, 1) := by decide +kernel
theorem dX11_loudOf_46 : decode cX11_loudOf 46 = .ok (.iand, 1) := by decide +kernel
theorem dX11_loudOf_47 : decode cX11_loudOf 47 = .ok (.iconst 1, 1) := by decide +kernel
theorem dX11_loudOf_48 : decode cX11_loudOf 48 = .ok (.if_icmp .ne 37, 3) := by decide +kernel
theorem dX11_loudOf_51 : decode cX11_loudOf 51 = .ok (.aload_n 0, 1) := by decide +kernel
theorem dX11_loudOf_52 : decode cX11_loudOf 52 = .ok (.getfield 51, 3) := by decide +kernel
theorem dX11_loudOf_55 : decode cX11_loudOf 55 = .ok (.iload_n 1, 1) := by decide +kernel
theorem dX11_loudOf_56 : decode cX11_loudOf 56 = .ok (.iconst 1, 1) := by decide +kernel
theorem dX11_loudOf_57 : decode cX11_loudOf 57 = .ok (.iadd, 1) := by decide +kernel
theorem dX11_loudOf_58 : decode cX11_loudOf 58 = .ok (.iload 5, 2) := by decide +kernel
theorem dX11_loudOf_60 : decode cX11_loudOf 60 = .ok (.iadd, 1) := by decide +kernel
theorem dX11_loudOf_61 : decode cX11_loudOf 61 = .ok (.iaload, 1) := by decide +kernel
theorem dX11_loudOf_62 : decode cX11_loudOf 62 = .ok (.iload_n 3, 1) := by decide +kernel
theorem dX11_loudOf_63 : decode cX11_loudOf 63 = .ok (.ishr, 1) := by decide +kernel
theorem dX11_loudOf_64 : decode cX11_loudOf 64 = .ok (.iconst 1, 1) := by decide +kernel
theorem dX11_loudOf_65 : decode cX11_loudOf 65 = .ok (.iand, 1) := by decide +kernel
theorem dX11_loudOf_66 : decode cX11_loudOf 66 = .ok (.iconst 1, 1) := by decide +kernel
theorem dX11_loudOf_67 : decode cX11_loudOf 67 = .ok (.if_icmp .ne 18, 3) := by decide +kernel
theorem dX11_loudOf_70 : decode cX11_loudOf 70 = .ok (.aload_n 0, 1) := by decide +kernel
theorem dX11_loudOf_71 : decode cX11_loudOf 71 = .ok (.getfield 51, 3) := by decide +kernel
theorem dX11_loudOf_74 : decode cX11_loudOf 74 = .ok (.iload_n 1, 1) := by decide +kernel
theorem dX11_loudOf_75 : decode cX11_loudOf 75 = .ok (.bipush 9, 2) := by decide +kernel
theorem dX11_loudOf_77 : decode cX11_loudOf 77 = .ok (.iadd, 1) := by decide +kernel
theorem dX11_loudOf_78 : decode cX11_loudOf 78 = .ok (.iload 5, 2) := by decide +kernel
theorem dX11_loudOf_80 : decode cX11_loudOf 80 = .ok (.iadd, 1) := by decide +kernel
theorem dX11_loudOf_81 : decode cX11_loudOf 81 = .ok (.iaload, 1) := by decide +kernel
theorem dX11_loudOf_82 : decode cX11_loudOf 82 = .ok (.goto 4, 3) := by decide +kernel
theorem dX11_loudOf_85 : decode cX11_loudOf 85 = .ok (.iconst 0, 1) := by decide +kernel
theorem dX11_loudOf_86 : decode cX11_loudOf 86 = .ok (.iadd, 1) := by decide +kernel
theorem dX11_loudOf_87 : decode cX11_loudOf 87 = .ok (.istore 4, 2) := by decide +kernel
theorem dX11_loudOf_89 : decode cX11_loudOf 89 = .ok (.iinc 5 1, 3) := by decide +kernel
theorem dX11_loudOf_92 : decode cX11_loudOf 92 = .ok (.goto (-72), 3) := by decide +kernel
theorem dX11_loudOf_95 : decode cX11_loudOf 95 = .ok (.iload 4, 2) := by decide +kernel
theorem dX11_loudOf_97 : decode cX11_loudOf 97 = .ok (.ireturn, 1) := by decide +kernel
theorem dX11_heardOf_0 : decode cX11_heardOf 0 = .ok (.aload_n 0, 1) := by decide +kernel
theorem dX11_heardOf_1 : decode cX11_heardOf 1 = .ok (.aload_n 0, 1) := by decide +kernel
theorem dX11_heardOf_2 : decode cX11_heardOf 2 = .ok (.getfield 51, 3) := by decide +kernel
theorem dX11_heardOf_5 : decode cX11_heardOf 5 = .ok (.iload_n 1, 1) := by decide +kernel
theorem dX11_heardOf_6 : decode cX11_heardOf 6 = .ok (.iconst 0, 1) := by decide +kernel
theorem dX11_heardOf_7 : decode cX11_heardOf 7 = .ok (.iadd, 1) := by decide +kernel
theorem dX11_heardOf_8 : decode cX11_heardOf 8 = .ok (.iaload, 1) := by decide +kernel
theorem dX11_heardOf_9 : decode cX11_heardOf 9 = .ok (.invokevirtual 278, 3) := by decide +kernel
theorem dX11_heardOf_12 : decode cX11_heardOf 12 = .ok (.istore_n 3, 1) := by decide +kernel
theorem dX11_heardOf_13 : decode cX11_heardOf 13 = .ok (.iconst 0, 1) := by decide +kernel
theorem dX11_heardOf_14 : decode cX11_heardOf 14 = .ok (.istore 4, 2) := by decide +kernel
theorem dX11_heardOf_16 : decode cX11_heardOf 16 = .ok (.iconst 0, 1) := by decide +kernel
theorem dX11_heardOf_17 : decode cX11_heardOf 17 = .ok (.istore 5, 2) := by decide +kernel
theorem dX11_heardOf_19 : decode cX11_heardOf 19 = .ok (.iconst 0, 1) := by decide +kernel
theorem dX11_heardOf_20 : decode cX11_heardOf 20 = .ok (.istore 6, 2) := by decide +kernel
theorem dX11_heardOf_22 : decode cX11_heardOf 22 = .ok (.iload 6, 2) := by decide +kernel
theorem dX11_heardOf_24 : decode cX11_heardOf 24 = .ok (.aload_n 0, 1) := by decide +kernel
theorem dX11_heardOf_25 : decode cX11_heardOf 25 = .ok (.getfield 7, 3) := by decide +kernel
theorem dX11_heardOf_28 : decode cX11_heardOf 28 = .ok (.if_icmp .ge 158, 3) := by decide +kernel
theorem dX11_heardOf_31 : decode cX11_heardOf 31 = .ok (.aload_n 0, 1) := by decide +kernel
theorem dX11_heardOf_32 : decode cX11_heardOf 32 = .ok (.iload_n 1, 1) := by decide +kernel
theorem dX11_heardOf_33 : decode cX11_heardOf 33 = .ok (.iload_n 2, 1) := by decide +kernel
theorem dX11_heardOf_34 : decode cX11_heardOf 34 = .ok (.iload 6, 2) := by decide +kernel
theorem dX11_heardOf_36 : decode cX11_heardOf 36 = .ok (.invokevirtual 281, 3) := by decide +kernel
theorem dX11_heardOf_39 : decode cX11_heardOf 39 = .ok (.istore 7, 2) := by decide +kernel
theorem dX11_heardOf_41 : decode cX11_heardOf 41 = .ok (.iload 7, 2) := by decide +kernel
theorem dX11_heardOf_43 : decode cX11_heardOf 43 = .ok (.iload_n 3, 1) := by decide +kernel
theorem dX11_heardOf_44 : decode cX11_heardOf 44 = .ok (.if_icmp .le 7, 3) := by decide +kernel
theorem dX11_heardOf_47 : decode cX11_heardOf 47 = .ok (.iconst 1, 1) := by decide +kernel
theorem dX11_heardOf_48 : decode cX11_heardOf 48 = .ok (.goto 4, 3) := by decide +kernel
theorem dX11_heardOf_51 : decode cX11_heardOf 51 = .ok (.iconst 0, 1) := by decide +kernel
theorem dX11_heardOf_52 : decode cX11_heardOf 52 = .ok (.istore 8, 2) := by decide +kernel
theorem dX11_heardOf_54 : decode cX11_heardOf 54 = .ok (.aload_n 0, 1) := by decide +kernel
theorem dX11_heardOf_55 : decode cX11_heardOf 55 = .ok (.getfield 16, 3) := by decide +kernel
theorem dX11_heardOf_58 : decode cX11_heardOf 58 = .ok (.iconst (-1), 1) := by decide +kernel
theorem dX11_heardOf_59 : decode cX11_heardOf 59 = .ok (.if_icmp .eq 99, 3) := by decide +kernel
theorem dX11_heardOf_62 : decode cX11_heardOf 62 = .ok (.aload_n 0, 1) := by decide +kernel
theorem dX11_heardOf_63 : decode cX11_heardOf 63 = .ok (.getfield 57, 3) := by decide +kernel
theorem dX11_heardOf_66 : decode cX11_heardOf 66 = .ok (.iconst 0, 1) := by decide +kernel
theorem dX11_heardOf_67 : decode cX11_heardOf 67 = .ok (.iload 7, 2) := by decide +kernel
theorem dX11_heardOf_69 : decode cX11_heardOf 69 = .ok (.iastore, 1) := by decide +kernel
theorem dX11_heardOf_70 : decode cX11_heardOf 70 = .ok (.aload_n 0, 1) := by decide +kernel
theorem dX11_heardOf_71 : decode cX11_heardOf 71 = .ok (.getfield 57, 3) := by decide +kernel
theorem dX11_heardOf_74 : decode cX11_heardOf 74 = .ok (.iconst 1, 1) := by decide +kernel
theorem dX11_heardOf_75 : decode cX11_heardOf 75 = .ok (.aload_n 0, 1) := by decide +kernel
theorem dX11_heardOf_76 : decode cX11_heardOf 76 = .ok (.iload_n 1, 1) := by decide +kernel
theorem dX11_heardOf_77 : decode cX11_heardOf 77 = .ok (.iload_n 2, 1) := by decide +kernel
theorem dX11_heardOf_78 : decode cX11_heardOf 78 = .ok (.iconst 1, 1) := by decide +kernel
theorem dX11_heardOf_79 : decode cX11_heardOf 79 = .ok (.isub, 1) := by decide +kernel
theorem dX11_heardOf_80 : decode cX11_heardOf 80 = .ok (.iload 6, 2) := by decide +kernel
theorem dX11_heardOf_82 : decode cX11_heardOf 82 = .ok (.invokevirtual 281, 3) := by decide +kernel
theorem dX11_heardOf_85 : decode cX11_heardOf 85 = .ok (.aload_n 0, 1) := by decide +kernel
theorem dX11_heardOf_86 : decode cX11_heardOf 86 = .ok (.iload_n 1, 1) := by decide +kernel
theorem dX11_heardOf_87 : decode cX11_heardOf 87 = .ok (.iload_n 2, 1) := by decide +kernel
theorem dX11_heardOf_88 : decode cX11_heardOf 88 = .ok (.iconst 1, 1) := by decide +kernel
theorem dX11_heardOf_89 : decode cX11_heardOf 89 = .ok (.iadd, 1) := by decide +kernel
theorem dX11_heardOf_90 : decode cX11_heardOf 90 = .ok (.iload 6, 2) := by decide +kernel
theorem dX11_heardOf_92 : decode cX11_heardOf 92 = .ok (.invokevirtual 281, 3) := by decide +kernel
theorem dX11_heardOf_95 : decode cX11_heardOf 95 = .ok (.iadd, 1) := by decide +kernel
theorem dX11_heardOf_96 : decode cX11_heardOf 96 = .ok (.iastore, 1) := by decide +kernel
theorem dX11_heardOf_97 : decode cX11_heardOf 97 = .ok (.aload_n 0, 1) := by decide +kernel
theorem dX11_heardOf_98 : decode cX11_heardOf 98 = .ok (.getfield 57, 3) := by decide +kernel
theorem dX11_heardOf_101 : decode cX11_heardOf 101 = .ok (.iconst 2, 1) := by decide +kernel
theorem dX11_heardOf_102 : decode cX11_heardOf 102 = .ok (.iload_n 3, 1) := by decide +kernel
theorem dX11_heardOf_103 : decode cX11_heardOf 103 = .ok (.iastore, 1) := by decide +kernel
theorem dX11_heardOf_104 : decode cX11_heardOf 104 = .ok (.aload_n 0, 1) := by decide +kernel
theorem dX11_heardOf_105 : decode cX11_heardOf 105 = .ok (.getfield 57, 3) := by decide +kernel
theorem dX11_heardOf_108 : decode cX11_heardOf 108 = .ok (.iconst 3, 1) := by decide +kernel
theorem dX11_heardOf_109 : decode cX11_heardOf 109 = .ok (.iload 6, 2) := by decide +kernel
theorem dX11_heardOf_111 : decode cX11_heardOf 111 = .ok (.iastore, 1) := by decide +kernel
theorem dX11_heardOf_112 : decode cX11_heardOf 112 = .ok (.aload_n 0, 1) := by decide +kernel
theorem dX11_heardOf_113 : decode cX11_heardOf 113 = .ok (.getfield 57, 3) := by decide +kernel
theorem dX11_heardOf_116 : decode cX11_heardOf 116 = .ok (.iconst 4, 1) := by decide +kernel
theorem dX11_heardOf_117 : decode cX11_heardOf 117 = .ok (.aload_n 0, 1) := by decide +kernel
theorem dX11_heardOf_118 : decode cX11_heardOf 118 = .ok (.getfield 51, 3) := by decide +kernel
theorem dX11_heardOf_121 : decode cX11_heardOf 121 = .ok (.iload_n 1, 1) := by decide +kernel
theorem dX11_heardOf_122 : decode cX11_heardOf 122 = .ok (.bipush 25, 2) := by decide +kernel
theorem dX11_heardOf_124 : decode cX11_heardOf 124 = .ok (.iadd, 1) := by decide +kernel
theorem dX11_heardOf_125 : decode cX11_heardOf 125 = .ok (.iload_n 2, 1) := by decide +kernel
theorem dX11_heardOf_126 : decode cX11_heardOf 126 = .ok (.iadd, 1) := by decide +kernel
theorem dX11_heardOf_127 : decode cX11_heardOf 127 = .ok (.iaload, 1) := by decide +kernel
theorem dX11_heardOf_128 : decode cX11_heardOf 128 = .ok (.invokestatic 284, 3) := by decide +kernel
theorem dX11_heardOf_131 : decode cX11_heardOf 131 = .ok (.iastore, 1) := by decide +kernel
theorem dX11_heardOf_132 : decode cX11_heardOf 132 = .ok (.aload_n 0, 1) := by decide +kernel
theorem dX11_heardOf_133 : decode cX11_heardOf 133 = .ok (.getfield 57, 3) := by decide +kernel
theorem dX11_heardOf_136 : decode cX11_heardOf 136 = .ok (.iconst 5, 1) := by decide +kernel
theorem dX11_heardOf_137 : decode cX11_heardOf 137 = .ok (.iload 5, 2) := by decide +kernel
theorem dX11_heardOf_139 : decode cX11_heardOf 139 = .ok (.iastore, 1) := by decide +kernel
theorem dX11_heardOf_140 : decode cX11_heardOf 140 = .ok (.aload_n 0, 1) := by decide +kernel
theorem dX11_heardOf_141 : decode cX11_heardOf 141 = .ok (.aload_n 0, 1) := by decide +kernel
theorem dX11_heardOf_142 : decode cX11_heardOf 142 = .ok (.getfield 16, 3) := by decide +kernel
theorem dX11_heardOf_145 : decode cX11_heardOf 145 = .ok (.invokevirtual 287, 3) := by decide +kernel
theorem dX11_heardOf_148 : decode cX11_heardOf 148 = .ok (.ifCond .le 7, 3) := by decide +kernel
theorem dX11_heardOf_151 : decode cX11_heardOf 151 = .ok (.iconst 1, 1) := by decide +kernel
theorem dX11_heardOf_152 : decode cX11_heardOf 152 = .ok (.goto 4, 3) := by decide +kernel
theorem dX11_heardOf_155 : decode cX11_heardOf 155 = .ok (.iconst 0, 1) := by decide +kernel
theorem dX11_heardOf_156 : decode cX11_heardOf 156 = .ok (.istore 8, 2) := by decide +kernel
theorem dX11_heardOf_158 : decode cX11_heardOf 158 = .ok (.iload 8, 2) := by decide +kernel
theorem dX11_heardOf_160 : decode cX11_heardOf 160 = .ok (.ifCond .eq 7, 3) := by decide +kernel
theorem dX11_heardOf_163 : decode cX11_heardOf 163 = .ok (.iconst 1, 1) := by decide +kernel
theorem dX11_heardOf_164 : decode cX11_heardOf 164 = .ok (.goto 4, 3) := by decide +kernel
theorem dX11_heardOf_167 : decode cX11_heardOf 167 = .ok (.iconst 0, 1) := by decide +kernel
theorem dX11_heardOf_168 : decode cX11_heardOf 168 = .ok (.istore 5, 2) := by decide +kernel
theorem dX11_heardOf_170 : decode cX11_heardOf 170 = .ok (.iload 4, 2) := by decide +kernel
theorem dX11_heardOf_172 : decode cX11_heardOf 172 = .ok (.iload 5, 2) := by decide +kernel
theorem dX11_heardOf_174 : decode cX11_heardOf 174 = .ok (.iload 6, 2) := by decide +kernel
theorem dX11_heardOf_176 : decode cX11_heardOf 176 = .ok (.ishl, 1) := by decide +kernel
theorem dX11_heardOf_177 : decode cX11_heardOf 177 = .ok (.ior, 1) := by decide +kernel
theorem dX11_heardOf_178 : decode cX11_heardOf 178 = .ok (.istore 4, 2) := by decide +kernel
theorem dX11_heardOf_180 : decode cX11_heardOf 180 = .ok (.iinc 6 1, 3) := by decide +kernel
theorem dX11_heardOf_183 : decode cX11_heardOf 183 = .ok (.goto (-161), 3) := by decide +kernel
theorem dX11_heardOf_186 : decode cX11_heardOf 186 = .ok (.iload 4, 2) := by decide +kernel
theorem dX11_heardOf_188 : decode cX11_heardOf 188 = .ok (.ireturn, 1) := by decide +kernel
theorem dX11_nearestTo_0 : decode cX11_nearestTo 0 = .ok (.iconst (-1), 1) := by decide +kernel
theorem dX11_nearestTo_1 : decode cX11_nearestTo 1 = .ok (.istore_n 3, 1) := by decide +kernel
theorem dX11_nearestTo_2 : decode cX11_nearestTo 2 = .ok (.aload_n 0, 1) := by decide +kernel
theorem dX11_nearestTo_3 : decode cX11_nearestTo 3 = .ok (.getfield 13, 3) := by decide +kernel
theorem dX11_nearestTo_6 : decode cX11_nearestTo 6 = .ok (.iconst 1, 1) := by decide +kernel
theorem dX11_nearestTo_7 : decode cX11_nearestTo 7 = .ok (.iadd, 1) := by decide +kernel
theorem dX11_nearestTo_8 : decode cX11_nearestTo 8 = .ok (.istore 4, 2) := by decide +kernel
theorem dX11_nearestTo_10 : decode cX11_nearestTo 10 = .ok (.iconst 0, 1) := by decide +kernel
theorem dX11_nearestTo_11 : decode cX11_nearestTo 11 = .ok (.istore 5, 2) := by decide +kernel
theorem dX11_nearestTo_13 : decode cX11_nearestTo 13 = .ok (.iload 5, 2) := by decide +kernel
theorem dX11_nearestTo_15 : decode cX11_nearestTo 15 = .ok (.aload_n 0, 1) := by decide +kernel
theorem dX11_nearestTo_16 : decode cX11_nearestTo 16 = .ok (.getfield 251, 3) := by decide +kernel
theorem dX11_nearestTo_19 : decode cX11_nearestTo 19 = .ok (.if_icmp .ge 44, 3) := by decide +kernel
theorem dX11_nearestTo_22 : decode cX11_nearestTo 22 = .ok (.aload_n 0, 1) := by decide +kernel
theorem dX11_nearestTo_23 : decode cX11_nearestTo 23 = .ok (.getfield 51, 3) := by decide +kernel
theorem dX11_nearestTo_26 : decode cX11_nearestTo 26 = .ok (.iload_n 1, 1) := by decide +kernel
theorem dX11_nearestTo_27 : decode cX11_nearestTo 27 = .ok (.iconst 1, 1) := by decide +kernel
theorem dX11_nearestTo_28 : decode cX11_nearestTo 28 = .ok (.iadd, 1) := by decide +kernel
theorem dX11_nearestTo_29 : decode cX11_nearestTo 29 = .ok (.iload 5, 2) := by decide +kernel
theorem dX11_nearestTo_31 : decode cX11_nearestTo 31 = .ok (.iadd, 1) := by decide +kernel
theorem dX11_nearestTo_32 : decode cX11_nearestTo 32 = .ok (.iaload, 1) := by decide +kernel
theorem dX11_nearestTo_33 : decode cX11_nearestTo 33 = .ok (.iload_n 2, 1) := by decide +kernel
theorem dX11_nearestTo_34 : decode cX11_nearestTo 34 = .ok (.ixor, 1) := by decide +kernel
theorem dX11_nearestTo_35 : decode cX11_nearestTo 35 = .ok (.invokestatic 284, 3) := by decide +kernel
theorem dX11_nearestTo_38 : decode cX11_nearestTo 38 = .ok (.istore 6, 2) := by decide +kernel
theorem dX11_nearestTo_40 : decode cX11_nearestTo 40 = .ok (.iload 6, 2) := by decide +kernel
theorem dX11_nearestTo_42 : decode cX11_nearestTo 42 = .ok (.iload 4, 2) := by decide +kernel
theorem dX11_nearestTo_44 : decode cX11_nearestTo 44 = .ok (.if_icmp .lt 6, 3) := by decide +kernel
theorem dX11_nearestTo_47 : decode cX11_nearestTo 47 = .ok (.goto 10, 3) := by decide +kernel
theorem dX11_nearestTo_50 : decode cX11_nearestTo 50 = .ok (.iload 5, 2) := by decide +kernel
theorem dX11_nearestTo_52 : decode cX11_nearestTo 52 = .ok (.istore_n 3, 1) := by decide +kernel
theorem dX11_nearestTo_53 : decode cX11_nearestTo 53 = .ok (.iload 6, 2) := by decide +kernel
theorem dX11_nearestTo_55 : decode cX11_nearestTo 55 = .ok (.istore 4, 2) := by decide +kernel
theorem dX11_nearestTo_57 : decode cX11_nearestTo 57 = .ok (.iinc 5 1, 3) := by decide +kernel
theorem dX11_nearestTo_60 : decode cX11_nearestTo 60 = .ok (.goto (-47), 3) := by decide +kernel
theorem dX11_nearestTo_63 : decode cX11_nearestTo 63 = .ok (.iload_n 3, 1) := by decide +kernel
theorem dX11_nearestTo_64 : decode cX11_nearestTo 64 = .ok (.ireturn, 1) := by decide +kernel
theorem dX11_namedOf_0 : decode cX11_namedOf 0 = .ok (.aload_n 0, 1) := by decide +kernel
theorem dX11_namedOf_1 : decode cX11_namedOf 1 = .ok (.iload_n 1, 1) := by decide +kernel
theorem dX11_namedOf_2 : decode cX11_namedOf 2 = .ok (.aload_n 0, 1) := by decide +kernel
theorem dX11_namedOf_3 : decode cX11_namedOf 3 = .ok (.iload_n 1, 1) := by decide +kernel
theorem dX11_namedOf_4 : decode cX11_namedOf 4 = .ok (.iload_n 2, 1) := by decide +kernel
theorem dX11_namedOf_5 : decode cX11_namedOf 5 = .ok (.invokevirtual 290, 3) := by decide +kernel
theorem dX11_namedOf_8 : decode cX11_namedOf 8 = .ok (.invokevirtual 293, 3) := by decide +kernel
theorem dX11_namedOf_11 : decode cX11_namedOf 11 = .ok (.ireturn, 1) := by decide +kernel
theorem dX11_nightGoes_0 : decode cX11_nightGoes 0 = .ok (.aload_n 0, 1) := by decide +kernel
theorem dX11_nightGoes_1 : decode cX11_nightGoes 1 = .ok (.iconst 0, 1) := by decide +kernel
theorem dX11_nightGoes_2 : decode cX11_nightGoes 2 = .ok (.putfield 296, 3) := by decide +kernel
theorem dX11_nightGoes_5 : decode cX11_nightGoes 5 = .ok (.aload_n 0, 1) := by decide +kernel
theorem dX11_nightGoes_6 : decode cX11_nightGoes 6 = .ok (.iconst 0, 1) := by decide +kernel
theorem dX11_nightGoes_7 : decode cX11_nightGoes 7 = .ok (.putfield 299, 3) := by decide +kernel
theorem dX11_nightGoes_10 : decode cX11_nightGoes 10 = .ok (.iconst 0, 1) := by decide +kernel
theorem dX11_nightGoes_11 : decode cX11_nightGoes 11 = .ok (.istore_n 2, 1) := by decide +kernel
theorem dX11_nightGoes_12 : decode cX11_nightGoes 12 = .ok (.iload_n 2, 1) := by decide +kernel
theorem dX11_nightGoes_13 : decode cX11_nightGoes 13 = .ok (.bipush 8, 2) := by decide +kernel
theorem dX11_nightGoes_15 : decode cX11_nightGoes 15 = .ok (.if_icmp .ge 16, 3) := by decide +kernel
theorem dX11_nightGoes_18 : decode cX11_nightGoes 18 = .ok (.aload_n 0, 1) := by decide +kernel
theorem dX11_nightGoes_19 : decode cX11_nightGoes 19 = .ok (.getfield 66, 3) := by decide +kernel
theorem dX11_nightGoes_22 : decode cX11_nightGoes 22 = .ok (.iload_n 2, 1) := by decide +kernel
theorem dX11_nightGoes_23 : decode cX11_nightGoes 23 = .ok (.iconst 0, 1) := by decide +kernel
theorem dX11_nightGoes_24 : decode cX11_nightGoes 24 = .ok (.iastore, 1) := by decide +kernel
theorem dX11_nightGoes_25 : decode cX11_nightGoes 25 = .ok (.iinc 2 1, 3) := by decide +kernel
theorem dX11_nightGoes_28 : decode cX11_nightGoes 28 = .ok (.goto (-16), 3) := by decide +kernel
theorem dX11_nightGoes_31 : decode cX11_nightGoes 31 = .ok (.iconst 0, 1) := by decide +kernel
theorem dX11_nightGoes_32 : decode cX11_nightGoes 32 = .ok (.istore_n 2, 1) := by decide +kernel
theorem dX11_nightGoes_33 : decode cX11_nightGoes 33 = .ok (.iload_n 2, 1) := by decide +kernel
theorem dX11_nightGoes_34 : decode cX11_nightGoes 34 = .ok (.aload_n 0, 1) := by decide +kernel
theorem dX11_nightGoes_35 : decode cX11_nightGoes 35 = .ok (.getfield 254, 3) := by decide +kernel
theorem dX11_nightGoes_38 : decode cX11_nightGoes 38 = .ok (.if_icmp .ge 76, 3) := by decide +kernel
theorem dX11_nightGoes_41 : decode cX11_nightGoes 41 = .ok (.aload_n 0, 1) := by decide +kernel
theorem dX11_nightGoes_42 : decode cX11_nightGoes 42 = .ok (.iload_n 1, 1) := by decide +kernel
theorem dX11_nightGoes_43 : decode cX11_nightGoes 43 = .ok (.iload_n 2, 1) := by decide +kernel
theorem dX11_nightGoes_44 : decode cX11_nightGoes 44 = .ok (.invokevirtual 302, 3) := by decide +kernel
theorem dX11_nightGoes_47 : decode cX11_nightGoes 47 = .ok (.istore_n 3, 1) := by decide +kernel
theorem dX11_nightGoes_48 : decode cX11_nightGoes 48 = .ok (.iload_n 3, 1) := by decide +kernel
theorem dX11_nightGoes_49 : decode cX11_nightGoes 49 = .ok (.iconst (-1), 1) := by decide +kernel
theorem dX11_nightGoes_50 : decode cX11_nightGoes 50 = .ok (.if_icmp .ne 6, 3) := by decide +kernel
theorem dX11_nightGoes_53 : decode cX11_nightGoes 53 = .ok (.goto 55, 3) := by decide +kernel
theorem dX11_nightGoes_56 : decode cX11_nightGoes 56 = .ok (.aload_n 0, 1) := by decide +kernel
theorem dX11_nightGoes_57 : decode cX11_nightGoes 57 = .ok (.dup, 1) := by decide +kernel
theorem dX11_nightGoes_58 : decode cX11_nightGoes 58 = .ok (.getfield 296, 3) := by decide +kernel
theorem dX11_nightGoes_61 : decode cX11_nightGoes 61 = .ok (.iconst 1, 1) := by decide +kernel
theorem dX11_nightGoes_62 : decode cX11_nightGoes 62 = .ok (.iload_n 3, 1) := by decide +kernel
theorem dX11_nightGoes_63 : decode cX11_nightGoes 63 = .ok (.ishl, 1) := by decide +kernel
theorem dX11_nightGoes_64 : decode cX11_nightGoes 64 = .ok (.ior, 1) := by decide +kernel
theorem dX11_nightGoes_65 : decode cX11_nightGoes 65 = .ok (.putfield 296, 3) := by decide +kernel
theorem dX11_nightGoes_68 : decode cX11_nightGoes 68 = .ok (.aload_n 0, 1) := by decide +kernel
theorem dX11_nightGoes_69 : decode cX11_nightGoes 69 = .ok (.getfield 66, 3) := by decide +kernel
theorem dX11_nightGoes_72 : decode cX11_nightGoes 72 = .ok (.iload_n 3, 1) := by decide +kernel
theorem dX11_nightGoes_73 : decode cX11_nightGoes 73 = .ok (.dup2, 1) := by decide +kernel
theorem dX11_nightGoes_74 : decode cX11_nightGoes 74 = .ok (.iaload, 1) := by decide +kernel
theorem dX11_nightGoes_75 : decode cX11_nightGoes 75 = .ok (.iconst 1, 1) := by decide +kernel
theorem dX11_nightGoes_76 : decode cX11_nightGoes 76 = .ok (.iadd, 1) := by decide +kernel
theorem dX11_nightGoes_77 : decode cX11_nightGoes 77 = .ok (.iastore, 1) := by decide +kernel
theorem dX11_nightGoes_78 : decode cX11_nightGoes 78 = .ok (.aload_n 0, 1) := by decide +kernel
theorem dX11_nightGoes_79 : decode cX11_nightGoes 79 = .ok (.getfield 51, 3) := by decide +kernel
theorem dX11_nightGoes_82 : decode cX11_nightGoes 82 = .ok (.iload_n 1, 1) := by decide +kernel
theorem dX11_nightGoes_83 : decode cX11_nightGoes 83 = .ok (.bipush 25, 2) := by decide +kernel
theorem dX11_nightGoes_85 : decode cX11_nightGoes 85 = .ok (.iadd, 1) := by decide +kernel
theorem dX11_nightGoes_86 : decode cX11_nightGoes 86 = .ok (.iload_n 2, 1) := by decide +kernel
theorem dX11_nightGoes_87 : decode cX11_nightGoes 87 = .ok (.iadd, 1) := by decide +kernel
theorem dX11_nightGoes_88 : decode cX11_nightGoes 88 = .ok (.iaload, 1) := by decide +kernel
theorem dX11_nightGoes_89 : decode cX11_nightGoes 89 = .ok (.iload_n 3, 1) := by decide +kernel
theorem dX11_nightGoes_90 : decode cX11_nightGoes 90 = .ok (.ishr, 1) := by decide +kernel
theorem dX11_nightGoes_91 : decode cX11_nightGoes 91 = .ok (.iconst 1, 1) := by decide +kernel
theorem dX11_nightGoes_92 : decode cX11_nightGoes 92 = .ok (.iand, 1) := by decide +kernel
theorem dX11_nightGoes_93 : decode cX11_nightGoes 93 = .ok (.ifCond .ne 15, 3) := by decide +kernel
theorem dX11_nightGoes_96 : decode cX11_nightGoes 96 = .ok (.aload_n 0, 1) := by decide +kernel
theorem dX11_nightGoes_97 : decode cX11_nightGoes 97 = .ok (.dup, 1) := by decide +kernel
theorem dX11_nightGoes_98 : decode cX11_nightGoes 98 = .ok (.getfield 299, 3) := by decide +kernel
theorem dX11_nightGoes_101 : decode cX11_nightGoes 101 = .ok (.iconst 1, 1) := by decide +kernel
theorem dX11_nightGoes_102 : decode cX11_nightGoes 102 = .ok (.iload_n 2, 1) := by decide +kernel
theorem dX11_nightGoes_103 : decode cX11_nightGoes 103 = .ok (.ishl, 1) := by decide +kernel
theorem dX11_nightGoes_104 : decode cX11_nightGoes 104 = .ok (.ior, 1) := by decide +kernel
theorem dX11_nightGoes_105 : decode cX11_nightGoes 105 = .ok (.putfield 299, 3) := by decide +kernel
theorem dX11_nightGoes_108 : decode cX11_nightGoes 108 = .ok (.iinc 2 1, 3) := by decide +kernel
theorem dX11_nightGoes_111 : decode cX11_nightGoes 111 = .ok (.goto (-78), 3) := by decide +kernel
theorem dX11_nightGoes_114 : decode cX11_nightGoes 114 = .ok (.iconst 0, 1) := by decide +kernel
theorem dX11_nightGoes_115 : decode cX11_nightGoes 115 = .ok (.istore_n 2, 1) := by decide +kernel
theorem dX11_nightGoes_116 : decode cX11_nightGoes 116 = .ok (.iload_n 2, 1) := by decide +kernel
theorem dX11_nightGoes_117 : decode cX11_nightGoes 117 = .ok (.aload_n 0, 1) := by decide +kernel
theorem dX11_nightGoes_118 : decode cX11_nightGoes 118 = .ok (.getfield 251, 3) := by decide +kernel
theorem dX11_nightGoes_121 : decode cX11_nightGoes 121 = .ok (.if_icmp .ge 43, 3) := by decide +kernel
theorem dX11_nightGoes_124 : decode cX11_nightGoes 124 = .ok (.aload_n 0, 1) := by decide +kernel
theorem dX11_nightGoes_125 : decode cX11_nightGoes 125 = .ok (.getfield 51, 3) := by decide +kernel
theorem dX11_nightGoes_128 : decode cX11_nightGoes 128 = .ok (.iload_n 1, 1) := by decide +kernel
theorem dX11_nightGoes_129 : decode cX11_nightGoes 129 = .ok (.bipush 17, 2) := by decide +kernel
theorem dX11_nightGoes_131 : decode cX11_nightGoes 131 = .ok (.iadd, 1) := by decide +kernel
theorem dX11_nightGoes_132 : decode cX11_nightGoes 132 = .ok (.iload_n 2, 1) := by decide +kernel
theorem dX11_nightGoes_133 : decode cX11_nightGoes 133 = .ok (.iadd, 1) := by decide +kernel
theorem dX11_nightGoes_134 : decode cX11_nightGoes 134 = .ok (.bipush 99, 2) := by decide +kernel
theorem dX11_nightGoes_136 : decode cX11_nightGoes 136 = .ok (.aload_n 0, 1) := by decide +kernel
theorem dX11_nightGoes_137 : decode cX11_nightGoes 137 = .ok (.getfield 51, 3) := by decide +kernel
theorem dX11_nightGoes_140 : decode cX11_nightGoes 140 = .ok (.iload_n 1, 1) := by decide +kernel
theorem dX11_nightGoes_141 : decode cX11_nightGoes 141 = .ok (.bipush 17, 2) := by decide +kernel
theorem dX11_nightGoes_143 : decode cX11_nightGoes 143 = .ok (.iadd, 1) := by decide +kernel
theorem dX11_nightGoes_144 : decode cX11_nightGoes 144 = .ok (.iload_n 2, 1) := by decide +kernel
theorem dX11_nightGoes_145 : decode cX11_nightGoes 145 = .ok (.iadd, 1) := by decide +kernel
theorem dX11_nightGoes_146 : decode cX11_nightGoes 146 = .ok (.iaload, 1) := by decide +kernel
theorem dX11_nightGoes_147 : decode cX11_nightGoes 147 = .ok (.aload_n 0, 1) := by decide +kernel
theorem dX11_nightGoes_148 : decode cX11_nightGoes 148 = .ok (.getfield 66, 3) := by decide +kernel
theorem dX11_nightGoes_151 : decode cX11_nightGoes 151 = .ok (.iload_n 2, 1) := by decide +kernel
theorem dX11_nightGoes_152 : decode cX11_nightGoes 152 = .ok (.iaload, 1) := by decide +kernel
theorem dX11_nightGoes_153 : decode cX11_nightGoes 153 = .ok (.iadd, 1) := by decide +kernel
theorem dX11_nightGoes_154 : decode cX11_nightGoes 154 = .ok (.invokestatic 305, 3) := by decide +kernel
theorem dX11_nightGoes_157 : decode cX11_nightGoes 157 = .ok (.iastore, 1) := by decide +kernel
theorem dX11_nightGoes_158 : decode cX11_nightGoes 158 = .ok (.iinc 2 1, 3) := by decide +kernel
theorem dX11_nightGoes_161 : decode cX11_nightGoes 161 = .ok (.goto (-45), 3) := by decide +kernel
theorem dX11_nightGoes_164 : decode cX11_nightGoes 164 = .ok (.aload_n 0, 1) := by decide +kernel
theorem dX11_nightGoes_165 : decode cX11_nightGoes 165 = .ok (.getfield 51, 3) := by decide +kernel
theorem dX11_nightGoes_168 : decode cX11_nightGoes 168 = .ok (.iload_n 1, 1) := by decide +kernel
theorem dX11_nightGoes_169 : decode cX11_nightGoes 169 = .ok (.bipush 25, 2) := by decide +kernel
theorem dX11_nightGoes_171 : decode cX11_nightGoes 171 = .ok (.iadd, 1) := by decide +kernel
theorem dX11_nightGoes_172 : decode cX11_nightGoes 172 = .ok (.iaload, 1) := by decide +kernel
theorem dX11_nightGoes_173 : decode cX11_nightGoes 173 = .ok (.istore_n 2, 1) := by decide +kernel
theorem dX11_nightGoes_174 : decode cX11_nightGoes 174 = .ok (.iconst 1, 1) := by decide +kernel
theorem dX11_nightGoes_175 : decode cX11_nightGoes 175 = .ok (.istore_n 3, 1) := by decide +kernel
theorem dX11_nightGoes_176 : decode cX11_nightGoes 176 = .ok (.iload_n 3, 1) := by decide +kernel
theorem dX11_nightGoes_177 : decode cX11_nightGoes 177 = .ok (.aload_n 0, 1) := by decide +kernel
theorem dX11_nightGoes_178 : decode cX11_nightGoes 178 = .ok (.getfield 254, 3) := by decide +kernel
theorem dX11_nightGoes_181 : decode cX11_nightGoes 181 = .ok (.if_icmp .ge 33, 3) := by decide +kernel
theorem dX11_nightGoes_184 : decode cX11_nightGoes 184 = .ok (.aload_n 0, 1) := by decide +kernel
theorem dX11_nightGoes_185 : decode cX11_nightGoes 185 = .ok (.getfield 51, 3) := by decide +kernel
theorem dX11_nightGoes_188 : decode cX11_nightGoes 188 = .ok (.iload_n 1, 1) := by decide +kernel
theorem dX11_nightGoes_189 : decode cX11_nightGoes 189 = .ok (.bipush 25, 2) := by decide +kernel
theorem dX11_nightGoes_191 : decode cX11_nightGoes 191 = .ok (.iadd, 1) := by decide +kernel
theorem dX11_nightGoes_192 : decode cX11_nightGoes 192 = .ok (.iload_n 3, 1) := by decide +kernel
theorem dX11_nightGoes_193 : decode cX11_nightGoes 193 = .ok (.iadd, 1) := by decide +kernel
theorem dX11_nightGoes_194 : decode cX11_nightGoes 194 = .ok (.iconst 1, 1) := by decide +kernel
theorem dX11_nightGoes_195 : decode cX11_nightGoes 195 = .ok (.isub, 1) := by decide +kernel
theorem dX11_nightGoes_196 : decode cX11_nightGoes 196 = .ok (.aload_n 0, 1) := by decide +kernel
theorem dX11_nightGoes_197 : decode cX11_nightGoes 197 = .ok (.getfield 51, 3) := by decide +kernel
theorem dX11_nightGoes_200 : decode cX11_nightGoes 200 = .ok (.iload_n 1, 1) := by decide +kernel
theorem dX11_nightGoes_201 : decode cX11_nightGoes 201 = .ok (.bipush 25, 2) := by decide +kernel
theorem dX11_nightGoes_203 : decode cX11_nightGoes 203 = .ok (.iadd, 1) := by decide +kernel
theorem dX11_nightGoes_204 : decode cX11_nightGoes 204 = .ok (.iload_n 3, 1) := by decide +kernel
theorem dX11_nightGoes_205 : decode cX11_nightGoes 205 = .ok (.iadd, 1) := by decide +kernel
theorem dX11_nightGoes_206 : decode cX11_nightGoes 206 = .ok (.iaload, 1) := by decide +kernel
theorem dX11_nightGoes_207 : decode cX11_nightGoes 207 = .ok (.iastore, 1) := by decide +kernel
theorem dX11_nightGoes_208 : decode cX11_nightGoes 208 = .ok (.iinc 3 1, 3) := by decide +kernel
theorem dX11_nightGoes_211 : decode cX11_nightGoes 211 = .ok (.goto (-35), 3) := by decide +kernel
theorem dX11_nightGoes_214 : decode cX11_nightGoes 214 = .ok (.aload_n 0, 1) := by decide +kernel
theorem dX11_nightGoes_215 : decode cX11_nightGoes 215 = .ok (.getfield 254, 3) := by decide +kernel
theorem dX11_nightGoes_218 : decode cX11_nightGoes 218 = .ok (.ifCond .le 20, 3) := by decide +kernel
theorem dX11_nightGoes_221 : decode cX11_nightGoes 221 = .ok (.aload_n 0, 1) := by decide +kernel
theorem dX11_nightGoes_222 : decode cX11_nightGoes 222 = .ok (.getfield 51, 3) := by decide +kernel
theorem dX11_nightGoes_225 : decode cX11_nightGoes 225 = .ok (.iload_n 1, 1) := by decide +kernel
theorem dX11_nightGoes_226 : decode cX11_nightGoes 226 = .ok (.bipush 25, 2) := by decide +kernel
theorem dX11_nightGoes_228 : decode cX11_nightGoes 228 = .ok (.iadd, 1) := by decide +kernel
theorem dX11_nightGoes_229 : decode cX11_nightGoes 229 = .ok (.aload_n 0, 1) := by decide +kernel
theorem dX11_nightGoes_230 : decode cX11_nightGoes 230 = .ok (.getfield 254, 3) := by decide +kernel
theorem dX11_nightGoes_233 : decode cX11_nightGoes 233 = .ok (.iadd, 1) := by decide +kernel
theorem dX11_nightGoes_234 : decode cX11_nightGoes 234 = .ok (.iconst 1, 1) := by decide +kernel
theorem dX11_nightGoes_235 : decode cX11_nightGoes 235 = .ok (.isub, 1) := by decide +kernel
theorem dX11_nightGoes_236 : decode cX11_nightGoes 236 = .ok (.iload_n 2, 1) := by decide +kernel
theorem dX11_nightGoes_237 : decode cX11_nightGoes 237 = .ok (.iastore, 1) := by decide +kernel
theorem dX11_nightGoes_238 : decode cX11_nightGoes 238 = .ok (.aload_n 0, 1) := by decide +kernel
theorem dX11_nightGoes_239 : decode cX11_nightGoes 239 = .ok (.getfield 51, 3) := by decide +kernel
theorem dX11_nightGoes_242 : decode cX11_nightGoes 242 = .ok (.iload_n 1, 1) := by decide +kernel
theorem dX11_nightGoes_243 : decode cX11_nightGoes 243 = .ok (.iconst 0, 1) := by decide +kernel
theorem dX11_nightGoes_244 : decode cX11_nightGoes 244 = .ok (.iadd, 1) := by decide +kernel
theorem dX11_nightGoes_245 : decode cX11_nightGoes 245 = .ok (.dup2, 1) := by decide +kernel
theorem dX11_nightGoes_246 : decode cX11_nightGoes 246 = .ok (.iaload, 1) := by decide +kernel
theorem dX11_nightGoes_247 : decode cX11_nightGoes 247 = .ok (.iconst 1, 1) := by decide +kernel
theorem dX11_nightGoes_248 : decode cX11_nightGoes 248 = .ok (.iadd, 1) := by decide +kernel
theorem dX11_nightGoes_249 : decode cX11_nightGoes 249 = .ok (.iastore, 1) := by decide +kernel
theorem dX11_nightGoes_250 : decode cX11_nightGoes 250 = .ok (.return_, 1) := by decide +kernel
theorem dX11_nightsGo_0 : decode cX11_nightsGo 0 = .ok (.iconst 0, 1) := by decide +kernel
theorem dX11_nightsGo_1 : decode cX11_nightsGo 1 = .ok (.istore_n 2, 1) := by decide +kernel
theorem dX11_nightsGo_2 : decode cX11_nightsGo 2 = .ok (.iload_n 2, 1) := by decide +kernel
theorem dX11_nightsGo_3 : decode cX11_nightsGo 3 = .ok (.iload_n 1, 1) := by decide +kernel
theorem dX11_nightsGo_4 : decode cX11_nightsGo 4 = .ok (.if_icmp .ge 15, 3) := by decide +kernel
theorem dX11_nightsGo_7 : decode cX11_nightsGo 7 = .ok (.aload_n 0, 1) := by decide +kernel
theorem dX11_nightsGo_8 : decode cX11_nightsGo 8 = .ok (.bipush 33, 2) := by decide +kernel
theorem dX11_nightsGo_10 : decode cX11_nightsGo 10 = .ok (.invokevirtual 308, 3) := by decide +kernel
theorem dX11_nightsGo_13 : decode cX11_nightsGo 13 = .ok (.iinc 2 1, 3) := by decide +kernel
theorem dX11_nightsGo_16 : decode cX11_nightsGo 16 = .ok (.goto (-14), 3) := by decide +kernel
theorem dX11_nightsGo_19 : decode cX11_nightsGo 19 = .ok (.return_, 1) := by decide +kernel
theorem dX11_rowOf_0 : decode cX11_rowOf 0 = .ok (.iconst 0, 1) := by decide +kernel
theorem dX11_rowOf_1 : decode cX11_rowOf 1 = .ok (.istore_n 3, 1) := by decide +kernel
theorem dX11_rowOf_2 : decode cX11_rowOf 2 = .ok (.iload_n 3, 1) := by decide +kernel
theorem dX11_rowOf_3 : decode cX11_rowOf 3 = .ok (.aload_n 0, 1) := by decide +kernel
theorem dX11_rowOf_4 : decode cX11_rowOf 4 = .ok (.getfield 254, 3) := by decide +kernel
theorem dX11_rowOf_7 : decode cX11_rowOf 7 = .ok (.if_icmp .ge 30, 3) := by decide +kernel
theorem dX11_rowOf_10 : decode cX11_rowOf 10 = .ok (.aload_n 0, 1) := by decide +kernel
theorem dX11_rowOf_11 : decode cX11_rowOf 11 = .ok (.getfield 51, 3) := by decide +kernel
theorem dX11_rowOf_14 : decode cX11_rowOf 14 = .ok (.iload_n 1, 1) := by decide +kernel
theorem dX11_rowOf_15 : decode cX11_rowOf 15 = .ok (.bipush 25, 2) := by decide +kernel
theorem dX11_rowOf_17 : decode cX11_rowOf 17 = .ok (.iadd, 1) := by decide +kernel
theorem dX11_rowOf_18 : decode cX11_rowOf 18 = .ok (.iload_n 3, 1) := by decide +kernel
theorem dX11_rowOf_19 : decode cX11_rowOf 19 = .ok (.iadd, 1) := by decide +kernel
theorem dX11_rowOf_20 : decode cX11_rowOf 20 = .ok (.iaload, 1) := by decide +kernel
theorem dX11_rowOf_21 : decode cX11_rowOf 21 = .ok (.iload_n 2, 1) := by decide +kernel
theorem dX11_rowOf_22 : decode cX11_rowOf 22 = .ok (.ishr, 1) := by decide +kernel
theorem dX11_rowOf_23 : decode cX11_rowOf 23 = .ok (.iconst 1, 1) := by decide +kernel
theorem dX11_rowOf_24 : decode cX11_rowOf 24 = .ok (.iand, 1) := by decide +kernel
theorem dX11_rowOf_25 : decode cX11_rowOf 25 = .ok (.iconst 1, 1) := by decide +kernel
theorem dX11_rowOf_26 : decode cX11_rowOf 26 = .ok (.if_icmp .ne 5, 3) := by decide +kernel
theorem dX11_rowOf_29 : decode cX11_rowOf 29 = .ok (.iload_n 3, 1) := by decide +kernel
theorem dX11_rowOf_30 : decode cX11_rowOf 30 = .ok (.ireturn, 1) := by decide +kernel
theorem dX11_rowOf_31 : decode cX11_rowOf 31 = .ok (.iinc 3 1, 3) := by decide +kernel
theorem dX11_rowOf_34 : decode cX11_rowOf 34 = .ok (.goto (-32), 3) := by decide +kernel
theorem dX11_rowOf_37 : decode cX11_rowOf 37 = .ok (.iconst (-1), 1) := by decide +kernel
theorem dX11_rowOf_38 : decode cX11_rowOf 38 = .ok (.ireturn, 1) := by decide +kernel
theorem dX11_honourOf_0 : decode cX11_honourOf 0 = .ok (.iconst 0, 1) := by decide +kernel
theorem dX11_honourOf_1 : decode cX11_honourOf 1 = .ok (.istore_n 2, 1) := by decide +kernel
theorem dX11_honourOf_2 : decode cX11_honourOf 2 = .ok (.iconst 0, 1) := by decide +kernel
theorem dX11_honourOf_3 : decode cX11_honourOf 3 = .ok (.istore_n 3, 1) := by decide +kernel
theorem dX11_honourOf_4 : decode cX11_honourOf 4 = .ok (.iload_n 3, 1) := by decide +kernel
theorem dX11_honourOf_5 : decode cX11_honourOf 5 = .ok (.aload_n 0, 1) := by decide +kernel
theorem dX11_honourOf_6 : decode cX11_honourOf 6 = .ok (.getfield 251, 3) := by decide +kernel
theorem dX11_honourOf_9 : decode cX11_honourOf 9 = .ok (.if_icmp .ge 23, 3) := by decide +kernel
theorem dX11_honourOf_12 : decode cX11_honourOf 12 = .ok (.iload_n 2, 1) := by decide +kernel
theorem dX11_honourOf_13 : decode cX11_honourOf 13 = .ok (.aload_n 0, 1) := by decide +kernel
theorem dX11_honourOf_14 : decode cX11_honourOf 14 = .ok (.getfield 51, 3) := by decide +kernel
theorem dX11_honourOf_17 : decode cX11_honourOf 17 = .ok (.iload_n 1, 1) := by decide +kernel
theorem dX11_honourOf_18 : decode cX11_honourOf 18 = .ok (.bipush 17, 2) := by decide +kernel
theorem dX11_honourOf_20 : decode cX11_honourOf 20 = .ok (.iadd, 1) := by decide +kernel
theorem dX11_honourOf_21 : decode cX11_honourOf 21 = .ok (.iload_n 3, 1) := by decide +kernel
theorem dX11_honourOf_22 : decode cX11_honourOf 22 = .ok (.iadd, 1) := by decide +kernel
theorem dX11_honourOf_23 : decode cX11_honourOf 23 = .ok (.iaload, 1) := by decide +kernel
theorem dX11_honourOf_24 : decode cX11_honourOf 24 = .ok (.iadd, 1) := by decide +kernel
theorem dX11_honourOf_25 : decode cX11_honourOf 25 = .ok (.istore_n 2, 1) := by decide +kernel
theorem dX11_honourOf_26 : decode cX11_honourOf 26 = .ok (.iinc 3 1, 3) := by decide +kernel
theorem dX11_honourOf_29 : decode cX11_honourOf 29 = .ok (.goto (-25), 3) := by decide +kernel
theorem dX11_honourOf_32 : decode cX11_honourOf 32 = .ok (.iload_n 2, 1) := by decide +kernel
theorem dX11_honourOf_33 : decode cX11_honourOf 33 = .ok (.ireturn, 1) := by decide +kernel
theorem dX11_inCamp_0 : decode cX11_inCamp 0 = .ok (.iconst 0, 1) := by decide +kernel
theorem dX11_inCamp_1 : decode cX11_inCamp 1 = .ok (.istore_n 1, 1) := by decide +kernel
theorem dX11_inCamp_2 : decode cX11_inCamp 2 = .ok (.iconst 0, 1) := by decide +kernel
theorem dX11_inCamp_3 : decode cX11_inCamp 3 = .ok (.istore_n 2, 1) := by decide +kernel
theorem dX11_inCamp_4 : decode cX11_inCamp 4 = .ok (.iload_n 2, 1) := by decide +kernel
theorem dX11_inCamp_5 : decode cX11_inCamp 5 = .ok (.aload_n 0, 1) := by decide +kernel
theorem dX11_inCamp_6 : decode cX11_inCamp 6 = .ok (.getfield 251, 3) := by decide +kernel
theorem dX11_inCamp_9 : decode cX11_inCamp 9 = .ok (.if_icmp .ge 29, 3) := by decide +kernel
theorem dX11_inCamp_12 : decode cX11_inCamp 12 = .ok (.iload_n 1, 1) := by decide +kernel
theorem dX11_inCamp_13 : decode cX11_inCamp 13 = .ok (.aload_n 0, 1) := by decide +kernel
theorem dX11_inCamp_14 : decode cX11_inCamp 14 = .ok (.iconst 0, 1) := by decide +kernel
theorem dX11_inCamp_15 : decode cX11_inCamp 15 = .ok (.iload_n 2, 1) := by decide +kernel
theorem dX11_inCamp_16 : decode cX11_inCamp 16 = .ok (.invokevirtual 311, 3) := by decide +kernel
theorem dX11_inCamp_19 : decode cX11_inCamp 19 = .ok (.iconst (-1), 1) := by decide +kernel
theorem dX11_inCamp_20 : decode cX11_inCamp 20 = .ok (.if_icmp .ne 9, 3) := by decide +kernel
theorem dX11_inCamp_23 : decode cX11_inCamp 23 = .ok (.iconst 1, 1) := by decide +kernel
theorem dX11_inCamp_24 : decode cX11_inCamp 24 = .ok (.iload_n 2, 1) := by decide +kernel
theorem dX11_inCamp_25 : decode cX11_inCamp 25 = .ok (.ishl, 1) := by decide +kernel
theorem dX11_inCamp_26 : decode cX11_inCamp 26 = .ok (.goto 4, 3) := by decide +kernel
theorem dX11_inCamp_29 : decode cX11_inCamp 29 = .ok (.iconst 0, 1) := by decide +kernel
theorem dX11_inCamp_30 : decode cX11_inCamp 30 = .ok (.ior, 1) := by decide +kernel
theorem dX11_inCamp_31 : decode cX11_inCamp 31 = .ok (.istore_n 1, 1) := by decide +kernel
theorem dX11_inCamp_32 : decode cX11_inCamp 32 = .ok (.iinc 2 1, 3) := by decide +kernel
theorem dX11_inCamp_35 : decode cX11_inCamp 35 = .ok (.goto (-31), 3) := by decide +kernel
theorem dX11_inCamp_38 : decode cX11_inCamp 38 = .ok (.iload_n 1, 1) := by decide +kernel
theorem dX11_inCamp_39 : decode cX11_inCamp 39 = .ok (.ireturn, 1) := by decide +kernel
theorem dX11_inStep_0 : decode cX11_inStep 0 = .ok (.iconst 0, 1) := by decide +kernel
theorem dX11_inStep_1 : decode cX11_inStep 1 = .ok (.istore_n 1, 1) := by decide +kernel
theorem dX11_inStep_2 : decode cX11_inStep 2 = .ok (.iconst 0, 1) := by decide +kernel
theorem dX11_inStep_3 : decode cX11_inStep 3 = .ok (.istore_n 2, 1) := by decide +kernel
theorem dX11_inStep_4 : decode cX11_inStep 4 = .ok (.iload_n 2, 1) := by decide +kernel
theorem dX11_inStep_5 : decode cX11_inStep 5 = .ok (.aload_n 0, 1) := by decide +kernel
theorem dX11_inStep_6 : decode cX11_inStep 6 = .ok (.getfield 254, 3) := by decide +kernel
theorem dX11_inStep_9 : decode cX11_inStep 9 = .ok (.if_icmp .ge 45, 3) := by decide +kernel
theorem dX11_inStep_12 : decode cX11_inStep 12 = .ok (.iconst 0, 1) := by decide +kernel
theorem dX11_inStep_13 : decode cX11_inStep 13 = .ok (.istore_n 3, 1) := by decide +kernel
theorem dX11_inStep_14 : decode cX11_inStep 14 = .ok (.iload_n 3, 1) := by decide +kernel
theorem dX11_inStep_15 : decode cX11_inStep 15 = .ok (.iload_n 2, 1) := by decide +kernel
theorem dX11_inStep_16 : decode cX11_inStep 16 = .ok (.if_icmp .ge 32, 3) := by decide +kernel
theorem dX11_inStep_19 : decode cX11_inStep 19 = .ok (.iload_n 1, 1) := by decide +kernel
theorem dX11_inStep_20 : decode cX11_inStep 20 = .ok (.aload_n 0, 1) := by decide +kernel
theorem dX11_inStep_21 : decode cX11_inStep 21 = .ok (.iconst 0, 1) := by decide +kernel
theorem dX11_inStep_22 : decode cX11_inStep 22 = .ok (.iload_n 2, 1) := by decide +kernel
theorem dX11_inStep_23 : decode cX11_inStep 23 = .ok (.invokevirtual 290, 3) := by decide +kernel
theorem dX11_inStep_26 : decode cX11_inStep 26 = .ok (.aload_n 0, 1) := by decide +kernel
theorem dX11_inStep_27 : decode cX11_inStep 27 = .ok (.iconst 0, 1) := by decide +kernel
theorem dX11_inStep_28 : decode cX11_inStep 28 = .ok (.iload_n 3, 1) := by decide +kernel
theorem dX11_inStep_29 : decode cX11_inStep 29 = .ok (.invokevirtual 290, 3) := by decide +kernel
theorem dX11_inStep_32 : decode cX11_inStep 32 = .ok (.if_icmp .ne 7, 3) := by decide +kernel
theorem dX11_inStep_35 : decode cX11_inStep 35 = .ok (.iconst 1, 1) := by decide +kernel
theorem dX11_inStep_36 : decode cX11_inStep 36 = .ok (.goto 4, 3) := by decide +kernel
theorem dX11_inStep_39 : decode cX11_inStep 39 = .ok (.iconst 0, 1) := by decide +kernel
theorem dX11_inStep_40 : decode cX11_inStep 40 = .ok (.iadd, 1) := by decide +kernel
theorem dX11_inStep_41 : decode cX11_inStep 41 = .ok (.istore_n 1, 1) := by decide +kernel
theorem dX11_inStep_42 : decode cX11_inStep 42 = .ok (.iinc 3 1, 3) := by decide +kernel
theorem dX11_inStep_45 : decode cX11_inStep 45 = .ok (.goto (-31), 3) := by decide +kernel
theorem dX11_inStep_48 : decode cX11_inStep 48 = .ok (.iinc 2 1, 3) := by decide +kernel
theorem dX11_inStep_51 : decode cX11_inStep 51 = .ok (.goto (-47), 3) := by decide +kernel
theorem dX11_inStep_54 : decode cX11_inStep 54 = .ok (.iload_n 1, 1) := by decide +kernel
theorem dX11_inStep_55 : decode cX11_inStep 55 = .ok (.ireturn, 1) := by decide +kernel
theorem dX11_count_0 : decode cX11_count 0 = .ok (.aload_n 0, 1) := by decide +kernel
theorem dX11_count_1 : decode cX11_count 1 = .ok (.iconst 0, 1) := by decide +kernel
theorem dX11_count_2 : decode cX11_count 2 = .ok (.putfield 84, 3) := by decide +kernel
theorem dX11_count_5 : decode cX11_count 5 = .ok (.aload_n 0, 1) := by decide +kernel
theorem dX11_count_6 : decode cX11_count 6 = .ok (.iload_n 1, 1) := by decide +kernel
theorem dX11_count_7 : decode cX11_count 7 = .ok (.iconst 0, 1) := by decide +kernel
theorem dX11_count_8 : decode cX11_count 8 = .ok (.bipush 14, 2) := by decide +kernel
theorem dX11_count_10 : decode cX11_count 10 = .ok (.invokestatic 314, 3) := by decide +kernel
theorem dX11_count_13 : decode cX11_count 13 = .ok (.iconst 1, 1) := by decide +kernel
theorem dX11_count_14 : decode cX11_count 14 = .ok (.invokevirtual 244, 3) := by decide +kernel
theorem dX11_count_17 : decode cX11_count 17 = .ok (.ifCond .ne 5, 3) := by decide +kernel
theorem dX11_count_20 : decode cX11_count 20 = .ok (.iconst 0, 1) := by decide +kernel
theorem dX11_count_21 : decode cX11_count 21 = .ok (.ireturn, 1) := by decide +kernel
theorem dX11_count_22 : decode cX11_count 22 = .ok (.iload_n 1, 1) := by decide +kernel
theorem dX11_count_23 : decode cX11_count 23 = .ok (.tableswitch 130 0 11 #[61, 66, 71, 76, 81, 88, 99, 105, 110, 115, 120, 125], 61) := by decide +kernel
theorem dX11_count_84 : decode cX11_count 84 = .ok (.aload_n 0, 1) := by decide +kernel
theorem dX11_count_85 : decode cX11_count 85 = .ok (.getfield 7, 3) := by decide +kernel
theorem dX11_count_88 : decode cX11_count 88 = .ok (.ireturn, 1) := by decide +kernel
theorem dX11_count_89 : decode cX11_count 89 = .ok (.aload_n 0, 1) := by decide +kernel
theorem dX11_count_90 : decode cX11_count 90 = .ok (.getfield 251, 3) := by decide +kernel
theorem dX11_count_93 : decode cX11_count 93 = .ok (.ireturn, 1) := by decide +kernel
theorem dX11_count_94 : decode cX11_count 94 = .ok (.aload_n 0, 1) := by decide +kernel
theorem dX11_count_95 : decode cX11_count 95 = .ok (.getfield 254, 3) := by decide +kernel
theorem dX11_count_98 : decode cX11_count 98 = .ok (.ireturn, 1) := by decide +kernel
theorem dX11_count_99 : decode cX11_count 99 = .ok (.aload_n 0, 1) := by decide +kernel
theorem dX11_count_100 : decode cX11_count 100 = .ok (.getfield 13, 3) := by decide +kernel
theorem dX11_count_103 : decode cX11_count 103 = .ok (.ireturn, 1) := by decide +kernel
theorem dX11_count_104 : decode cX11_count 104 = .ok (.aload_n 0, 1) := by decide +kernel
theorem dX11_count_105 : decode cX11_count 105 = .ok (.getfield 51, 3) := by decide +kernel
theorem dX11_count_108 : decode cX11_count 108 = .ok (.iconst 0, 1) := by decide +kernel
theorem dX11_count_109 : decode cX11_count 109 = .ok (.iaload, 1) := by decide +kernel
theorem dX11_count_110 : decode cX11_count 110 = .ok (.ireturn, 1) := by decide +kernel
theorem dX11_count_111 : decode cX11_count 111 = .ok (.aload_n 0, 1) := by decide +kernel
theorem dX11_count_112 : decode cX11_count 112 = .ok (.aload_n 0, 1) := by decide +kernel
theorem dX11_count_113 : decode cX11_count 113 = .ok (.getfield 51, 3) := by decide +kernel
theorem dX11_count_116 : decode cX11_count 116 = .ok (.iconst 0, 1) := by decide +kernel
theorem dX11_count_117 : decode cX11_count 117 = .ok (.iaload, 1) := by decide +kernel
theorem dX11_count_118 : decode cX11_count 118 = .ok (.invokevirtual 278, 3) := by decide +kernel
theorem dX11_count_121 : decode cX11_count 121 = .ok (.ireturn, 1) := by decide +kernel
theorem dX11_count_122 : decode cX11_count 122 = .ok (.aload_n 0, 1) := by decide +kernel
theorem dX11_count_123 : decode cX11_count 123 = .ok (.iconst 0, 1) := by decide +kernel
theorem dX11_count_124 : decode cX11_count 124 = .ok (.invokevirtual 318, 3) := by decide +kernel
theorem dX11_count_127 : decode cX11_count 127 = .ok (.ireturn, 1) := by decide +kernel
theorem dX11_count_128 : decode cX11_count 128 = .ok (.aload_n 0, 1) := by decide +kernel
theorem dX11_count_129 : decode cX11_count 129 = .ok (.invokevirtual 321, 3) := by decide +kernel
theorem dX11_count_132 : decode cX11_count 132 = .ok (.ireturn, 1) := by decide +kernel
theorem dX11_count_133 : decode cX11_count 133 = .ok (.aload_n 0, 1) := by decide +kernel
theorem dX11_count_134 : decode cX11_count 134 = .ok (.invokevirtual 324, 3) := by decide +kernel
theorem dX11_count_137 : decode cX11_count 137 = .ok (.ireturn, 1) := by decide +kernel
theorem dX11_count_138 : decode cX11_count 138 = .ok (.aload_n 0, 1) := by decide +kernel
theorem dX11_count_139 : decode cX11_count 139 = .ok (.getfield 264, 3) := by decide +kernel
theorem dX11_count_142 : decode cX11_count 142 = .ok (.ireturn, 1) := by decide +kernel
theorem dX11_count_143 : decode cX11_count 143 = .ok (.aload_n 0, 1) := by decide +kernel
theorem dX11_count_144 : decode cX11_count 144 = .ok (.getfield 267, 3) := by decide +kernel
theorem dX11_count_147 : decode cX11_count 147 = .ok (.ireturn, 1) := by decide +kernel
theorem dX11_count_148 : decode cX11_count 148 = .ok (.aload_n 0, 1) := by decide +kernel
theorem dX11_count_149 : decode cX11_count 149 = .ok (.getfield 87, 3) := by decide +kernel
theorem dX11_count_152 : decode cX11_count 152 = .ok (.ireturn, 1) := by decide +kernel
theorem dX11_count_153 : decode cX11_count 153 = .ok (.aload_n 0, 1) := by decide +kernel
theorem dX11_count_154 : decode cX11_count 154 = .ok (.getfield 32, 3) := by decide +kernel
theorem dX11_count_157 : decode cX11_count 157 = .ok (.iload_n 1, 1) := by decide +kernel
theorem dX11_count_158 : decode cX11_count 158 = .ok (.bipush 12, 2) := by decide +kernel
theorem dX11_count_160 : decode cX11_count 160 = .ok (.isub, 1) := by decide +kernel
theorem dX11_count_161 : decode cX11_count 161 = .ok (.iaload, 1) := by decide +kernel
theorem dX11_count_162 : decode cX11_count 162 = .ok (.ireturn, 1) := by decide +kernel
theorem dX11_isMan_0 : decode cX11_isMan 0 = .ok (.aload_n 0, 1) := by decide +kernel
theorem dX11_isMan_1 : decode cX11_isMan 1 = .ok (.iload_n 1, 1) := by decide +kernel
theorem dX11_isMan_2 : decode cX11_isMan 2 = .ok (.ifCond .lt 15, 3) := by decide +kernel
theorem dX11_isMan_5 : decode cX11_isMan 5 = .ok (.iload_n 1, 1) := by decide +kernel
theorem dX11_isMan_6 : decode cX11_isMan 6 = .ok (.aload_n 0, 1) := by decide +kernel
theorem dX11_isMan_7 : decode cX11_isMan 7 = .ok (.getfield 251, 3) := by decide +kernel
theorem dX11_isMan_10 : decode cX11_isMan 10 = .ok (.if_icmp .ge 7, 3) := by decide +kernel
theorem dX11_isMan_13 : decode cX11_isMan 13 = .ok (.iconst 1, 1) := by decide +kernel
theorem dX11_isMan_14 : decode cX11_isMan 14 = .ok (.goto 4, 3) := by decide +kernel
theorem dX11_isMan_17 : decode cX11_isMan 17 = .ok (.iconst 0, 1) := by decide +kernel
theorem dX11_isMan_18 : decode cX11_isMan 18 = .ok (.iconst 1, 1) := by decide +kernel
theorem dX11_isMan_19 : decode cX11_isMan 19 = .ok (.invokevirtual 244, 3) := by decide +kernel
theorem dX11_isMan_22 : decode cX11_isMan 22 = .ok (.ireturn, 1) := by decide +kernel
theorem dX11_isRow_0 : decode cX11_isRow 0 = .ok (.aload_n 0, 1) := by decide +kernel
theorem dX11_isRow_1 : decode cX11_isRow 1 = .ok (.iload_n 1, 1) := by decide +kernel
theorem dX11_isRow_2 : decode cX11_isRow 2 = .ok (.ifCond .lt 15, 3) := by decide +kernel
theorem dX11_isRow_5 : decode cX11_isRow 5 = .ok (.iload_n 1, 1) := by decide +kernel
theorem dX11_isRow_6 : decode cX11_isRow 6 = .ok (.aload_n 0, 1) := by decide +kernel
theorem dX11_isRow_7 : decode cX11_isRow 7 = .ok (.getfield 254, 3) := by decide +kernel
theorem dX11_isRow_10 : decode cX11_isRow 10 = .ok (.if_icmp .ge 7, 3) := by decide +kernel
theorem dX11_isRow_13 : decode cX11_isRow 13 = .ok (.iconst 1, 1) := by decide +kernel
theorem dX11_isRow_14 : decode cX11_isRow 14 = .ok (.goto 4, 3) := by decide +kernel
theorem dX11_isRow_17 : decode cX11_isRow 17 = .ok (.iconst 0, 1) := by decide +kernel
theorem dX11_isRow_18 : decode cX11_isRow 18 = .ok (.iconst 1, 1) := by decide +kernel
theorem dX11_isRow_19 : decode cX11_isRow 19 = .ok (.invokevirtual 244, 3) := by decide +kernel
theorem dX11_isRow_22 : decode cX11_isRow 22 = .ok (.ireturn, 1) := by decide +kernel
theorem dX11_isWhat_0 : decode cX11_isWhat 0 = .ok (.aload_n 0, 1) := by decide +kernel
theorem dX11_isWhat_1 : decode cX11_isWhat 1 = .ok (.iload_n 1, 1) := by decide +kernel
theorem dX11_isWhat_2 : decode cX11_isWhat 2 = .ok (.iconst 0, 1) := by decide +kernel
theorem dX11_isWhat_3 : decode cX11_isWhat 3 = .ok (.iload_n 2, 1) := by decide +kernel
theorem dX11_isWhat_4 : decode cX11_isWhat 4 = .ok (.invokestatic 314, 3) := by decide +kernel
theorem dX11_isWhat_7 : decode cX11_isWhat 7 = .ok (.iconst 1, 1) := by decide +kernel
theorem dX11_isWhat_8 : decode cX11_isWhat 8 = .ok (.invokevirtual 244, 3) := by decide +kernel
theorem dX11_isWhat_11 : decode cX11_isWhat 11 = .ok (.ireturn, 1) := by decide +kernel
theorem dX11_isNights_0 : decode cX11_isNights 0 = .ok (.aload_n 0, 1) := by decide +kernel
theorem dX11_isNights_1 : decode cX11_isNights 1 = .ok (.iload_n 1, 1) := by decide +kernel
theorem dX11_isNights_2 : decode cX11_isNights 2 = .ok (.iload_n 2, 1) := by decide +kernel
theorem dX11_isNights_3 : decode cX11_isNights 3 = .ok (.bipush 40, 2) := by decide +kernel
theorem dX11_isNights_5 : decode cX11_isNights 5 = .ok (.invokestatic 314, 3) := by decide +kernel
theorem dX11_isNights_8 : decode cX11_isNights 8 = .ok (.iload_n 3, 1) := by decide +kernel
theorem dX11_isNights_9 : decode cX11_isNights 9 = .ok (.invokevirtual 244, 3) := by decide +kernel
theorem dX11_isNights_12 : decode cX11_isNights 12 = .ok (.ireturn, 1) := by decide +kernel
theorem dX11_man_0 : decode cX11_man 0 = .ok (.aload_n 0, 1) := by decide +kernel
theorem dX11_man_1 : decode cX11_man 1 = .ok (.iconst 0, 1) := by decide +kernel
theorem dX11_man_2 : decode cX11_man 2 = .ok (.putfield 84, 3) := by decide +kernel
theorem dX11_man_5 : decode cX11_man 5 = .ok (.aload_n 0, 1) := by decide +kernel
theorem dX11_man_6 : decode cX11_man 6 = .ok (.iload_n 1, 1) := by decide +kernel
theorem dX11_man_7 : decode cX11_man 7 = .ok (.invokevirtual 327, 3) := by decide +kernel
theorem dX11_man_10 : decode cX11_man 10 = .ok (.ifCond .eq 12, 3) := by decide +kernel
theorem dX11_man_13 : decode cX11_man 13 = .ok (.aload_n 0, 1) := by decide +kernel
theorem dX11_man_14 : decode cX11_man 14 = .ok (.iload_n 2, 1) := by decide +kernel
theorem dX11_man_15 : decode cX11_man 15 = .ok (.iconst 3, 1) := by decide +kernel
theorem dX11_man_16 : decode cX11_man 16 = .ok (.invokevirtual 330, 3) := by decide +kernel
theorem dX11_man_19 : decode cX11_man 19 = .ok (.ifCond .ne 5, 3) := by decide +kernel
theorem dX11_man_22 : decode cX11_man 22 = .ok (.iconst 0, 1) := by decide +kernel
theorem dX11_man_23 : decode cX11_man 23 = .ok (.ireturn, 1) := by decide +kernel
theorem dX11_man_24 : decode cX11_man 24 = .ok (.iload_n 2, 1) := by decide +kernel
theorem dX11_man_25 : decode cX11_man 25 = .ok (.ifCond .ne 14, 3) := by decide +kernel
theorem dX11_man_28 : decode cX11_man 28 = .ok (.aload_n 0, 1) := by decide +kernel
theorem dX11_man_29 : decode cX11_man 29 = .ok (.getfield 51, 3) := by decide +kernel
theorem dX11_man_32 : decode cX11_man 32 = .ok (.iconst 1, 1) := by decide +kernel
theorem dX11_man_33 : decode cX11_man 33 = .ok (.iload_n 1, 1) := by decide +kernel
theorem dX11_man_34 : decode cX11_man 34 = .ok (.iadd, 1) := by decide +kernel
theorem dX11_man_35 : decode cX11_man 35 = .ok (.iaload, 1) := by decide +kernel
theorem dX11_man_36 : decode cX11_man 36 = .ok (.goto 43, 3) := by decide +kernel
theorem dX11_man_39 : decode cX11_man 39 = .ok (.iload_n 2, 1) := by decide +kernel
theorem dX11_man_40 : decode cX11_man 40 = .ok (.iconst 1, 1) := by decide +kernel
theorem dX11_man_41 : decode cX11_man 41 = .ok (.if_icmp .ne 15, 3) := by decide +kernel
theorem dX11_man_44 : decode cX11_man 44 = .ok (.aload_n 0, 1) := by decide +kernel
theorem dX11_man_45 : decode cX11_man 45 = .ok (.getfield 51, 3) := by decide +kernel
theorem dX11_man_48 : decode cX11_man 48 = .ok (.bipush 9, 2) := by decide +kernel
theorem dX11_man_50 : decode cX11_man 50 = .ok (.iload_n 1, 1) := by decide +kernel
theorem dX11_man_51 : decode cX11_man 51 = .ok (.iadd, 1) := by decide +kernel
theorem dX11_man_52 : decode cX11_man 52 = .ok (.iaload, 1) := by decide +kernel
theorem dX11_man_53 : decode cX11_man 53 = .ok (.goto 26, 3) := by decide +kernel
theorem dX11_man_56 : decode cX11_man 56 = .ok (.iload_n 2, 1) := by decide +kernel
theorem dX11_man_57 : decode cX11_man 57 = .ok (.iconst 2, 1) := by decide +kernel
theorem dX11_man_58 : decode cX11_man 58 = .ok (.if_icmp .ne 15, 3) := by decide +kernel
theorem dX11_man_61 : decode cX11_man 61 = .ok (.aload_n 0, 1) := by decide +kernel
theorem dX11_man_62 : decode cX11_man 62 = .ok (.getfield 51, 3) := by decide +kernel
theorem dX11_man_65 : decode cX11_man 65 = .ok (.bipush 17, 2) := by decide +kernel
theorem dX11_man_67 : decode cX11_man 67 = .ok (.iload_n 1, 1) := by decide +kernel
theorem dX11_man_68 : decode cX11_man 68 = .ok (.iadd, 1) := by decide +kernel
theorem dX11_man_69 : decode cX11_man 69 = .ok (.iaload, 1) := by decide +kernel
theorem dX11_man_70 : decode cX11_man 70 = .ok (.goto 9, 3) := by decide +kernel
theorem dX11_man_73 : decode cX11_man 73 = .ok (.aload_n 0, 1) := by decide +kernel
theorem dX11_man_74 : decode cX11_man 74 = .ok (.iconst 0, 1) := by decide +kernel
theorem dX11_man_75 : decode cX11_man 75 = .ok (.iload_n 1, 1) := by decide +kernel
theorem dX11_man_76 : decode cX11_man 76 = .ok (.invokevirtual 311, 3) := by decide +kernel
theorem dX11_man_79 : decode cX11_man 79 = .ok (.ireturn, 1) := by decide +kernel
theorem dX11_row_0 : decode cX11_row 0 = .ok (.aload_n 0, 1) := by decide +kernel
theorem dX11_row_1 : decode cX11_row 1 = .ok (.iconst 0, 1) := by decide +kernel
theorem dX11_row_2 : decode cX11_row 2 = .ok (.putfield 84, 3) := by decide +kernel
theorem dX11_row_5 : decode cX11_row 5 = .ok (.aload_n 0, 1) := by decide +kernel
theorem dX11_row_6 : decode cX11_row 6 = .ok (.iload_n 1, 1) := by decide +kernel
theorem dX11_row_7 : decode cX11_row 7 = .ok (.invokevirtual 334, 3) := by decide +kernel
theorem dX11_row_10 : decode cX11_row 10 = .ok (.ifCond .eq 12, 3) := by decide +kernel
theorem dX11_row_13 : decode cX11_row 13 = .ok (.aload_n 0, 1) := by decide +kernel
theorem dX11_row_14 : decode cX11_row 14 = .ok (.iload_n 2, 1) := by decide +kernel
theorem dX11_row_15 : decode cX11_row 15 = .ok (.iconst 2, 1) := by decide +kernel
theorem dX11_row_16 : decode cX11_row 16 = .ok (.invokevirtual 330, 3) := by decide +kernel
theorem dX11_row_19 : decode cX11_row 19 = .ok (.ifCond .ne 5, 3) := by decide +kernel
theorem dX11_row_22 : decode cX11_row 22 = .ok (.iconst 0, 1) := by decide +kernel
theorem dX11_row_23 : decode cX11_row 23 = .ok (.ireturn, 1) := by decide +kernel
theorem dX11_row_24 : decode cX11_row 24 = .ok (.iload_n 2, 1) := by decide +kernel
theorem dX11_row_25 : decode cX11_row 25 = .ok (.ifCond .ne 15, 3) := by decide +kernel
theorem dX11_row_28 : decode cX11_row 28 = .ok (.aload_n 0, 1) := by decide +kernel
theorem dX11_row_29 : decode cX11_row 29 = .ok (.getfield 51, 3) := by decide +kernel
theorem dX11_row_32 : decode cX11_row 32 = .ok (.bipush 25, 2) := by decide +kernel
theorem dX11_row_34 : decode cX11_row 34 = .ok (.iload_n 1, 1) := by decide +kernel
theorem dX11_row_35 : decode cX11_row 35 = .ok (.iadd, 1) := by decide +kernel
theorem dX11_row_36 : decode cX11_row 36 = .ok (.iaload, 1) := by decide +kernel
theorem dX11_row_37 : decode cX11_row 37 = .ok (.goto 23, 3) := by decide +kernel
theorem dX11_row_40 : decode cX11_row 40 = .ok (.iload_n 2, 1) := by decide +kernel
theorem dX11_row_41 : decode cX11_row 41 = .ok (.iconst 1, 1) := by decide +kernel
theorem dX11_row_42 : decode cX11_row 42 = .ok (.if_icmp .ne 12, 3) := by decide +kernel
theorem dX11_row_45 : decode cX11_row 45 = .ok (.aload_n 0, 1) := by decide +kernel
theorem dX11_row_46 : decode cX11_row 46 = .ok (.iconst 0, 1) := by decide +kernel
theorem dX11_row_47 : decode cX11_row 47 = .ok (.iload_n 1, 1) := by decide +kernel
theorem dX11_row_48 : decode cX11_row 48 = .ok (.invokevirtual 290, 3) := by decide +kernel
theorem dX11_row_51 : decode cX11_row 51 = .ok (.goto 9, 3) := by decide +kernel
theorem dX11_row_54 : decode cX11_row 54 = .ok (.aload_n 0, 1) := by decide +kernel
theorem dX11_row_55 : decode cX11_row 55 = .ok (.iconst 0, 1) := by decide +kernel
theorem dX11_row_56 : decode cX11_row 56 = .ok (.iload_n 1, 1) := by decide +kernel
theorem dX11_row_57 : decode cX11_row 57 = .ok (.invokevirtual 302, 3) := by decide +kernel
theorem dX11_row_60 : decode cX11_row 60 = .ok (.ireturn, 1) := by decide +kernel
theorem dX11_nights_0 : decode cX11_nights 0 = .ok (.aload_n 0, 1) := by decide +kernel
theorem dX11_nights_1 : decode cX11_nights 1 = .ok (.iconst 0, 1) := by decide +kernel
theorem dX11_nights_2 : decode cX11_nights 2 = .ok (.putfield 84, 3) := by decide +kernel
theorem dX11_nights_5 : decode cX11_nights 5 = .ok (.iload_n 1, 1) := by decide +kernel
theorem dX11_nights_6 : decode cX11_nights 6 = .ok (.iconst 1, 1) := by decide +kernel
theorem dX11_nights_7 : decode cX11_nights 7 = .ok (.bipush 20, 2) := by decide +kernel
theorem dX11_nights_9 : decode cX11_nights 9 = .ok (.invokestatic 314, 3) := by decide +kernel
theorem dX11_nights_12 : decode cX11_nights 12 = .ok (.ifCond .eq 17, 3) := by decide +kernel
theorem dX11_nights_15 : decode cX11_nights 15 = .ok (.aload_n 0, 1) := by decide +kernel
theorem dX11_nights_16 : decode cX11_nights 16 = .ok (.getfield 51, 3) := by decide +kernel
theorem dX11_nights_19 : decode cX11_nights 19 = .ok (.iconst 0, 1) := by decide +kernel
theorem dX11_nights_20 : decode cX11_nights 20 = .ok (.iaload, 1) := by decide +kernel
theorem dX11_nights_21 : decode cX11_nights 21 = .ok (.iload_n 1, 1) := by decide +kernel
theorem dX11_nights_22 : decode cX11_nights 22 = .ok (.iadd, 1) := by decide +kernel
theorem dX11_nights_23 : decode cX11_nights 23 = .ok (.sipush 999, 3) := by decide +kernel
theorem dX11_nights_26 : decode cX11_nights 26 = .ok (.if_icmp .le 9, 3) := by decide +kernel
theorem dX11_nights_29 : decode cX11_nights 29 = .ok (.aload_n 0, 1) := by decide +kernel
theorem dX11_nights_30 : decode cX11_nights 30 = .ok (.iconst 1, 1) := by decide +kernel
theorem dX11_nights_31 : decode cX11_nights 31 = .ok (.invokevirtual 337, 3) := by decide +kernel
theorem dX11_nights_34 : decode cX11_nights 34 = .ok (.ireturn, 1) := by decide +kernel
theorem dX11_nights_35 : decode cX11_nights 35 = .ok (.aload_n 0, 1) := by decide +kernel
theorem dX11_nights_36 : decode cX11_nights 36 = .ok (.invokevirtual 340, 3) := by decide +kernel
theorem dX11_nights_39 : decode cX11_nights 39 = .ok (.iconst 0, 1) := by decide +kernel
theorem dX11_nights_40 : decode cX11_nights 40 = .ok (.istore_n 2, 1) := by decide +kernel
theorem dX11_nights_41 : decode cX11_nights 41 = .ok (.iload_n 2, 1) := by decide +kernel
theorem dX11_nights_42 : decode cX11_nights 42 = .ok (.iload_n 1, 1) := by decide +kernel
theorem dX11_nights_43 : decode cX11_nights 43 = .ok (.if_icmp .ge 14, 3) := by decide +kernel
theorem dX11_nights_46 : decode cX11_nights 46 = .ok (.aload_n 0, 1) := by decide +kernel
theorem dX11_nights_47 : decode cX11_nights 47 = .ok (.iconst 0, 1) := by decide +kernel
theorem dX11_nights_48 : decode cX11_nights 48 = .ok (.invokevirtual 308, 3) := by decide +kernel
theorem dX11_nights_51 : decode cX11_nights 51 = .ok (.iinc 2 1, 3) := by decide +kernel
theorem dX11_nights_54 : decode cX11_nights 54 = .ok (.goto (-13), 3) := by decide +kernel
theorem dX11_nights_57 : decode cX11_nights 57 = .ok (.aload_n 0, 1) := by decide +kernel
theorem dX11_nights_58 : decode cX11_nights 58 = .ok (.getfield 51, 3) := by decide +kernel
theorem dX11_nights_61 : decode cX11_nights 61 = .ok (.iconst 0, 1) := by decide +kernel
theorem dX11_nights_62 : decode cX11_nights 62 = .ok (.iaload, 1) := by decide +kernel
theorem dX11_nights_63 : decode cX11_nights 63 = .ok (.ireturn, 1) := by decide +kernel
theorem dX11_puts0_0 : decode cX11_puts0 0 = .ok (.iconst 0, 1) := by decide +kernel
theorem dX11_puts0_1 : decode cX11_puts0 1 = .ok (.istore 4, 2) := by decide +kernel
theorem dX11_puts0_3 : decode cX11_puts0 3 = .ok (.iload 4, 2) := by decide +kernel
theorem dX11_puts0_5 : decode cX11_puts0 5 = .ok (.aload_n 0, 1) := by decide +kernel
theorem dX11_puts0_6 : decode cX11_puts0 6 = .ok (.getfield 254, 3) := by decide +kernel
theorem dX11_puts0_9 : decode cX11_puts0 9 = .ok (.if_icmp .ge 29, 3) := by decide +kernel
theorem dX11_puts0_12 : decode cX11_puts0 12 = .ok (.aload_n 0, 1) := by decide +kernel
theorem dX11_puts0_13 : decode cX11_puts0 13 = .ok (.getfield 51, 3) := by decide +kernel
theorem dX11_puts0_16 : decode cX11_puts0 16 = .ok (.iload_n 1, 1) := by decide +kernel
theorem dX11_puts0_17 : decode cX11_puts0 17 = .ok (.bipush 25, 2) := by decide +kernel
theorem dX11_puts0_19 : decode cX11_puts0 19 = .ok (.iadd, 1) := by decide +kernel
theorem dX11_puts0_20 : decode cX11_puts0 20 = .ok (.iload 4, 2) := by decide +kernel
theorem dX11_puts0_22 : decode cX11_puts0 22 = .ok (.iadd, 1) := by decide +kernel
theorem dX11_puts0_23 : decode cX11_puts0 23 = .ok (.dup2, 1) := by decide +kernel
theorem dX11_puts0_24 : decode cX11_puts0 24 = .ok (.iaload, 1) := by decide +kernel
theorem dX11_puts0_25 : decode cX11_puts0 25 = .ok (.iconst 1, 1) := by decide +kernel
theorem dX11_puts0_26 : decode cX11_puts0 26 = .ok (.iload_n 2, 1) := by decide +kernel
theorem dX11_puts0_27 : decode cX11_puts0 27 = .ok (.ishl, 1) := by decide +kernel
theorem dX11_puts0_28 : decode cX11_puts0 28 = .ok (.iconst (-1), 1) := by decide +kernel
theorem dX11_puts0_29 : decode cX11_puts0 29 = .ok (.ixor, 1) := by decide +kernel
theorem dX11_puts0_30 : decode cX11_puts0 30 = .ok (.iand, 1) := by decide +kernel
theorem dX11_puts0_31 : decode cX11_puts0 31 = .ok (.iastore, 1) := by decide +kernel
theorem dX11_puts0_32 : decode cX11_puts0 32 = .ok (.iinc 4 1, 3) := by decide +kernel
theorem dX11_puts0_35 : decode cX11_puts0 35 = .ok (.goto (-32), 3) := by decide +kernel
theorem dX11_puts0_38 : decode cX11_puts0 38 = .ok (.iload_n 3, 1) := by decide +kernel
theorem dX11_puts0_39 : decode cX11_puts0 39 = .ok (.iconst (-1), 1) := by decide +kernel
theorem dX11_puts0_40 : decode cX11_puts0 40 = .ok (.if_icmp .eq 20, 3) := by decide +kernel
theorem dX11_puts0_43 : decode cX11_puts0 43 = .ok (.aload_n 0, 1) := by decide +kernel
theorem dX11_puts0_44 : decode cX11_puts0 44 = .ok (.getfield 51, 3) := by decide +kernel
theorem dX11_puts0_47 : decode cX11_puts0 47 = .ok (.iload_n 1, 1) := by decide +kernel
theorem dX11_puts0_48 : decode cX11_puts0 48 = .ok (.bipush 25, 2) := by decide +kernel
theorem dX11_puts0_50 : decode cX11_puts0 50 = .ok (.iadd, 1) := by decide +kernel
theorem dX11_puts0_51 : decode cX11_puts0 51 = .ok (.iload_n 3, 1) := by decide +kernel
theorem dX11_puts0_52 : decode cX11_puts0 52 = .ok (.iadd, 1) := by decide +kernel
theorem dX11_puts0_53 : decode cX11_puts0 53 = .ok (.dup2, 1) := by decide +kernel
theorem dX11_puts0_54 : decode cX11_puts0 54 = .ok (.iaload, 1) := by decide +kernel
theorem dX11_puts0_55 : decode cX11_puts0 55 = .ok (.iconst 1, 1) := by decide +kernel
theorem dX11_puts0_56 : decode cX11_puts0 56 = .ok (.iload_n 2, 1) := by decide +kernel
theorem dX11_puts0_57 : decode cX11_puts0 57 = .ok (.ishl, 1) := by decide +kernel
theorem dX11_puts0_58 : decode cX11_puts0 58 = .ok (.ior, 1) := by decide +kernel
theorem dX11_puts0_59 : decode cX11_puts0 59 = .ok (.iastore, 1) := by decide +kernel
theorem dX11_puts0_60 : decode cX11_puts0 60 = .ok (.return_, 1) := by decide +kernel
theorem dX11_put_0 : decode cX11_put 0 = .ok (.aload_n 0, 1) := by decide +kernel
theorem dX11_put_1 : decode cX11_put 1 = .ok (.iconst 0, 1) := by decide +kernel
theorem dX11_put_2 : decode cX11_put 2 = .ok (.putfield 84, 3) := by decide +kernel
theorem dX11_put_5 : decode cX11_put 5 = .ok (.aload_n 0, 1) := by decide +kernel
theorem dX11_put_6 : decode cX11_put 6 = .ok (.iload_n 1, 1) := by decide +kernel
theorem dX11_put_7 : decode cX11_put 7 = .ok (.invokevirtual 327, 3) := by decide +kernel
theorem dX11_put_10 : decode cX11_put 10 = .ok (.ifCond .eq 29, 3) := by decide +kernel
theorem dX11_put_13 : decode cX11_put 13 = .ok (.aload_n 0, 1) := by decide +kernel
theorem dX11_put_14 : decode cX11_put 14 = .ok (.iload_n 2, 1) := by decide +kernel
theorem dX11_put_15 : decode cX11_put 15 = .ok (.iconst (-1), 1) := by decide +kernel
theorem dX11_put_16 : decode cX11_put 16 = .ok (.if_icmp .lt 15, 3) := by decide +kernel
theorem dX11_put_19 : decode cX11_put 19 = .ok (.iload_n 2, 1) := by decide +kernel
theorem dX11_put_20 : decode cX11_put 20 = .ok (.aload_n 0, 1) := by decide +kernel
theorem dX11_put_21 : decode cX11_put 21 = .ok (.getfield 254, 3) := by decide +kernel
theorem dX11_put_24 : decode cX11_put 24 = .ok (.if_icmp .ge 7, 3) := by decide +kernel
theorem dX11_put_27 : decode cX11_put 27 = .ok (.iconst 1, 1) := by decide +kernel
theorem dX11_put_28 : decode cX11_put 28 = .ok (.goto 4, 3) := by decide +kernel
theorem dX11_put_31 : decode cX11_put 31 = .ok (.iconst 0, 1) := by decide +kernel
theorem dX11_put_32 : decode cX11_put 32 = .ok (.iconst 1, 1) := by decide +kernel
theorem dX11_put_33 : decode cX11_put 33 = .ok (.invokevirtual 244, 3) := by decide +kernel
theorem dX11_put_36 : decode cX11_put 36 = .ok (.ifCond .ne 5, 3) := by decide +kernel
theorem dX11_put_39 : decode cX11_put 39 = .ok (.iconst 0, 1) := by decide +kernel
theorem dX11_put_40 : decode cX11_put 40 = .ok (.ireturn, 1) := by decide +kernel
theorem dX11_put_41 : decode cX11_put 41 = .ok (.aload_n 0, 1) := by decide +kernel
theorem dX11_put_42 : decode cX11_put 42 = .ok (.iconst 0, 1) := by decide +kernel
theorem dX11_put_43 : decode cX11_put 43 = .ok (.iload_n 1, 1) := by decide +kernel
theorem dX11_put_44 : decode cX11_put 44 = .ok (.invokevirtual 311, 3) := by decide +kernel
theorem dX11_put_47 : decode cX11_put 47 = .ok (.istore_n 3, 1) := by decide +kernel
theorem dX11_put_48 : decode cX11_put 48 = .ok (.iload_n 3, 1) := by decide +kernel
theorem dX11_put_49 : decode cX11_put 49 = .ok (.iload_n 2, 1) := by decide +kernel
theorem dX11_put_50 : decode cX11_put 50 = .ok (.if_icmp .eq 24, 3) := by decide +kernel
theorem dX11_put_53 : decode cX11_put 53 = .ok (.iload_n 2, 1) := by decide +kernel
theorem dX11_put_54 : decode cX11_put 54 = .ok (.iconst (-1), 1) := by decide +kernel
theorem dX11_put_55 : decode cX11_put 55 = .ok (.if_icmp .eq 27, 3) := by decide +kernel
theorem dX11_put_58 : decode cX11_put 58 = .ok (.aload_n 0, 1) := by decide +kernel
theorem dX11_put_59 : decode cX11_put 59 = .ok (.getfield 51, 3) := by decide +kernel
theorem dX11_put_62 : decode cX11_put 62 = .ok (.bipush 25, 2) := by decide +kernel
theorem dX11_put_64 : decode cX11_put 64 = .ok (.iload_n 2, 1) := by decide +kernel
theorem dX11_put_65 : decode cX11_put 65 = .ok (.iadd, 1) := by decide +kernel
theorem dX11_put_66 : decode cX11_put 66 = .ok (.iaload, 1) := by decide +kernel
theorem dX11_put_67 : decode cX11_put 67 = .ok (.invokestatic 284, 3) := by decide +kernel
theorem dX11_put_70 : decode cX11_put 70 = .ok (.iconst 4, 1) := by decide +kernel
theorem dX11_put_71 : decode cX11_put 71 = .ok (.if_icmp .ne 11, 3) := by decide +kernel
theorem dX11_put_74 : decode cX11_put 74 = .ok (.aload_n 0, 1) := by decide +kernel
theorem dX11_put_75 : decode cX11_put 75 = .ok (.iconst 1, 1) := by decide +kernel
theorem dX11_put_76 : decode cX11_put 76 = .ok (.invokevirtual 337, 3) := by decide +kernel
theorem dX11_put_79 : decode cX11_put 79 = .ok (.iconst 1, 1) := by decide +kernel
theorem dX11_put_80 : decode cX11_put 80 = .ok (.isub, 1) := by decide +kernel
theorem dX11_put_81 : decode cX11_put 81 = .ok (.ireturn, 1) := by decide +kernel
theorem dX11_put_82 : decode cX11_put 82 = .ok (.aload_n 0, 1) := by decide +kernel
theorem dX11_put_83 : decode cX11_put 83 = .ok (.invokevirtual 340, 3) := by decide +kernel
theorem dX11_put_86 : decode cX11_put 86 = .ok (.aload_n 0, 1) := by decide +kernel
theorem dX11_put_87 : decode cX11_put 87 = .ok (.iconst 0, 1) := by decide +kernel
theorem dX11_put_88 : decode cX11_put 88 = .ok (.iload_n 1, 1) := by decide +kernel
theorem dX11_put_89 : decode cX11_put 89 = .ok (.iload_n 2, 1) := by decide +kernel
theorem dX11_put_90 : decode cX11_put 90 = .ok (.invokevirtual 343, 3) := by decide +kernel
theorem dX11_put_93 : decode cX11_put 93 = .ok (.iload_n 3, 1) := by decide +kernel
theorem dX11_put_94 : decode cX11_put 94 = .ok (.ireturn, 1) := by decide +kernel
theorem dX11_heel_0 : decode cX11_heel 0 = .ok (.aload_n 0, 1) := by decide +kernel
theorem dX11_heel_1 : decode cX11_heel 1 = .ok (.iconst 0, 1) := by decide +kernel
theorem dX11_heel_2 : decode cX11_heel 2 = .ok (.putfield 84, 3) := by decide +kernel
theorem dX11_heel_5 : decode cX11_heel 5 = .ok (.aload_n 0, 1) := by decide +kernel
theorem dX11_heel_6 : decode cX11_heel 6 = .ok (.iload_n 1, 1) := by decide +kernel
theorem dX11_heel_7 : decode cX11_heel 7 = .ok (.invokevirtual 327, 3) := by decide +kernel
theorem dX11_heel_10 : decode cX11_heel 10 = .ok (.ifCond .eq 28, 3) := by decide +kernel
theorem dX11_heel_13 : decode cX11_heel 13 = .ok (.aload_n 0, 1) := by decide +kernel
theorem dX11_heel_14 : decode cX11_heel 14 = .ok (.iload_n 2, 1) := by decide +kernel
theorem dX11_heel_15 : decode cX11_heel 15 = .ok (.ifCond .lt 15, 3) := by decide +kernel
theorem dX11_heel_18 : decode cX11_heel 18 = .ok (.iload_n 2, 1) := by decide +kernel
theorem dX11_heel_19 : decode cX11_heel 19 = .ok (.aload_n 0, 1) := by decide +kernel
theorem dX11_heel_20 : decode cX11_heel 20 = .ok (.getfield 7, 3) := by decide +kernel
theorem dX11_heel_23 : decode cX11_heel 23 = .ok (.if_icmp .ge 7, 3) := by decide +kernel
theorem dX11_heel_26 : decode cX11_heel 26 = .ok (.iconst 1, 1) := by decide +kernel
theorem dX11_heel_27 : decode cX11_heel 27 = .ok (.goto 4, 3) := by decide +kernel
theorem dX11_heel_30 : decode cX11_heel 30 = .ok (.iconst 0, 1) := by decide +kernel
theorem dX11_heel_31 : decode cX11_heel 31 = .ok (.iconst 1, 1) := by decide +kernel
theorem dX11_heel_32 : decode cX11_heel 32 = .ok (.invokevirtual 244, 3) := by decide +kernel
theorem dX11_heel_35 : decode cX11_heel 35 = .ok (.ifCond .ne 5, 3) := by decide +kernel
theorem dX11_heel_38 : decode cX11_heel 38 = .ok (.iconst 0, 1) := by decide +kernel
theorem dX11_heel_39 : decode cX11_heel 39 = .ok (.ireturn, 1) := by decide +kernel
theorem dX11_heel_40 : decode cX11_heel 40 = .ok (.aload_n 0, 1) := by decide +kernel
theorem dX11_heel_41 : decode cX11_heel 41 = .ok (.invokevirtual 340, 3) := by decide +kernel
theorem dX11_heel_44 : decode cX11_heel 44 = .ok (.aload_n 0, 1) := by decide +kernel
theorem dX11_heel_45 : decode cX11_heel 45 = .ok (.getfield 51, 3) := by decide +kernel
theorem dX11_heel_48 : decode cX11_heel 48 = .ok (.iconst 1, 1) := by decide +kernel
theorem dX11_heel_49 : decode cX11_heel 49 = .ok (.iload_n 1, 1) := by decide +kernel
theorem dX11_heel_50 : decode cX11_heel 50 = .ok (.iadd, 1) := by decide +kernel
theorem dX11_heel_51 : decode cX11_heel 51 = .ok (.dup2, 1) := by decide +kernel
theorem dX11_heel_52 : decode cX11_heel 52 = .ok (.iaload, 1) := by decide +kernel
theorem dX11_heel_53 : decode cX11_heel 53 = .ok (.iconst 1, 1) := by decide +kernel
theorem dX11_heel_54 : decode cX11_heel 54 = .ok (.iload_n 2, 1) := by decide +kernel
theorem dX11_heel_55 : decode cX11_heel 55 = .ok (.ishl, 1) := by decide +kernel
theorem dX11_heel_56 : decode cX11_heel 56 = .ok (.ixor, 1) := by decide +kernel
theorem dX11_heel_57 : decode cX11_heel 57 = .ok (.iastore, 1) := by decide +kernel
theorem dX11_heel_58 : decode cX11_heel 58 = .ok (.aload_n 0, 1) := by decide +kernel
theorem dX11_heel_59 : decode cX11_heel 59 = .ok (.getfield 51, 3) := by decide +kernel
theorem dX11_heel_62 : decode cX11_heel 62 = .ok (.iconst 1, 1) := by decide +kernel
theorem dX11_heel_63 : decode cX11_heel 63 = .ok (.iload_n 1, 1) := by decide +kernel
theorem dX11_heel_64 : decode cX11_heel 64 = .ok (.iadd, 1) := by decide +kernel
theorem dX11_heel_65 : decode cX11_heel 65 = .ok (.iaload, 1) := by decide +kernel
theorem dX11_heel_66 : decode cX11_heel 66 = .ok (.ireturn, 1) := by decide +kernel
theorem dX11_loud_0 : decode cX11_loud 0 = .ok (.aload_n 0, 1) := by decide +kernel
theorem dX11_loud_1 : decode cX11_loud 1 = .ok (.iconst 0, 1) := by decide +kernel
theorem dX11_loud_2 : decode cX11_loud 2 = .ok (.putfield 84, 3) := by decide +kernel
theorem dX11_loud_5 : decode cX11_loud 5 = .ok (.aload_n 0, 1) := by decide +kernel
theorem dX11_loud_6 : decode cX11_loud 6 = .ok (.iload_n 1, 1) := by decide +kernel
theorem dX11_loud_7 : decode cX11_loud 7 = .ok (.invokevirtual 327, 3) := by decide +kernel
theorem dX11_loud_10 : decode cX11_loud 10 = .ok (.ifCond .ne 5, 3) := by decide +kernel
theorem dX11_loud_13 : decode cX11_loud 13 = .ok (.iconst 0, 1) := by decide +kernel
theorem dX11_loud_14 : decode cX11_loud 14 = .ok (.ireturn, 1) := by decide +kernel
theorem dX11_loud_15 : decode cX11_loud 15 = .ok (.iload_n 2, 1) := by decide +kernel
theorem dX11_loud_16 : decode cX11_loud 16 = .ok (.iconst 1, 1) := by decide +kernel
theorem dX11_loud_17 : decode cX11_loud 17 = .ok (.bipush 9, 2) := by decide +kernel
theorem dX11_loud_19 : decode cX11_loud 19 = .ok (.invokestatic 314, 3) := by decide +kernel
theorem dX11_loud_22 : decode cX11_loud 22 = .ok (.ifCond .ne 9, 3) := by decide +kernel
theorem dX11_loud_25 : decode cX11_loud 25 = .ok (.aload_n 0, 1) := by decide +kernel
theorem dX11_loud_26 : decode cX11_loud 26 = .ok (.iconst 1, 1) := by decide +kernel
theorem dX11_loud_27 : decode cX11_loud 27 = .ok (.invokevirtual 337, 3) := by decide +kernel
theorem dX11_loud_30 : decode cX11_loud 30 = .ok (.ireturn, 1) := by decide +kernel
theorem dX11_loud_31 : decode cX11_loud 31 = .ok (.aload_n 0, 1) := by decide +kernel
theorem dX11_loud_32 : decode cX11_loud 32 = .ok (.invokevirtual 340, 3) := by decide +kernel
theorem dX11_loud_35 : decode cX11_loud 35 = .ok (.aload_n 0, 1) := by decide +kernel
theorem dX11_loud_36 : decode cX11_loud 36 = .ok (.getfield 51, 3) := by decide +kernel
theorem dX11_loud_39 : decode cX11_loud 39 = .ok (.bipush 9, 2) := by decide +kernel
theorem dX11_loud_41 : decode cX11_loud 41 = .ok (.iload_n 1, 1) := by decide +kernel
theorem dX11_loud_42 : decode cX11_loud 42 = .ok (.iadd, 1) := by decide +kernel
theorem dX11_loud_43 : decode cX11_loud 43 = .ok (.iaload, 1) := by decide +kernel
theorem dX11_loud_44 : decode cX11_loud 44 = .ok (.istore_n 3, 1) := by decide +kernel
theorem dX11_loud_45 : decode cX11_loud 45 = .ok (.aload_n 0, 1) := by decide +kernel
theorem dX11_loud_46 : decode cX11_loud 46 = .ok (.getfield 51, 3) := by decide +kernel
theorem dX11_loud_49 : decode cX11_loud 49 = .ok (.bipush 9, 2) := by decide +kernel
theorem dX11_loud_51 : decode cX11_loud 51 = .ok (.iload_n 1, 1) := by decide +kernel
theorem dX11_loud_52 : decode cX11_loud 52 = .ok (.iadd, 1) := by decide +kernel
theorem dX11_loud_53 : decode cX11_loud 53 = .ok (.iload_n 2, 1) := by decide +kernel
theorem dX11_loud_54 : decode cX11_loud 54 = .ok (.iastore, 1) := by decide +kernel
theorem dX11_loud_55 : decode cX11_loud 55 = .ok (.iload_n 3, 1) := by decide +kernel
theorem dX11_loud_56 : decode cX11_loud 56 = .ok (.ireturn, 1) := by decide +kernel
theorem dX11_change_0 : decode cX11_change 0 = .ok (.aload_n 0, 1) := by decide +kernel
theorem dX11_change_1 : decode cX11_change 1 = .ok (.iconst 0, 1) := by decide +kernel
theorem dX11_change_2 : decode cX11_change 2 = .ok (.putfield 84, 3) := by decide +kernel
theorem dX11_change_5 : decode cX11_change 5 = .ok (.aload_n 0, 1) := by decide +kernel
theorem dX11_change_6 : decode cX11_change 6 = .ok (.iload_n 1, 1) := by decide +kernel
theorem dX11_change_7 : decode cX11_change 7 = .ok (.invokevirtual 334, 3) := by decide +kernel
theorem dX11_change_10 : decode cX11_change 10 = .ok (.ifCond .eq 11, 3) := by decide +kernel
theorem dX11_change_13 : decode cX11_change 13 = .ok (.aload_n 0, 1) := by decide +kernel
theorem dX11_change_14 : decode cX11_change 14 = .ok (.iload_n 2, 1) := by decide +kernel
theorem dX11_change_15 : decode cX11_change 15 = .ok (.invokevirtual 334, 3) := by decide +kernel
theorem dX11_change_18 : decode cX11_change 18 = .ok (.ifCond .ne 5, 3) := by decide +kernel
theorem dX11_change_21 : decode cX11_change 21 = .ok (.iconst 0, 1) := by decide +kernel
theorem dX11_change_22 : decode cX11_change 22 = .ok (.ireturn, 1) := by decide +kernel
theorem dX11_change_23 : decode cX11_change 23 = .ok (.iload_n 1, 1) := by decide +kernel
theorem dX11_change_24 : decode cX11_change 24 = .ok (.iload_n 2, 1) := by decide +kernel
theorem dX11_change_25 : decode cX11_change 25 = .ok (.if_icmp .ne 17, 3) := by decide +kernel
theorem dX11_change_28 : decode cX11_change 28 = .ok (.aload_n 0, 1) := by decide +kernel
theorem dX11_change_29 : decode cX11_change 29 = .ok (.iconst 1, 1) := by decide +kernel
theorem dX11_change_30 : decode cX11_change 30 = .ok (.invokevirtual 337, 3) := by decide +kernel
theorem dX11_change_33 : decode cX11_change 33 = .ok (.ifCond .le 7, 3) := by decide +kernel
theorem dX11_change_36 : decode cX11_change 36 = .ok (.iconst 1, 1) := by decide +kernel
theorem dX11_change_37 : decode cX11_change 37 = .ok (.goto 4, 3) := by decide +kernel
theorem dX11_change_40 : decode cX11_change 40 = .ok (.iconst 0, 1) := by decide +kernel
theorem dX11_change_41 : decode cX11_change 41 = .ok (.ireturn, 1) := by decide +kernel
theorem dX11_change_42 : decode cX11_change 42 = .ok (.aload_n 0, 1) := by decide +kernel
theorem dX11_change_43 : decode cX11_change 43 = .ok (.invokevirtual 340, 3) := by decide +kernel
theorem dX11_change_46 : decode cX11_change 46 = .ok (.aload_n 0, 1) := by decide +kernel
theorem dX11_change_47 : decode cX11_change 47 = .ok (.getfield 51, 3) := by decide +kernel
theorem dX11_change_50 : decode cX11_change 50 = .ok (.bipush 25, 2) := by decide +kernel
theorem dX11_change_52 : decode cX11_change 52 = .ok (.iload_n 1, 1) := by decide +kernel
theorem dX11_change_53 : decode cX11_change 53 = .ok (.iadd, 1) := by decide +kernel
theorem dX11_change_54 : decode cX11_change 54 = .ok (.iaload, 1) := by decide +kernel
theorem dX11_change_55 : decode cX11_change 55 = .ok (.istore_n 3, 1) := by decide +kernel
theorem dX11_change_56 : decode cX11_change 56 = .ok (.aload_n 0, 1) := by decide +kernel
theorem dX11_change_57 : decode cX11_change 57 = .ok (.getfield 51, 3) := by decide +kernel
theorem dX11_change_60 : decode cX11_change 60 = .ok (.bipush 25, 2) := by decide +kernel
theorem dX11_change_62 : decode cX11_change 62 = .ok (.iload_n 1, 1) := by decide +kernel
theorem dX11_change_63 : decode cX11_change 63 = .ok (.iadd, 1) := by decide +kernel
theorem dX11_change_64 : decode cX11_change 64 = .ok (.aload_n 0, 1) := by decide +kernel
theorem dX11_change_65 : decode cX11_change 65 = .ok (.getfield 51, 3) := by decide +kernel
theorem dX11_change_68 : decode cX11_change 68 = .ok (.bipush 25, 2) := by decide +kernel
theorem dX11_change_70 : decode cX11_change 70 = .ok (.iload_n 2, 1) := by decide +kernel
theorem dX11_change_71 : decode cX11_change 71 = .ok (.iadd, 1) := by decide +kernel
theorem dX11_change_72 : decode cX11_change 72 = .ok (.iaload, 1) := by decide +kernel
theorem dX11_change_73 : decode cX11_change 73 = .ok (.iastore, 1) := by decide +kernel
theorem dX11_change_74 : decode cX11_change 74 = .ok (.aload_n 0, 1) := by decide +kernel
theorem dX11_change_75 : decode cX11_change 75 = .ok (.getfield 51, 3) := by decide +kernel
theorem dX11_change_78 : decode cX11_change 78 = .ok (.bipush 25, 2) := by decide +kernel
theorem dX11_change_80 : decode cX11_change 80 = .ok (.iload_n 2, 1) := by decide +kernel
theorem dX11_change_81 : decode cX11_change 81 = .ok (.iadd, 1) := by decide +kernel
theorem dX11_change_82 : decode cX11_change 82 = .ok (.iload_n 3, 1) := by decide +kernel
theorem dX11_change_83 : decode cX11_change 83 = .ok (.iastore, 1) := by decide +kernel
theorem dX11_change_84 : decode cX11_change 84 = .ok (.iconst 1, 1) := by decide +kernel
theorem dX11_change_85 : decode cX11_change 85 = .ok (.ireturn, 1) := by decide +kernel
theorem dX11_goesTo_0 : decode cX11_goesTo 0 = .ok (.aload_n 0, 1) := by decide +kernel
theorem dX11_goesTo_1 : decode cX11_goesTo 1 = .ok (.invokevirtual 347, 3) := by decide +kernel
theorem dX11_goesTo_4 : decode cX11_goesTo 4 = .ok (.aload_n 0, 1) := by decide +kernel
theorem dX11_goesTo_5 : decode cX11_goesTo 5 = .ok (.iload_n 1, 1) := by decide +kernel
theorem dX11_goesTo_6 : decode cX11_goesTo 6 = .ok (.invokevirtual 350, 3) := by decide +kernel
theorem dX11_goesTo_9 : decode cX11_goesTo 9 = .ok (.return_, 1) := by decide +kernel
theorem dX11_then_0 : decode cX11_then 0 = .ok (.aload_n 0, 1) := by decide +kernel
theorem dX11_then_1 : decode cX11_then 1 = .ok (.iconst 0, 1) := by decide +kernel
theorem dX11_then_2 : decode cX11_then 2 = .ok (.putfield 84, 3) := by decide +kernel
theorem dX11_then_5 : decode cX11_then 5 = .ok (.aload_n 0, 1) := by decide +kernel
theorem dX11_then_6 : decode cX11_then 6 = .ok (.iload_n 1, 1) := by decide +kernel
theorem dX11_then_7 : decode cX11_then 7 = .ok (.invokevirtual 334, 3) := by decide +kernel
theorem dX11_then_10 : decode cX11_then 10 = .ok (.ifCond .eq 22, 3) := by decide +kernel
theorem dX11_then_13 : decode cX11_then 13 = .ok (.aload_n 0, 1) := by decide +kernel
theorem dX11_then_14 : decode cX11_then 14 = .ok (.iload_n 3, 1) := by decide +kernel
theorem dX11_then_15 : decode cX11_then 15 = .ok (.iconst 1, 1) := by decide +kernel
theorem dX11_then_16 : decode cX11_then 16 = .ok (.invokevirtual 330, 3) := by decide +kernel
theorem dX11_then_19 : decode cX11_then 19 = .ok (.ifCond .eq 13, 3) := by decide +kernel
theorem dX11_then_22 : decode cX11_then 22 = .ok (.aload_n 0, 1) := by decide +kernel
theorem dX11_then_23 : decode cX11_then 23 = .ok (.iload_n 2, 1) := by decide +kernel
theorem dX11_then_24 : decode cX11_then 24 = .ok (.iconst 0, 1) := by decide +kernel
theorem dX11_then_25 : decode cX11_then 25 = .ok (.iconst 2, 1) := by decide +kernel
theorem dX11_then_26 : decode cX11_then 26 = .ok (.invokevirtual 353, 3) := by decide +kernel
theorem dX11_then_29 : decode cX11_then 29 = .ok (.ifCond .ne 5, 3) := by decide +kernel
theorem dX11_then_32 : decode cX11_then 32 = .ok (.iconst 0, 1) := by decide +kernel
theorem dX11_then_33 : decode cX11_then 33 = .ok (.ireturn, 1) := by decide +kernel
theorem dX11_then_34 : decode cX11_then 34 = .ok (.aload_n 0, 1) := by decide +kernel
theorem dX11_then_35 : decode cX11_then 35 = .ok (.iload_n 2, 1) := by decide +kernel
theorem dX11_then_36 : decode cX11_then 36 = .ok (.invokevirtual 356, 3) := by decide +kernel
theorem dX11_then_39 : decode cX11_then 39 = .ok (.iload_n 3, 1) := by decide +kernel
theorem dX11_then_40 : decode cX11_then 40 = .ok (.ifCond .ne 13, 3) := by decide +kernel
theorem dX11_then_43 : decode cX11_then 43 = .ok (.aload_n 0, 1) := by decide +kernel
theorem dX11_then_44 : decode cX11_then 44 = .ok (.bipush 33, 2) := by decide +kernel
theorem dX11_then_46 : decode cX11_then 46 = .ok (.iload_n 1, 1) := by decide +kernel
theorem dX11_then_47 : decode cX11_then 47 = .ok (.invokevirtual 290, 3) := by decide +kernel
theorem dX11_then_50 : decode cX11_then 50 = .ok (.goto 10, 3) := by decide +kernel
theorem dX11_then_53 : decode cX11_then 53 = .ok (.aload_n 0, 1) := by decide +kernel
theorem dX11_then_54 : decode cX11_then 54 = .ok (.bipush 33, 2) := by decide +kernel
theorem dX11_then_56 : decode cX11_then 56 = .ok (.iload_n 1, 1) := by decide +kernel
theorem dX11_then_57 : decode cX11_then 57 = .ok (.invokevirtual 302, 3) := by decide +kernel
theorem dX11_then_60 : decode cX11_then 60 = .ok (.ireturn, 1) := by decide +kernel
theorem dX11_honour_0 : decode cX11_honour 0 = .ok (.aload_n 0, 1) := by decide +kernel
theorem dX11_honour_1 : decode cX11_honour 1 = .ok (.iconst 0, 1) := by decide +kernel
theorem dX11_honour_2 : decode cX11_honour 2 = .ok (.putfield 84, 3) := by decide +kernel
theorem dX11_honour_5 : decode cX11_honour 5 = .ok (.aload_n 0, 1) := by decide +kernel
theorem dX11_honour_6 : decode cX11_honour 6 = .ok (.iload_n 1, 1) := by decide +kernel
theorem dX11_honour_7 : decode cX11_honour 7 = .ok (.invokevirtual 327, 3) := by decide +kernel
theorem dX11_honour_10 : decode cX11_honour 10 = .ok (.ifCond .eq 13, 3) := by decide +kernel
theorem dX11_honour_13 : decode cX11_honour 13 = .ok (.aload_n 0, 1) := by decide +kernel
theorem dX11_honour_14 : decode cX11_honour 14 = .ok (.iload_n 2, 1) := by decide +kernel
theorem dX11_honour_15 : decode cX11_honour 15 = .ok (.iconst 0, 1) := by decide +kernel
theorem dX11_honour_16 : decode cX11_honour 16 = .ok (.iconst 2, 1) := by decide +kernel
theorem dX11_honour_17 : decode cX11_honour 17 = .ok (.invokevirtual 353, 3) := by decide +kernel
theorem dX11_honour_20 : decode cX11_honour 20 = .ok (.ifCond .ne 5, 3) := by decide +kernel
theorem dX11_honour_23 : decode cX11_honour 23 = .ok (.iconst 0, 1) := by decide +kernel
theorem dX11_honour_24 : decode cX11_honour 24 = .ok (.ireturn, 1) := by decide +kernel
theorem dX11_honour_25 : decode cX11_honour 25 = .ok (.aload_n 0, 1) := by decide +kernel
theorem dX11_honour_26 : decode cX11_honour 26 = .ok (.iload_n 2, 1) := by decide +kernel
theorem dX11_honour_27 : decode cX11_honour 27 = .ok (.invokevirtual 356, 3) := by decide +kernel
theorem dX11_honour_30 : decode cX11_honour 30 = .ok (.aload_n 0, 1) := by decide +kernel
theorem dX11_honour_31 : decode cX11_honour 31 = .ok (.getfield 51, 3) := by decide +kernel
theorem dX11_honour_34 : decode cX11_honour 34 = .ok (.bipush 50, 2) := by decide +kernel
theorem dX11_honour_36 : decode cX11_honour 36 = .ok (.iload_n 1, 1) := by decide +kernel
theorem dX11_honour_37 : decode cX11_honour 37 = .ok (.iadd, 1) := by decide +kernel
theorem dX11_honour_38 : decode cX11_honour 38 = .ok (.iaload, 1) := by decide +kernel
theorem dX11_honour_39 : decode cX11_honour 39 = .ok (.ireturn, 1) := by decide +kernel
theorem dX11_first_0 : decode cX11_first 0 = .ok (.aload_n 0, 1) := by decide +kernel
theorem dX11_first_1 : decode cX11_first 1 = .ok (.iconst 0, 1) := by decide +kernel
theorem dX11_first_2 : decode cX11_first 2 = .ok (.putfield 84, 3) := by decide +kernel
theorem dX11_first_5 : decode cX11_first 5 = .ok (.aload_n 0, 1) := by decide +kernel
theorem dX11_first_6 : decode cX11_first 6 = .ok (.iload_n 1, 1) := by decide +kernel
theorem dX11_first_7 : decode cX11_first 7 = .ok (.invokevirtual 327, 3) := by decide +kernel
theorem dX11_first_10 : decode cX11_first 10 = .ok (.ifCond .ne 5, 3) := by decide +kernel
theorem dX11_first_13 : decode cX11_first 13 = .ok (.iconst 0, 1) := by decide +kernel
theorem dX11_first_14 : decode cX11_first 14 = .ok (.ireturn, 1) := by decide +kernel
theorem dX11_first_15 : decode cX11_first 15 = .ok (.aload_n 0, 1) := by decide +kernel
theorem dX11_first_16 : decode cX11_first 16 = .ok (.invokevirtual 347, 3) := by decide +kernel
theorem dX11_first_19 : decode cX11_first 19 = .ok (.iconst 1, 1) := by decide +kernel
theorem dX11_first_20 : decode cX11_first 20 = .ok (.istore_n 2, 1) := by decide +kernel
theorem dX11_first_21 : decode cX11_first 21 = .ok (.iload_n 2, 1) := by decide +kernel
theorem dX11_first_22 : decode cX11_first 22 = .ok (.bipush 40, 2) := by decide +kernel
theorem dX11_first_24 : decode cX11_first 24 = .ok (.if_icmp .gt 29, 3) := by decide +kernel
theorem dX11_first_27 : decode cX11_first 27 = .ok (.aload_n 0, 1) := by decide +kernel
theorem dX11_first_28 : decode cX11_first 28 = .ok (.bipush 33, 2) := by decide +kernel
theorem dX11_first_30 : decode cX11_first 30 = .ok (.invokevirtual 308, 3) := by decide +kernel
theorem dX11_first_33 : decode cX11_first 33 = .ok (.aload_n 0, 1) := by decide +kernel
theorem dX11_first_34 : decode cX11_first 34 = .ok (.getfield 296, 3) := by decide +kernel
theorem dX11_first_37 : decode cX11_first 37 = .ok (.iload_n 1, 1) := by decide +kernel
theorem dX11_first_38 : decode cX11_first 38 = .ok (.ishr, 1) := by decide +kernel
theorem dX11_first_39 : decode cX11_first 39 = .ok (.iconst 1, 1) := by decide +kernel
theorem dX11_first_40 : decode cX11_first 40 = .ok (.iand, 1) := by decide +kernel
theorem dX11_first_41 : decode cX11_first 41 = .ok (.iconst 1, 1) := by decide +kernel
theorem dX11_first_42 : decode cX11_first 42 = .ok (.if_icmp .ne 5, 3) := by decide +kernel
theorem dX11_first_45 : decode cX11_first 45 = .ok (.iload_n 2, 1) := by decide +kernel
theorem dX11_first_46 : decode cX11_first 46 = .ok (.ireturn, 1) := by decide +kernel
theorem dX11_first_47 : decode cX11_first 47 = .ok (.iinc 2 1, 3) := by decide +kernel
theorem dX11_first_50 : decode cX11_first 50 = .ok (.goto (-29), 3) := by decide +kernel
theorem dX11_first_53 : decode cX11_first 53 = .ok (.iconst (-1), 1) := by decide +kernel
theorem dX11_first_54 : decode cX11_first 54 = .ok (.ireturn, 1) := by decide +kernel
theorem dX11_mistaken_0 : decode cX11_mistaken 0 = .ok (.aload_n 0, 1) := by decide +kernel
theorem dX11_mistaken_1 : decode cX11_mistaken 1 = .ok (.iconst 0, 1) := by decide +kernel
theorem dX11_mistaken_2 : decode cX11_mistaken 2 = .ok (.putfield 84, 3) := by decide +kernel
theorem dX11_mistaken_5 : decode cX11_mistaken 5 = .ok (.aload_n 0, 1) := by decide +kernel
theorem dX11_mistaken_6 : decode cX11_mistaken 6 = .ok (.iload_n 1, 1) := by decide +kernel
theorem dX11_mistaken_7 : decode cX11_mistaken 7 = .ok (.iconst 1, 1) := by decide +kernel
theorem dX11_mistaken_8 : decode cX11_mistaken 8 = .ok (.iconst 1, 1) := by decide +kernel
theorem dX11_mistaken_9 : decode cX11_mistaken 9 = .ok (.invokevirtual 353, 3) := by decide +kernel
theorem dX11_mistaken_12 : decode cX11_mistaken 12 = .ok (.ifCond .ne 5, 3) := by decide +kernel
theorem dX11_mistaken_15 : decode cX11_mistaken 15 = .ok (.iconst 0, 1) := by decide +kernel
theorem dX11_mistaken_16 : decode cX11_mistaken 16 = .ok (.ireturn, 1) := by decide +kernel
theorem dX11_mistaken_17 : decode cX11_mistaken 17 = .ok (.aload_n 0, 1) := by decide +kernel
theorem dX11_mistaken_18 : decode cX11_mistaken 18 = .ok (.iload_n 1, 1) := by decide +kernel
theorem dX11_mistaken_19 : decode cX11_mistaken 19 = .ok (.invokevirtual 356, 3) := by decide +kernel
theorem dX11_mistaken_22 : decode cX11_mistaken 22 = .ok (.aload_n 0, 1) := by decide +kernel
theorem dX11_mistaken_23 : decode cX11_mistaken 23 = .ok (.getfield 299, 3) := by decide +kernel
theorem dX11_mistaken_26 : decode cX11_mistaken 26 = .ok (.ireturn, 1) := by decide +kernel
theorem dX11_unsung_0 : decode cX11_unsung 0 = .ok (.aload_n 0, 1) := by decide +kernel
theorem dX11_unsung_1 : decode cX11_unsung 1 = .ok (.iconst 0, 1) := by decide +kernel
theorem dX11_unsung_2 : decode cX11_unsung 2 = .ok (.putfield 84, 3) := by decide +kernel
theorem dX11_unsung_5 : decode cX11_unsung 5 = .ok (.aload_n 0, 1) := by decide +kernel
theorem dX11_unsung_6 : decode cX11_unsung 6 = .ok (.iload_n 1, 1) := by decide +kernel
theorem dX11_unsung_7 : decode cX11_unsung 7 = .ok (.iconst 1, 1) := by decide +kernel
theorem dX11_unsung_8 : decode cX11_unsung 8 = .ok (.iconst 1, 1) := by decide +kernel
theorem dX11_unsung_9 : decode cX11_unsung 9 = .ok (.invokevirtual 353, 3) := by decide +kernel
theorem dX11_unsung_12 : decode cX11_unsung 12 = .ok (.ifCond .ne 5, 3) := by decide +kernel
theorem dX11_unsung_15 : decode cX11_unsung 15 = .ok (.iconst 0, 1) := by decide +kernel
theorem dX11_unsung_16 : decode cX11_unsung 16 = .ok (.ireturn, 1) := by decide +kernel
theorem dX11_unsung_17 : decode cX11_unsung 17 = .ok (.iconst 1, 1) := by decide +kernel
theorem dX11_unsung_18 : decode cX11_unsung 18 = .ok (.aload_n 0, 1) := by decide +kernel
theorem dX11_unsung_19 : decode cX11_unsung 19 = .ok (.getfield 251, 3) := by decide +kernel
theorem dX11_unsung_22 : decode cX11_unsung 22 = .ok (.ishl, 1) := by decide +kernel
theorem dX11_unsung_23 : decode cX11_unsung 23 = .ok (.iconst 1, 1) := by decide +kernel
theorem dX11_unsung_24 : decode cX11_unsung 24 = .ok (.isub, 1) := by decide +kernel
theorem dX11_unsung_25 : decode cX11_unsung 25 = .ok (.istore_n 2, 1) := by decide +kernel
theorem dX11_unsung_26 : decode cX11_unsung 26 = .ok (.aload_n 0, 1) := by decide +kernel
theorem dX11_unsung_27 : decode cX11_unsung 27 = .ok (.invokevirtual 347, 3) := by decide +kernel
theorem dX11_unsung_30 : decode cX11_unsung 30 = .ok (.iconst 0, 1) := by decide +kernel
theorem dX11_unsung_31 : decode cX11_unsung 31 = .ok (.istore_n 3, 1) := by decide +kernel
theorem dX11_unsung_32 : decode cX11_unsung 32 = .ok (.iload_n 3, 1) := by decide +kernel
theorem dX11_unsung_33 : decode cX11_unsung 33 = .ok (.iload_n 1, 1) := by decide +kernel
theorem dX11_unsung_34 : decode cX11_unsung 34 = .ok (.if_icmp .ge 24, 3) := by decide +kernel
theorem dX11_unsung_37 : decode cX11_unsung 37 = .ok (.aload_n 0, 1) := by decide +kernel
theorem dX11_unsung_38 : decode cX11_unsung 38 = .ok (.bipush 33, 2) := by decide +kernel
theorem dX11_unsung_40 : decode cX11_unsung 40 = .ok (.invokevirtual 308, 3) := by decide +kernel
theorem dX11_unsung_43 : decode cX11_unsung 43 = .ok (.iload_n 2, 1) := by decide +kernel
theorem dX11_unsung_44 : decode cX11_unsung 44 = .ok (.aload_n 0, 1) := by decide +kernel
theorem dX11_unsung_45 : decode cX11_unsung 45 = .ok (.getfield 296, 3) := by decide +kernel
theorem dX11_unsung_48 : decode cX11_unsung 48 = .ok (.iconst (-1), 1) := by decide +kernel
theorem dX11_unsung_49 : decode cX11_unsung 49 = .ok (.ixor, 1) := by decide +kernel
theorem dX11_unsung_50 : decode cX11_unsung 50 = .ok (.iand, 1) := by decide +kernel
theorem dX11_unsung_51 : decode cX11_unsung 51 = .ok (.istore_n 2, 1) := by decide +kernel
theorem dX11_unsung_52 : decode cX11_unsung 52 = .ok (.iinc 3 1, 3) := by decide +kernel
theorem dX11_unsung_55 : decode cX11_unsung 55 = .ok (.goto (-23), 3) := by decide +kernel
theorem dX11_unsung_58 : decode cX11_unsung 58 = .ok (.iload_n 2, 1) := by decide +kernel
theorem dX11_unsung_59 : decode cX11_unsung 59 = .ok (.ireturn, 1) := by decide +kernel
theorem dX11_farOf_0 : decode cX11_farOf 0 = .ok (.aload_n 0, 1) := by decide +kernel
theorem dX11_farOf_1 : decode cX11_farOf 1 = .ok (.getfield 51, 3) := by decide +kernel
theorem dX11_farOf_4 : decode cX11_farOf 4 = .ok (.iconst 1, 1) := by decide +kernel
theorem dX11_farOf_5 : decode cX11_farOf 5 = .ok (.iload_n 1, 1) := by decide +kernel
theorem dX11_farOf_6 : decode cX11_farOf 6 = .ok (.iadd, 1) := by decide +kernel
theorem dX11_farOf_7 : decode cX11_farOf 7 = .ok (.iaload, 1) := by decide +kernel
theorem dX11_farOf_8 : decode cX11_farOf 8 = .ok (.aload_n 0, 1) := by decide +kernel
theorem dX11_farOf_9 : decode cX11_farOf 9 = .ok (.getfield 51, 3) := by decide +kernel
theorem dX11_farOf_12 : decode cX11_farOf 12 = .ok (.iconst 1, 1) := by decide +kernel
theorem dX11_farOf_13 : decode cX11_farOf 13 = .ok (.iload_n 2, 1) := by decide +kernel
theorem dX11_farOf_14 : decode cX11_farOf 14 = .ok (.iadd, 1) := by decide +kernel
theorem dX11_farOf_15 : decode cX11_farOf 15 = .ok (.iaload, 1) := by decide +kernel
theorem dX11_farOf_16 : decode cX11_farOf 16 = .ok (.ixor, 1) := by decide +kernel
theorem dX11_farOf_17 : decode cX11_farOf 17 = .ok (.invokestatic 284, 3) := by decide +kernel
theorem dX11_farOf_20 : decode cX11_farOf 20 = .ok (.ireturn, 1) := by decide +kernel
theorem dX11_far_0 : decode cX11_far 0 = .ok (.aload_n 0, 1) := by decide +kernel
theorem dX11_far_1 : decode cX11_far 1 = .ok (.iconst 0, 1) := by decide +kernel
theorem dX11_far_2 : decode cX11_far 2 = .ok (.putfield 84, 3) := by decide +kernel
theorem dX11_far_5 : decode cX11_far 5 = .ok (.aload_n 0, 1) := by decide +kernel
theorem dX11_far_6 : decode cX11_far 6 = .ok (.iload_n 1, 1) := by decide +kernel
theorem dX11_far_7 : decode cX11_far 7 = .ok (.invokevirtual 327, 3) := by decide +kernel
theorem dX11_far_10 : decode cX11_far 10 = .ok (.ifCond .eq 20, 3) := by decide +kernel
theorem dX11_far_13 : decode cX11_far 13 = .ok (.aload_n 0, 1) := by decide +kernel
theorem dX11_far_14 : decode cX11_far 14 = .ok (.iload_n 2, 1) := by decide +kernel
theorem dX11_far_15 : decode cX11_far 15 = .ok (.invokevirtual 327, 3) := by decide +kernel
theorem dX11_far_18 : decode cX11_far 18 = .ok (.ifCond .eq 12, 3) := by decide +kernel
theorem dX11_far_21 : decode cX11_far 21 = .ok (.aload_n 0, 1) := by decide +kernel
theorem dX11_far_22 : decode cX11_far 22 = .ok (.iload_n 1, 1) := by decide +kernel
theorem dX11_far_23 : decode cX11_far 23 = .ok (.iload_n 2, 1) := by decide +kernel
theorem dX11_far_24 : decode cX11_far 24 = .ok (.invokevirtual 359, 3) := by decide +kernel
theorem dX11_far_27 : decode cX11_far 27 = .ok (.goto 4, 3) := by decide +kernel
theorem dX11_far_30 : decode cX11_far 30 = .ok (.iconst 0, 1) := by decide +kernel
theorem dX11_far_31 : decode cX11_far 31 = .ok (.ireturn, 1) := by decide +kernel
theorem dX11_nearest_0 : decode cX11_nearest 0 = .ok (.aload_n 0, 1) := by decide +kernel
theorem dX11_nearest_1 : decode cX11_nearest 1 = .ok (.iconst 0, 1) := by decide +kernel
theorem dX11_nearest_2 : decode cX11_nearest 2 = .ok (.putfield 84, 3) := by decide +kernel
theorem dX11_nearest_5 : decode cX11_nearest 5 = .ok (.iconst (-1), 1) := by decide +kernel
theorem dX11_nearest_6 : decode cX11_nearest 6 = .ok (.istore_n 1, 1) := by decide +kernel
theorem dX11_nearest_7 : decode cX11_nearest 7 = .ok (.ldc_w 362, 3) := by decide +kernel
theorem dX11_nearest_10 : decode cX11_nearest 10 = .ok (.istore_n 2, 1) := by decide +kernel
theorem dX11_nearest_11 : decode cX11_nearest 11 = .ok (.iconst 0, 1) := by decide +kernel
theorem dX11_nearest_12 : decode cX11_nearest 12 = .ok (.istore_n 3, 1) := by decide +kernel
theorem dX11_nearest_13 : decode cX11_nearest 13 = .ok (.iload_n 3, 1) := by decide +kernel
theorem dX11_nearest_14 : decode cX11_nearest 14 = .ok (.aload_n 0, 1) := by decide +kernel
theorem dX11_nearest_15 : decode cX11_nearest 15 = .ok (.getfield 251, 3) := by decide +kernel
theorem dX11_nearest_18 : decode cX11_nearest 18 = .ok (.if_icmp .ge 59, 3) := by decide +kernel
theorem dX11_nearest_21 : decode cX11_nearest 21 = .ok (.iload_n 3, 1) := by decide +kernel
theorem dX11_nearest_22 : decode cX11_nearest 22 = .ok (.iconst 1, 1) := by decide +kernel
theorem dX11_nearest_23 : decode cX11_nearest 23 = .ok (.iadd, 1) := by decide +kernel
theorem dX11_nearest_24 : decode cX11_nearest 24 = .ok (.istore 4, 2) := by decide +kernel
theorem dX11_nearest_26 : decode cX11_nearest 26 = .ok (.iload 4, 2) := by decide +kernel
theorem dX11_nearest_28 : decode cX11_nearest 28 = .ok (.aload_n 0, 1) := by decide +kernel
theorem dX11_nearest_29 : decode cX11_nearest 29 = .ok (.getfield 251, 3) := by decide +kernel
theorem dX11_nearest_32 : decode cX11_nearest 32 = .ok (.if_icmp .ge 39, 3) := by decide +kernel
theorem dX11_nearest_35 : decode cX11_nearest 35 = .ok (.aload_n 0, 1) := by decide +kernel
theorem dX11_nearest_36 : decode cX11_nearest 36 = .ok (.iload_n 3, 1) := by decide +kernel
theorem dX11_nearest_37 : decode cX11_nearest 37 = .ok (.iload 4, 2) := by decide +kernel
theorem dX11_nearest_39 : decode cX11_nearest 39 = .ok (.invokevirtual 359, 3) := by decide +kernel
theorem dX11_nearest_42 : decode cX11_nearest 42 = .ok (.iload_n 2, 1) := by decide +kernel
theorem dX11_nearest_43 : decode cX11_nearest 43 = .ok (.if_icmp .lt 6, 3) := by decide +kernel
theorem dX11_nearest_46 : decode cX11_nearest 46 = .ok (.goto 19, 3) := by decide +kernel
theorem dX11_nearest_49 : decode cX11_nearest 49 = .ok (.bipush 10, 2) := by decide +kernel
theorem dX11_nearest_51 : decode cX11_nearest 51 = .ok (.iload_n 3, 1) := by decide +kernel
theorem dX11_nearest_52 : decode cX11_nearest 52 = .ok (.imul, 1) := by decide +kernel
theorem dX11_nearest_53 : decode cX11_nearest 53 = .ok (.iload 4, 2) := by decide +kernel
theorem dX11_nearest_55 : decode cX11_nearest 55 = .ok (.iadd, 1) := by decide +kernel
theorem dX11_nearest_56 : decode cX11_nearest 56 = .ok (.istore_n 1, 1) := by decide +kernel
theorem dX11_nearest_57 : decode cX11_nearest 57 = .ok (.aload_n 0, 1) := by decide +kernel
theorem dX11_nearest_58 : decode cX11_nearest 58 = .ok (.iload_n 3, 1) := by decide +kernel
theorem dX11_nearest_59 : decode cX11_nearest 59 = .ok (.iload 4, 2) := by decide +kernel
theorem dX11_nearest_61 : decode cX11_nearest 61 = .ok (.invokevirtual 359, 3) := by decide +kernel
theorem dX11_nearest_64 : decode cX11_nearest 64 = .ok (.istore_n 2, 1) := by decide +kernel
theorem dX11_nearest_65 : decode cX11_nearest 65 = .ok (.iinc 4 1, 3) := by decide +kernel
theorem dX11_nearest_68 : decode cX11_nearest 68 = .ok (.goto (-42), 3) := by decide +kernel
theorem dX11_nearest_71 : decode cX11_nearest 71 = .ok (.iinc 3 1, 3) := by decide +kernel
theorem dX11_nearest_74 : decode cX11_nearest 74 = .ok (.goto (-61), 3) := by decide +kernel
theorem dX11_nearest_77 : decode cX11_nearest 77 = .ok (.iload_n 1, 1) := by decide +kernel
theorem dX11_nearest_78 : decode cX11_nearest 78 = .ok (.ireturn, 1) := by decide +kernel
theorem dX11_apart_0 : decode cX11_apart 0 = .ok (.aload_n 0, 1) := by decide +kernel
theorem dX11_apart_1 : decode cX11_apart 1 = .ok (.iconst 0, 1) := by decide +kernel
theorem dX11_apart_2 : decode cX11_apart 2 = .ok (.putfield 84, 3) := by decide +kernel
theorem dX11_apart_5 : decode cX11_apart 5 = .ok (.aload_n 0, 1) := by decide +kernel
theorem dX11_apart_6 : decode cX11_apart 6 = .ok (.iload_n 1, 1) := by decide +kernel
theorem dX11_apart_7 : decode cX11_apart 7 = .ok (.iconst 1, 1) := by decide +kernel
theorem dX11_apart_8 : decode cX11_apart 8 = .ok (.bipush 12, 2) := by decide +kernel
theorem dX11_apart_10 : decode cX11_apart 10 = .ok (.invokestatic 314, 3) := by decide +kernel
theorem dX11_apart_13 : decode cX11_apart 13 = .ok (.iconst 1, 1) := by decide +kernel
theorem dX11_apart_14 : decode cX11_apart 14 = .ok (.invokevirtual 244, 3) := by decide +kernel
theorem dX11_apart_17 : decode cX11_apart 17 = .ok (.ifCond .ne 5, 3) := by decide +kernel
theorem dX11_apart_20 : decode cX11_apart 20 = .ok (.iconst 0, 1) := by decide +kernel
theorem dX11_apart_21 : decode cX11_apart 21 = .ok (.ireturn, 1) := by decide +kernel
theorem dX11_apart_22 : decode cX11_apart 22 = .ok (.iconst 0, 1) := by decide +kernel
theorem dX11_apart_23 : decode cX11_apart 23 = .ok (.istore_n 2, 1) := by decide +kernel
theorem dX11_apart_24 : decode cX11_apart 24 = .ok (.iconst 0, 1) := by decide +kernel
theorem dX11_apart_25 : decode cX11_apart 25 = .ok (.istore_n 3, 1) := by decide +kernel
theorem dX11_apart_26 : decode cX11_apart 26 = .ok (.iload_n 3, 1) := by decide +kernel
theorem dX11_apart_27 : decode cX11_apart 27 = .ok (.iconst 1, 1) := by decide +kernel
theorem dX11_apart_28 : decode cX11_apart 28 = .ok (.aload_n 0, 1) := by decide +kernel
theorem dX11_apart_29 : decode cX11_apart 29 = .ok (.getfield 251, 3) := by decide +kernel
theorem dX11_apart_32 : decode cX11_apart 32 = .ok (.ishl, 1) := by decide +kernel
theorem dX11_apart_33 : decode cX11_apart 33 = .ok (.if_icmp .ge 114, 3) := by decide +kernel
theorem dX11_apart_36 : decode cX11_apart 36 = .ok (.iload_n 3, 1) := by decide +kernel
theorem dX11_apart_37 : decode cX11_apart 37 = .ok (.invokestatic 284, 3) := by decide +kernel
theorem dX11_apart_40 : decode cX11_apart 40 = .ok (.iload_n 2, 1) := by decide +kernel
theorem dX11_apart_41 : decode cX11_apart 41 = .ok (.invokestatic 284, 3) := by decide +kernel
theorem dX11_apart_44 : decode cX11_apart 44 = .ok (.if_icmp .gt 6, 3) := by decide +kernel
theorem dX11_apart_47 : decode cX11_apart 47 = .ok (.goto 94, 3) := by decide +kernel
theorem dX11_apart_50 : decode cX11_apart 50 = .ok (.iconst 1, 1) := by decide +kernel
theorem dX11_apart_51 : decode cX11_apart 51 = .ok (.istore 4, 2) := by decide +kernel
theorem dX11_apart_53 : decode cX11_apart 53 = .ok (.iconst 0, 1) := by decide +kernel
theorem dX11_apart_54 : decode cX11_apart 54 = .ok (.istore 5, 2) := by decide +kernel
theorem dX11_apart_56 : decode cX11_apart 56 = .ok (.iload 5, 2) := by decide +kernel
theorem dX11_apart_58 : decode cX11_apart 58 = .ok (.aload_n 0, 1) := by decide +kernel
theorem dX11_apart_59 : decode cX11_apart 59 = .ok (.getfield 251, 3) := by decide +kernel
theorem dX11_apart_62 : decode cX11_apart 62 = .ok (.if_icmp .ge 68, 3) := by decide +kernel
theorem dX11_apart_65 : decode cX11_apart 65 = .ok (.iload 4, 2) := by decide +kernel
theorem dX11_apart_67 : decode cX11_apart 67 = .ok (.ifCond .eq 63, 3) := by decide +kernel
theorem dX11_apart_70 : decode cX11_apart 70 = .ok (.iconst 0, 1) := by decide +kernel
theorem dX11_apart_71 : decode cX11_apart 71 = .ok (.istore 6, 2) := by decide +kernel
theorem dX11_apart_73 : decode cX11_apart 73 = .ok (.iload 6, 2) := by decide +kernel
theorem dX11_apart_75 : decode cX11_apart 75 = .ok (.iload 5, 2) := by decide +kernel
theorem dX11_apart_77 : decode cX11_apart 77 = .ok (.if_icmp .ge 47, 3) := by decide +kernel
theorem dX11_apart_80 : decode cX11_apart 80 = .ok (.iload 4, 2) := by decide +kernel
theorem dX11_apart_82 : decode cX11_apart 82 = .ok (.ifCond .eq 33, 3) := by decide +kernel
theorem dX11_apart_85 : decode cX11_apart 85 = .ok (.iload_n 3, 1) := by decide +kernel
theorem dX11_apart_86 : decode cX11_apart 86 = .ok (.iload 5, 2) := by decide +kernel
theorem dX11_apart_88 : decode cX11_apart 88 = .ok (.ishr, 1) := by decide +kernel
theorem dX11_apart_89 : decode cX11_apart 89 = .ok (.iload_n 3, 1) := by decide +kernel
theorem dX11_apart_90 : decode cX11_apart 90 = .ok (.iload 6, 2) := by decide +kernel
theorem dX11_apart_92 : decode cX11_apart 92 = .ok (.ishr, 1) := by decide +kernel
theorem dX11_apart_93 : decode cX11_apart 93 = .ok (.iand, 1) := by decide +kernel
theorem dX11_apart_94 : decode cX11_apart 94 = .ok (.iconst 1, 1) := by decide +kernel
theorem dX11_apart_95 : decode cX11_apart 95 = .ok (.iand, 1) := by decide +kernel
theorem dX11_apart_96 : decode cX11_apart 96 = .ok (.ifCond .eq 15, 3) := by decide +kernel
theorem dX11_apart_99 : decode cX11_apart 99 = .ok (.aload_n 0, 1) := by decide +kernel
theorem dX11_apart_100 : decode cX11_apart 100 = .ok (.iload 5, 2) := by decide +kernel
theorem dX11_apart_102 : decode cX11_apart 102 = .ok (.iload 6, 2) := by decide +kernel
theorem dX11_apart_104 : decode cX11_apart 104 = .ok (.invokevirtual 359, 3) := by decide +kernel
theorem dX11_apart_107 : decode cX11_apart 107 = .ok (.iload_n 1, 1) := by decide +kernel
theorem dX11_apart_108 : decode cX11_apart 108 = .ok (.if_icmp .lt 7, 3) := by decide +kernel
theorem dX11_apart_111 : decode cX11_apart 111 = .ok (.iconst 1, 1) := by decide +kernel
theorem dX11_apart_112 : decode cX11_apart 112 = .ok (.goto 4, 3) := by decide +kernel
theorem dX11_apart_115 : decode cX11_apart 115 = .ok (.iconst 0, 1) := by decide +kernel
theorem dX11_apart_116 : decode cX11_apart 116 = .ok (.istore 4, 2) := by decide +kernel
theorem dX11_apart_118 : decode cX11_apart 118 = .ok (.iinc 6 1, 3) := by decide +kernel
theorem dX11_apart_121 : decode cX11_apart 121 = .ok (.goto (-48), 3) := by decide +kernel
theorem dX11_apart_124 : decode cX11_apart 124 = .ok (.iinc 5 1, 3) := by decide +kernel
theorem dX11_apart_127 : decode cX11_apart 127 = .ok (.goto (-71), 3) := by decide +kernel
theorem dX11_apart_130 : decode cX11_apart 130 = .ok (.iload 4, 2) := by decide +kernel
theorem dX11_apart_132 : decode cX11_apart 132 = .ok (.ifCond .eq 7, 3) := by decide +kernel
theorem dX11_apart_135 : decode cX11_apart 135 = .ok (.iload_n 3, 1) := by decide +kernel
theorem dX11_apart_136 : decode cX11_apart 136 = .ok (.goto 4, 3) := by decide +kernel
theorem dX11_apart_139 : decode cX11_apart 139 = .ok (.iload_n 2, 1) := by decide +kernel
theorem dX11_apart_140 : decode cX11_apart 140 = .ok (.istore_n 2, 1) := by decide +kernel
theorem dX11_apart_141 : decode cX11_apart 141 = .ok (.iinc 3 1, 3) := by decide +kernel
theorem dX11_apart_144 : decode cX11_apart 144 = .ok (.goto (-118), 3) := by decide +kernel
theorem dX11_apart_147 : decode cX11_apart 147 = .ok (.iload_n 2, 1) := by decide +kernel
theorem dX11_apart_148 : decode cX11_apart 148 = .ok (.ireturn, 1) := by decide +kernel
theorem dX11_tread_0 : decode cX11_tread 0 = .ok (.aload_n 0, 1) := by decide +kernel
theorem dX11_tread_1 : decode cX11_tread 1 = .ok (.iconst 0, 1) := by decide +kernel
theorem dX11_tread_2 : decode cX11_tread 2 = .ok (.putfield 84, 3) := by decide +kernel
theorem dX11_tread_5 : decode cX11_tread 5 = .ok (.aload_n 0, 1) := by decide +kernel
theorem dX11_tread_6 : decode cX11_tread 6 = .ok (.iload_n 1, 1) := by decide +kernel
theorem dX11_tread_7 : decode cX11_tread 7 = .ok (.iconst 1, 1) := by decide +kernel
theorem dX11_tread_8 : decode cX11_tread 8 = .ok (.invokevirtual 330, 3) := by decide +kernel
theorem dX11_tread_11 : decode cX11_tread 11 = .ok (.ifCond .ne 5, 3) := by decide +kernel
theorem dX11_tread_14 : decode cX11_tread 14 = .ok (.iconst 0, 1) := by decide +kernel
theorem dX11_tread_15 : decode cX11_tread 15 = .ok (.ireturn, 1) := by decide +kernel
theorem dX11_tread_16 : decode cX11_tread 16 = .ok (.aload_n 0, 1) := by decide +kernel
theorem dX11_tread_17 : decode cX11_tread 17 = .ok (.getfield 251, 3) := by decide +kernel
theorem dX11_tread_20 : decode cX11_tread 20 = .ok (.ifCond .ne 5, 3) := by decide +kernel
theorem dX11_tread_23 : decode cX11_tread 23 = .ok (.iconst (-1), 1) := by decide +kernel
theorem dX11_tread_24 : decode cX11_tread 24 = .ok (.ireturn, 1) := by decide +kernel
theorem dX11_tread_25 : decode cX11_tread 25 = .ok (.iconst 0, 1) := by decide +kernel
theorem dX11_tread_26 : decode cX11_tread 26 = .ok (.istore_n 2, 1) := by decide +kernel
theorem dX11_tread_27 : decode cX11_tread 27 = .ok (.iconst (-1), 1) := by decide +kernel
theorem dX11_tread_28 : decode cX11_tread 28 = .ok (.istore_n 3, 1) := by decide +kernel
theorem dX11_tread_29 : decode cX11_tread 29 = .ok (.iconst 0, 1) := by decide +kernel
theorem dX11_tread_30 : decode cX11_tread 30 = .ok (.istore 4, 2) := by decide +kernel
theorem dX11_tread_32 : decode cX11_tread 32 = .ok (.iload 4, 2) := by decide +kernel
theorem dX11_tread_34 : decode cX11_tread 34 = .ok (.iconst 1, 1) := by decide +kernel
theorem dX11_tread_35 : decode cX11_tread 35 = .ok (.aload_n 0, 1) := by decide +kernel
theorem dX11_tread_36 : decode cX11_tread 36 = .ok (.getfield 7, 3) := by decide +kernel
theorem dX11_tread_39 : decode cX11_tread 39 = .ok (.ishl, 1) := by decide +kernel
theorem dX11_tread_40 : decode cX11_tread 40 = .ok (.if_icmp .ge 69, 3) := by decide +kernel
theorem dX11_tread_43 : decode cX11_tread 43 = .ok (.ldc_w 362, 3) := by decide +kernel
theorem dX11_tread_46 : decode cX11_tread 46 = .ok (.istore 5, 2) := by decide +kernel
theorem dX11_tread_48 : decode cX11_tread 48 = .ok (.iconst 0, 1) := by decide +kernel
theorem dX11_tread_49 : decode cX11_tread 49 = .ok (.istore 6, 2) := by decide +kernel
theorem dX11_tread_51 : decode cX11_tread 51 = .ok (.iload 6, 2) := by decide +kernel
theorem dX11_tread_53 : decode cX11_tread 53 = .ok (.aload_n 0, 1) := by decide +kernel
theorem dX11_tread_54 : decode cX11_tread 54 = .ok (.getfield 251, 3) := by decide +kernel
theorem dX11_tread_57 : decode cX11_tread 57 = .ok (.if_icmp .ge 31, 3) := by decide +kernel
theorem dX11_tread_60 : decode cX11_tread 60 = .ok (.iload 5, 2) := by decide +kernel
theorem dX11_tread_62 : decode cX11_tread 62 = .ok (.iload 4, 2) := by decide +kernel
theorem dX11_tread_64 : decode cX11_tread 64 = .ok (.aload_n 0, 1) := by decide +kernel
theorem dX11_tread_65 : decode cX11_tread 65 = .ok (.getfield 51, 3) := by decide +kernel
theorem dX11_tread_68 : decode cX11_tread 68 = .ok (.iconst 1, 1) := by decide +kernel
theorem dX11_tread_69 : decode cX11_tread 69 = .ok (.iload 6, 2) := by decide +kernel
theorem dX11_tread_71 : decode cX11_tread 71 = .ok (.iadd, 1) := by decide +kernel
theorem dX11_tread_72 : decode cX11_tread 72 = .ok (.iaload, 1) := by decide +kernel
theorem dX11_tread_73 : decode cX11_tread 73 = .ok (.ixor, 1) := by decide +kernel
theorem dX11_tread_74 : decode cX11_tread 74 = .ok (.invokestatic 284, 3) := by decide +kernel
theorem dX11_tread_77 : decode cX11_tread 77 = .ok (.invokestatic 305, 3) := by decide +kernel
theorem dX11_tread_80 : decode cX11_tread 80 = .ok (.istore 5, 2) := by decide +kernel
theorem dX11_tread_82 : decode cX11_tread 82 = .ok (.iinc 6 1, 3) := by decide +kernel
theorem dX11_tread_85 : decode cX11_tread 85 = .ok (.goto (-34), 3) := by decide +kernel
theorem dX11_tread_88 : decode cX11_tread 88 = .ok (.iload 5, 2) := by decide +kernel
theorem dX11_tread_90 : decode cX11_tread 90 = .ok (.iload_n 3, 1) := by decide +kernel
theorem dX11_tread_91 : decode cX11_tread 91 = .ok (.if_icmp .gt 6, 3) := by decide +kernel
theorem dX11_tread_94 : decode cX11_tread 94 = .ok (.goto 9, 3) := by decide +kernel
theorem dX11_tread_97 : decode cX11_tread 97 = .ok (.iload 4, 2) := by decide +kernel
theorem dX11_tread_99 : decode cX11_tread 99 = .ok (.istore_n 2, 1) := by decide +kernel
theorem dX11_tread_100 : decode cX11_tread 100 = .ok (.iload 5, 2) := by decide +kernel
theorem dX11_tread_102 : decode cX11_tread 102 = .ok (.istore_n 3, 1) := by decide +kernel
theorem dX11_tread_103 : decode cX11_tread 103 = .ok (.iinc 4 1, 3) := by decide +kernel
theorem dX11_tread_106 : decode cX11_tread 106 = .ok (.goto (-74), 3) := by decide +kernel
theorem dX11_tread_109 : decode cX11_tread 109 = .ok (.iload_n 1, 1) := by decide +kernel
theorem dX11_tread_110 : decode cX11_tread 110 = .ok (.ifCond .ne 7, 3) := by decide +kernel
theorem dX11_tread_113 : decode cX11_tread 113 = .ok (.iload_n 3, 1) := by decide +kernel
theorem dX11_tread_114 : decode cX11_tread 114 = .ok (.goto 4, 3) := by decide +kernel
theorem dX11_tread_117 : decode cX11_tread 117 = .ok (.iload_n 2, 1) := by decide +kernel
theorem dX11_tread_118 : decode cX11_tread 118 = .ok (.ireturn, 1) := by decide +kernel
theorem dX11_canTry_0 : decode cX11_canTry 0 = .ok (.aload_n 0, 1) := by decide +kernel
theorem dX11_canTry_1 : decode cX11_canTry 1 = .ok (.getfield 51, 3) := by decide +kernel
theorem dX11_canTry_4 : decode cX11_canTry 4 = .ok (.bipush 25, 2) := by decide +kernel
theorem dX11_canTry_6 : decode cX11_canTry 6 = .ok (.iload_n 2, 1) := by decide +kernel
theorem dX11_canTry_7 : decode cX11_canTry 7 = .ok (.iadd, 1) := by decide +kernel
theorem dX11_canTry_8 : decode cX11_canTry 8 = .ok (.iaload, 1) := by decide +kernel
theorem dX11_canTry_9 : decode cX11_canTry 9 = .ok (.iconst 1, 1) := by decide +kernel
theorem dX11_canTry_10 : decode cX11_canTry 10 = .ok (.iload_n 1, 1) := by decide +kernel
theorem dX11_canTry_11 : decode cX11_canTry 11 = .ok (.ishl, 1) := by decide +kernel
theorem dX11_canTry_12 : decode cX11_canTry 12 = .ok (.iconst (-1), 1) := by decide +kernel
theorem dX11_canTry_13 : decode cX11_canTry 13 = .ok (.ixor, 1) := by decide +kernel
theorem dX11_canTry_14 : decode cX11_canTry 14 = .ok (.iand, 1) := by decide +kernel
theorem dX11_canTry_15 : decode cX11_canTry 15 = .ok (.invokestatic 284, 3) := by decide +kernel
theorem dX11_canTry_18 : decode cX11_canTry 18 = .ok (.iconst 4, 1) := by decide +kernel
theorem dX11_canTry_19 : decode cX11_canTry 19 = .ok (.if_icmp .ne 5, 3) := by decide +kernel
theorem dX11_canTry_22 : decode cX11_canTry 22 = .ok (.iconst 0, 1) := by decide +kernel
theorem dX11_canTry_23 : decode cX11_canTry 23 = .ok (.ireturn, 1) := by decide +kernel
theorem dX11_canTry_24 : decode cX11_canTry 24 = .ok (.aload_n 0, 1) := by decide +kernel
theorem dX11_canTry_25 : decode cX11_canTry 25 = .ok (.invokevirtual 347, 3) := by decide +kernel
theorem dX11_canTry_28 : decode cX11_canTry 28 = .ok (.aload_n 0, 1) := by decide +kernel
theorem dX11_canTry_29 : decode cX11_canTry 29 = .ok (.bipush 33, 2) := by decide +kernel
theorem dX11_canTry_31 : decode cX11_canTry 31 = .ok (.iload_n 1, 1) := by decide +kernel
theorem dX11_canTry_32 : decode cX11_canTry 32 = .ok (.iload_n 2, 1) := by decide +kernel
theorem dX11_canTry_33 : decode cX11_canTry 33 = .ok (.invokevirtual 343, 3) := by decide +kernel
theorem dX11_canTry_36 : decode cX11_canTry 36 = .ok (.iconst 1, 1) := by decide +kernel
theorem dX11_canTry_37 : decode cX11_canTry 37 = .ok (.ireturn, 1) := by decide +kernel
theorem dX11_passes_0 : decode cX11_passes 0 = .ok (.aload_n 0, 1) := by decide +kernel
theorem dX11_passes_1 : decode cX11_passes 1 = .ok (.iconst 0, 1) := by decide +kernel
theorem dX11_passes_2 : decode cX11_passes 2 = .ok (.putfield 84, 3) := by decide +kernel
theorem dX11_passes_5 : decode cX11_passes 5 = .ok (.aload_n 0, 1) := by decide +kernel
theorem dX11_passes_6 : decode cX11_passes 6 = .ok (.iload_n 1, 1) := by decide +kernel
theorem dX11_passes_7 : decode cX11_passes 7 = .ok (.invokevirtual 327, 3) := by decide +kernel
theorem dX11_passes_10 : decode cX11_passes 10 = .ok (.ifCond .eq 11, 3) := by decide +kernel
theorem dX11_passes_13 : decode cX11_passes 13 = .ok (.aload_n 0, 1) := by decide +kernel
theorem dX11_passes_14 : decode cX11_passes 14 = .ok (.iload_n 2, 1) := by decide +kernel
theorem dX11_passes_15 : decode cX11_passes 15 = .ok (.invokevirtual 327, 3) := by decide +kernel
theorem dX11_passes_18 : decode cX11_passes 18 = .ok (.ifCond .ne 5, 3) := by decide +kernel
theorem dX11_passes_21 : decode cX11_passes 21 = .ok (.iconst 0, 1) := by decide +kernel
theorem dX11_passes_22 : decode cX11_passes 22 = .ok (.ireturn, 1) := by decide +kernel
theorem dX11_passes_23 : decode cX11_passes 23 = .ok (.iconst 0, 1) := by decide +kernel
theorem dX11_passes_24 : decode cX11_passes 24 = .ok (.istore_n 3, 1) := by decide +kernel
theorem dX11_passes_25 : decode cX11_passes 25 = .ok (.iload_n 3, 1) := by decide +kernel
theorem dX11_passes_26 : decode cX11_passes 26 = .ok (.aload_n 0, 1) := by decide +kernel
theorem dX11_passes_27 : decode cX11_passes 27 = .ok (.getfield 254, 3) := by decide +kernel
theorem dX11_passes_30 : decode cX11_passes 30 = .ok (.if_icmp .ge 36, 3) := by decide +kernel
theorem dX11_passes_33 : decode cX11_passes 33 = .ok (.iload_n 1, 1) := by decide +kernel
theorem dX11_passes_34 : decode cX11_passes 34 = .ok (.iload_n 2, 1) := by decide +kernel
theorem dX11_passes_35 : decode cX11_passes 35 = .ok (.if_icmp .eq 31, 3) := by decide +kernel
theorem dX11_passes_38 : decode cX11_passes 38 = .ok (.aload_n 0, 1) := by decide +kernel
theorem dX11_passes_39 : decode cX11_passes 39 = .ok (.iload_n 1, 1) := by decide +kernel
theorem dX11_passes_40 : decode cX11_passes 40 = .ok (.iload_n 3, 1) := by decide +kernel
theorem dX11_passes_41 : decode cX11_passes 41 = .ok (.invokevirtual 363, 3) := by decide +kernel
theorem dX11_passes_44 : decode cX11_passes 44 = .ok (.ifCond .eq 16, 3) := by decide +kernel
theorem dX11_passes_47 : decode cX11_passes 47 = .ok (.aload_n 0, 1) := by decide +kernel
theorem dX11_passes_48 : decode cX11_passes 48 = .ok (.bipush 33, 2) := by decide +kernel
theorem dX11_passes_50 : decode cX11_passes 50 = .ok (.iload_n 3, 1) := by decide +kernel
theorem dX11_passes_51 : decode cX11_passes 51 = .ok (.invokevirtual 302, 3) := by decide +kernel
theorem dX11_passes_54 : decode cX11_passes 54 = .ok (.iload_n 2, 1) := by decide +kernel
theorem dX11_passes_55 : decode cX11_passes 55 = .ok (.if_icmp .ne 5, 3) := by decide +kernel
theorem dX11_passes_58 : decode cX11_passes 58 = .ok (.iload_n 3, 1) := by decide +kernel
theorem dX11_passes_59 : decode cX11_passes 59 = .ok (.ireturn, 1) := by decide +kernel
theorem dX11_passes_60 : decode cX11_passes 60 = .ok (.iinc 3 1, 3) := by decide +kernel
theorem dX11_passes_63 : decode cX11_passes 63 = .ok (.goto (-38), 3) := by decide +kernel
theorem dX11_passes_66 : decode cX11_passes 66 = .ok (.iconst (-1), 1) := by decide +kernel
theorem dX11_passes_67 : decode cX11_passes 67 = .ok (.ireturn, 1) := by decide +kernel
theorem dX11_hidden_0 : decode cX11_hidden 0 = .ok (.aload_n 0, 1) := by decide +kernel
theorem dX11_hidden_1 : decode cX11_hidden 1 = .ok (.iconst 0, 1) := by decide +kernel
theorem dX11_hidden_2 : decode cX11_hidden 2 = .ok (.putfield 84, 3) := by decide +kernel
theorem dX11_hidden_5 : decode cX11_hidden 5 = .ok (.aload_n 0, 1) := by decide +kernel
theorem dX11_hidden_6 : decode cX11_hidden 6 = .ok (.iload_n 1, 1) := by decide +kernel
theorem dX11_hidden_7 : decode cX11_hidden 7 = .ok (.invokevirtual 327, 3) := by decide +kernel
theorem dX11_hidden_10 : decode cX11_hidden 10 = .ok (.ifCond .ne 5, 3) := by decide +kernel
theorem dX11_hidden_13 : decode cX11_hidden 13 = .ok (.iconst 0, 1) := by decide +kernel
theorem dX11_hidden_14 : decode cX11_hidden 14 = .ok (.ireturn, 1) := by decide +kernel
theorem dX11_hidden_15 : decode cX11_hidden 15 = .ok (.iconst 0, 1) := by decide +kernel
theorem dX11_hidden_16 : decode cX11_hidden 16 = .ok (.istore_n 2, 1) := by decide +kernel
theorem dX11_hidden_17 : decode cX11_hidden 17 = .ok (.iconst 0, 1) := by decide +kernel
theorem dX11_hidden_18 : decode cX11_hidden 18 = .ok (.istore_n 3, 1) := by decide +kernel
theorem dX11_hidden_19 : decode cX11_hidden 19 = .ok (.iload_n 3, 1) := by decide +kernel
theorem dX11_hidden_20 : decode cX11_hidden 20 = .ok (.aload_n 0, 1) := by decide +kernel
theorem dX11_hidden_21 : decode cX11_hidden 21 = .ok (.getfield 254, 3) := by decide +kernel
theorem dX11_hidden_24 : decode cX11_hidden 24 = .ok (.if_icmp .ge 39, 3) := by decide +kernel
theorem dX11_hidden_27 : decode cX11_hidden 27 = .ok (.iload_n 2, 1) := by decide +kernel
theorem dX11_hidden_28 : decode cX11_hidden 28 = .ok (.aload_n 0, 1) := by decide +kernel
theorem dX11_hidden_29 : decode cX11_hidden 29 = .ok (.iload_n 1, 1) := by decide +kernel
theorem dX11_hidden_30 : decode cX11_hidden 30 = .ok (.iload_n 3, 1) := by decide +kernel
theorem dX11_hidden_31 : decode cX11_hidden 31 = .ok (.invokevirtual 363, 3) := by decide +kernel
theorem dX11_hidden_34 : decode cX11_hidden 34 = .ok (.ifCond .eq 20, 3) := by decide +kernel
theorem dX11_hidden_37 : decode cX11_hidden 37 = .ok (.aload_n 0, 1) := by decide +kernel
theorem dX11_hidden_38 : decode cX11_hidden 38 = .ok (.bipush 33, 2) := by decide +kernel
theorem dX11_hidden_40 : decode cX11_hidden 40 = .ok (.iload_n 3, 1) := by decide +kernel
theorem dX11_hidden_41 : decode cX11_hidden 41 = .ok (.invokevirtual 302, 3) := by decide +kernel
theorem dX11_hidden_44 : decode cX11_hidden 44 = .ok (.iload_n 1, 1) := by decide +kernel
theorem dX11_hidden_45 : decode cX11_hidden 45 = .ok (.if_icmp .eq 9, 3) := by decide +kernel
theorem dX11_hidden_48 : decode cX11_hidden 48 = .ok (.iconst 1, 1) := by decide +kernel
theorem dX11_hidden_49 : decode cX11_hidden 49 = .ok (.iload_n 3, 1) := by decide +kernel
theorem dX11_hidden_50 : decode cX11_hidden 50 = .ok (.ishl, 1) := by decide +kernel
theorem dX11_hidden_51 : decode cX11_hidden 51 = .ok (.goto 4, 3) := by decide +kernel
theorem dX11_hidden_54 : decode cX11_hidden 54 = .ok (.iconst 0, 1) := by decide +kernel
theorem dX11_hidden_55 : decode cX11_hidden 55 = .ok (.ior, 1) := by decide +kernel
theorem dX11_hidden_56 : decode cX11_hidden 56 = .ok (.istore_n 2, 1) := by decide +kernel
theorem dX11_hidden_57 : decode cX11_hidden 57 = .ok (.iinc 3 1, 3) := by decide +kernel
theorem dX11_hidden_60 : decode cX11_hidden 60 = .ok (.goto (-41), 3) := by decide +kernel
theorem dX11_hidden_63 : decode cX11_hidden 63 = .ok (.iload_n 2, 1) := by decide +kernel
theorem dX11_hidden_64 : decode cX11_hidden 64 = .ok (.ireturn, 1) := by decide +kernel
theorem dX11_toSock_0 : decode cX11_toSock 0 = .ok (.aload_n 0, 1) := by decide +kernel
theorem dX11_toSock_1 : decode cX11_toSock 1 = .ok (.iconst 0, 1) := by decide +kernel
theorem dX11_toSock_2 : decode cX11_toSock 2 = .ok (.putfield 84, 3) := by decide +kernel
theorem dX11_toSock_5 : decode cX11_toSock 5 = .ok (.aload_n 0, 1) := by decide +kernel
theorem dX11_toSock_6 : decode cX11_toSock 6 = .ok (.iload_n 1, 1) := by decide +kernel
theorem dX11_toSock_7 : decode cX11_toSock 7 = .ok (.invokevirtual 327, 3) := by decide +kernel
theorem dX11_toSock_10 : decode cX11_toSock 10 = .ok (.ifCond .ne 5, 3) := by decide +kernel
theorem dX11_toSock_13 : decode cX11_toSock 13 = .ok (.iconst 0, 1) := by decide +kernel
theorem dX11_toSock_14 : decode cX11_toSock 14 = .ok (.ireturn, 1) := by decide +kernel
theorem dX11_toSock_15 : decode cX11_toSock 15 = .ok (.bipush 9, 2) := by decide +kernel
theorem dX11_toSock_17 : decode cX11_toSock 17 = .ok (.istore_n 2, 1) := by decide +kernel
theorem dX11_toSock_18 : decode cX11_toSock 18 = .ok (.iload_n 2, 1) := by decide +kernel
theorem dX11_toSock_19 : decode cX11_toSock 19 = .ok (.iconst 1, 1) := by decide +kernel
theorem dX11_toSock_20 : decode cX11_toSock 20 = .ok (.if_icmp .lt 52, 3) := by decide +kernel
theorem dX11_toSock_23 : decode cX11_toSock 23 = .ok (.aload_n 0, 1) := by decide +kernel
theorem dX11_toSock_24 : decode cX11_toSock 24 = .ok (.iconst 0, 1) := by decide +kernel
theorem dX11_toSock_25 : decode cX11_toSock 25 = .ok (.iload_n 1, 1) := by decide +kernel
theorem dX11_toSock_26 : decode cX11_toSock 26 = .ok (.invokevirtual 311, 3) := by decide +kernel
theorem dX11_toSock_29 : decode cX11_toSock 29 = .ok (.iconst (-1), 1) := by decide +kernel
theorem dX11_toSock_30 : decode cX11_toSock 30 = .ok (.if_icmp .eq 42, 3) := by decide +kernel
theorem dX11_toSock_33 : decode cX11_toSock 33 = .ok (.aload_n 0, 1) := by decide +kernel
theorem dX11_toSock_34 : decode cX11_toSock 34 = .ok (.invokevirtual 347, 3) := by decide +kernel
theorem dX11_toSock_37 : decode cX11_toSock 37 = .ok (.aload_n 0, 1) := by decide +kernel
theorem dX11_toSock_38 : decode cX11_toSock 38 = .ok (.getfield 51, 3) := by decide +kernel
theorem dX11_toSock_41 : decode cX11_toSock 41 = .ok (.bipush 42, 2) := by decide +kernel
theorem dX11_toSock_43 : decode cX11_toSock 43 = .ok (.iload_n 1, 1) := by decide +kernel
theorem dX11_toSock_44 : decode cX11_toSock 44 = .ok (.iadd, 1) := by decide +kernel
theorem dX11_toSock_45 : decode cX11_toSock 45 = .ok (.iload_n 2, 1) := by decide +kernel
theorem dX11_toSock_46 : decode cX11_toSock 46 = .ok (.iastore, 1) := by decide +kernel
theorem dX11_toSock_47 : decode cX11_toSock 47 = .ok (.aload_n 0, 1) := by decide +kernel
theorem dX11_toSock_48 : decode cX11_toSock 48 = .ok (.bipush 33, 2) := by decide +kernel
theorem dX11_toSock_50 : decode cX11_toSock 50 = .ok (.invokevirtual 308, 3) := by decide +kernel
theorem dX11_toSock_53 : decode cX11_toSock 53 = .ok (.aload_n 0, 1) := by decide +kernel
theorem dX11_toSock_54 : decode cX11_toSock 54 = .ok (.getfield 296, 3) := by decide +kernel
theorem dX11_toSock_57 : decode cX11_toSock 57 = .ok (.iload_n 1, 1) := by decide +kernel
theorem dX11_toSock_58 : decode cX11_toSock 58 = .ok (.ishr, 1) := by decide +kernel
theorem dX11_toSock_59 : decode cX11_toSock 59 = .ok (.iconst 1, 1) := by decide +kernel
theorem dX11_toSock_60 : decode cX11_toSock 60 = .ok (.iand, 1) := by decide +kernel
theorem dX11_toSock_61 : decode cX11_toSock 61 = .ok (.ifCond .ne 5, 3) := by decide +kernel
theorem dX11_toSock_64 : decode cX11_toSock 64 = .ok (.iload_n 2, 1) := by decide +kernel
theorem dX11_toSock_65 : decode cX11_toSock 65 = .ok (.ireturn, 1) := by decide +kernel
theorem dX11_toSock_66 : decode cX11_toSock 66 = .ok (.iinc 2 (-1), 3) := by decide +kernel
theorem dX11_toSock_69 : decode cX11_toSock 69 = .ok (.goto (-51), 3) := by decide +kernel
