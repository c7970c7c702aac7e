theorem dX10_mates_14 : decode cX10_mates 14 = .ok (.iload_n 2, 1) := by decide +kernel
theorem dX10_mates_15 : decode cX10_mates 15 = .ok (.iconst (-1), 1) := by decide +kernel
theorem dX10_mates_16 : decode cX10_mates 16 = .ok (.if_icmp .ne 7, 3) := by decide +kernel
theorem dX10_mates_19 : decode cX10_mates 19 = .ok (.iconst 0, 1) := by decide +kernel
theorem dX10_mates_20 : decode cX10_mates 20 = .ok (.goto 20, 3) := by decide +kernel
theorem dX10_mates_23 : decode cX10_mates 23 = .ok (.aload_n 0, 1) := by decide +kernel
theorem dX10_mates_24 : decode cX10_mates 24 = .ok (.getfield 55, 3) := by decide +kernel
theorem dX10_mates_27 : decode cX10_mates 27 = .ok (.getfield 191, 3) := by decide +kernel
theorem dX10_mates_30 : decode cX10_mates 30 = .ok (.iload_n 2, 1) := by decide +kernel
theorem dX10_mates_31 : decode cX10_mates 31 = .ok (.invokevirtual 163, 3) := by decide +kernel
theorem dX10_mates_34 : decode cX10_mates 34 = .ok (.iconst 1, 1) := by decide +kernel
theorem dX10_mates_35 : decode cX10_mates 35 = .ok (.iload_n 1, 1) := by decide +kernel
theorem dX10_mates_36 : decode cX10_mates 36 = .ok (.ishl, 1) := by decide +kernel
theorem dX10_mates_37 : decode cX10_mates 37 = .ok (.iconst (-1), 1) := by decide +kernel
theorem dX10_mates_38 : decode cX10_mates 38 = .ok (.ixor, 1) := by decide +kernel
theorem dX10_mates_39 : decode cX10_mates 39 = .ok (.iand, 1) := by decide +kernel
theorem dX10_mates_40 : decode cX10_mates 40 = .ok (.ireturn, 1) := by decide +kernel
theorem dX10_step_0 : decode cX10_step 0 = .ok (.aload_n 0, 1) := by decide +kernel
theorem dX10_step_1 : decode cX10_step 1 = .ok (.getfield 31, 3) := by decide +kernel
theorem dX10_step_4 : decode cX10_step 4 = .ok (.invokevirtual 253, 3) := by decide +kernel
theorem dX10_step_7 : decode cX10_step 7 = .ok (.istore_n 1, 1) := by decide +kernel
theorem dX10_step_8 : decode cX10_step 8 = .ok (.aload_n 0, 1) := by decide +kernel
theorem dX10_step_9 : decode cX10_step 9 = .ok (.getfield 55, 3) := by decide +kernel
theorem dX10_step_12 : decode cX10_step 12 = .ok (.iload_n 1, 1) := by decide +kernel
theorem dX10_step_13 : decode cX10_step 13 = .ok (.invokevirtual 335, 3) := by decide +kernel
theorem dX10_step_16 : decode cX10_step 16 = .ok (.istore_n 2, 1) := by decide +kernel
theorem dX10_step_17 : decode cX10_step 17 = .ok (.iconst 0, 1) := by decide +kernel
theorem dX10_step_18 : decode cX10_step 18 = .ok (.istore_n 3, 1) := by decide +kernel
theorem dX10_step_19 : decode cX10_step 19 = .ok (.iload_n 3, 1) := by decide +kernel
theorem dX10_step_20 : decode cX10_step 20 = .ok (.aload_n 0, 1) := by decide +kernel
theorem dX10_step_21 : decode cX10_step 21 = .ok (.getfield 31, 3) := by decide +kernel
theorem dX10_step_24 : decode cX10_step 24 = .ok (.invokevirtual 253, 3) := by decide +kernel
theorem dX10_step_27 : decode cX10_step 27 = .ok (.if_icmp .ge 34, 3) := by decide +kernel
theorem dX10_step_30 : decode cX10_step 30 = .ok (.iload_n 3, 1) := by decide +kernel
theorem dX10_step_31 : decode cX10_step 31 = .ok (.invokestatic 262, 3) := by decide +kernel
theorem dX10_step_34 : decode cX10_step 34 = .ok (.iload_n 1, 1) := by decide +kernel
theorem dX10_step_35 : decode cX10_step 35 = .ok (.invokestatic 262, 3) := by decide +kernel
theorem dX10_step_38 : decode cX10_step 38 = .ok (.if_icmp .ge 17, 3) := by decide +kernel
theorem dX10_step_41 : decode cX10_step 41 = .ok (.aload_n 0, 1) := by decide +kernel
theorem dX10_step_42 : decode cX10_step 42 = .ok (.getfield 55, 3) := by decide +kernel
theorem dX10_step_45 : decode cX10_step 45 = .ok (.iload_n 3, 1) := by decide +kernel
theorem dX10_step_46 : decode cX10_step 46 = .ok (.invokevirtual 335, 3) := by decide +kernel
theorem dX10_step_49 : decode cX10_step 49 = .ok (.iload_n 2, 1) := by decide +kernel
theorem dX10_step_50 : decode cX10_step 50 = .ok (.if_icmp .ne 5, 3) := by decide +kernel
theorem dX10_step_53 : decode cX10_step 53 = .ok (.iload_n 3, 1) := by decide +kernel
theorem dX10_step_54 : decode cX10_step 54 = .ok (.istore_n 1, 1) := by decide +kernel
theorem dX10_step_55 : decode cX10_step 55 = .ok (.iinc 3 1, 3) := by decide +kernel
theorem dX10_step_58 : decode cX10_step 58 = .ok (.goto (-39), 3) := by decide +kernel
theorem dX10_step_61 : decode cX10_step 61 = .ok (.iload_n 1, 1) := by decide +kernel
theorem dX10_step_62 : decode cX10_step 62 = .ok (.ireturn, 1) := by decide +kernel
theorem dX10_chain_0 : decode cX10_chain 0 = .ok (.aload_n 0, 1) := by decide +kernel
theorem dX10_chain_1 : decode cX10_chain 1 = .ok (.iload_n 1, 1) := by decide +kernel
theorem dX10_chain_2 : decode cX10_chain 2 = .ok (.invokevirtual 171, 3) := by decide +kernel
theorem dX10_chain_5 : decode cX10_chain 5 = .ok (.aload_n 0, 1) := by decide +kernel
theorem dX10_chain_6 : decode cX10_chain 6 = .ok (.iload_n 2, 1) := by decide +kernel
theorem dX10_chain_7 : decode cX10_chain 7 = .ok (.invokevirtual 171, 3) := by decide +kernel
theorem dX10_chain_10 : decode cX10_chain 10 = .ok (.iload_n 3, 1) := by decide +kernel
theorem dX10_chain_11 : decode cX10_chain 11 = .ok (.iconst 1, 1) := by decide +kernel
theorem dX10_chain_12 : decode cX10_chain 12 = .ok (.bipush 12, 2) := by decide +kernel
theorem dX10_chain_14 : decode cX10_chain 14 = .ok (.invokestatic 237, 3) := by decide +kernel
theorem dX10_chain_17 : decode cX10_chain 17 = .ok (.iconst 1, 1) := by decide +kernel
theorem dX10_chain_18 : decode cX10_chain 18 = .ok (.iload_n 1, 1) := by decide +kernel
theorem dX10_chain_19 : decode cX10_chain 19 = .ok (.ishl, 1) := by decide +kernel
theorem dX10_chain_20 : decode cX10_chain 20 = .ok (.istore 4, 2) := by decide +kernel
theorem dX10_chain_22 : decode cX10_chain 22 = .ok (.iconst 0, 1) := by decide +kernel
theorem dX10_chain_23 : decode cX10_chain 23 = .ok (.istore 5, 2) := by decide +kernel
theorem dX10_chain_25 : decode cX10_chain 25 = .ok (.iload 5, 2) := by decide +kernel
theorem dX10_chain_27 : decode cX10_chain 27 = .ok (.bipush 8, 2) := by decide +kernel
theorem dX10_chain_29 : decode cX10_chain 29 = .ok (.if_icmp .ge 33, 3) := by decide +kernel
theorem dX10_chain_32 : decode cX10_chain 32 = .ok (.iload 4, 2) := by decide +kernel
theorem dX10_chain_34 : decode cX10_chain 34 = .ok (.iload_n 2, 1) := by decide +kernel
theorem dX10_chain_35 : decode cX10_chain 35 = .ok (.invokestatic 250, 3) := by decide +kernel
theorem dX10_chain_38 : decode cX10_chain 38 = .ok (.ifCond .eq 6, 3) := by decide +kernel
theorem dX10_chain_41 : decode cX10_chain 41 = .ok (.iload 5, 2) := by decide +kernel
theorem dX10_chain_43 : decode cX10_chain 43 = .ok (.ireturn, 1) := by decide +kernel
theorem dX10_chain_44 : decode cX10_chain 44 = .ok (.aload_n 0, 1) := by decide +kernel
theorem dX10_chain_45 : decode cX10_chain 45 = .ok (.getfield 55, 3) := by decide +kernel
theorem dX10_chain_48 : decode cX10_chain 48 = .ok (.iload 4, 2) := by decide +kernel
theorem dX10_chain_50 : decode cX10_chain 50 = .ok (.iload_n 3, 1) := by decide +kernel
theorem dX10_chain_51 : decode cX10_chain 51 = .ok (.invokevirtual 338, 3) := by decide +kernel
theorem dX10_chain_54 : decode cX10_chain 54 = .ok (.istore 4, 2) := by decide +kernel
theorem dX10_chain_56 : decode cX10_chain 56 = .ok (.iinc 5 1, 3) := by decide +kernel
theorem dX10_chain_59 : decode cX10_chain 59 = .ok (.goto (-34), 3) := by decide +kernel
theorem dX10_chain_62 : decode cX10_chain 62 = .ok (.iconst (-1), 1) := by decide +kernel
theorem dX10_chain_63 : decode cX10_chain 63 = .ok (.ireturn, 1) := by decide +kernel
theorem dX10_most_0 : decode cX10_most 0 = .ok (.iload_n 1, 1) := by decide +kernel
theorem dX10_most_1 : decode cX10_most 1 = .ok (.iconst 1, 1) := by decide +kernel
theorem dX10_most_2 : decode cX10_most 2 = .ok (.bipush 40, 2) := by decide +kernel
theorem dX10_most_4 : decode cX10_most 4 = .ok (.invokestatic 237, 3) := by decide +kernel
theorem dX10_most_7 : decode cX10_most 7 = .ok (.aload_n 0, 1) := by decide +kernel
theorem dX10_most_8 : decode cX10_most 8 = .ok (.getfield 59, 3) := by decide +kernel
theorem dX10_most_11 : decode cX10_most 11 = .ok (.aload_n 0, 1) := by decide +kernel
theorem dX10_most_12 : decode cX10_most 12 = .ok (.getfield 55, 3) := by decide +kernel
theorem dX10_most_15 : decode cX10_most 15 = .ok (.invokevirtual 116, 3) := by decide +kernel
theorem dX10_most_18 : decode cX10_most 18 = .ok (.iconst 0, 1) := by decide +kernel
theorem dX10_most_19 : decode cX10_most 19 = .ok (.istore_n 2, 1) := by decide +kernel
theorem dX10_most_20 : decode cX10_most 20 = .ok (.iload_n 2, 1) := by decide +kernel
theorem dX10_most_21 : decode cX10_most 21 = .ok (.iload_n 1, 1) := by decide +kernel
theorem dX10_most_22 : decode cX10_most 22 = .ok (.if_icmp .ge 26, 3) := by decide +kernel
theorem dX10_most_25 : decode cX10_most 25 = .ok (.aload_n 0, 1) := by decide +kernel
theorem dX10_most_26 : decode cX10_most 26 = .ok (.getfield 59, 3) := by decide +kernel
theorem dX10_most_29 : decode cX10_most 29 = .ok (.iload_n 2, 1) := by decide +kernel
theorem dX10_most_30 : decode cX10_most 30 = .ok (.aload_n 0, 1) := by decide +kernel
theorem dX10_most_31 : decode cX10_most 31 = .ok (.getfield 59, 3) := by decide +kernel
theorem dX10_most_34 : decode cX10_most 34 = .ok (.iload_n 2, 1) := by decide +kernel
theorem dX10_most_35 : decode cX10_most 35 = .ok (.invokevirtual 150, 3) := by decide +kernel
theorem dX10_most_38 : decode cX10_most 38 = .ok (.invokevirtual 326, 3) := by decide +kernel
theorem dX10_most_41 : decode cX10_most 41 = .ok (.pop, 1) := by decide +kernel
theorem dX10_most_42 : decode cX10_most 42 = .ok (.iinc 2 1, 3) := by decide +kernel
theorem dX10_most_45 : decode cX10_most 45 = .ok (.goto (-25), 3) := by decide +kernel
theorem dX10_most_48 : decode cX10_most 48 = .ok (.aload_n 0, 1) := by decide +kernel
theorem dX10_most_49 : decode cX10_most 49 = .ok (.getfield 59, 3) := by decide +kernel
theorem dX10_most_52 : decode cX10_most 52 = .ok (.invokevirtual 329, 3) := by decide +kernel
theorem dX10_most_55 : decode cX10_most 55 = .ok (.ireturn, 1) := by decide +kernel
theorem dX10_often_0 : decode cX10_often 0 = .ok (.iload_n 2, 1) := by decide +kernel
theorem dX10_often_1 : decode cX10_often 1 = .ok (.iconst 1, 1) := by decide +kernel
theorem dX10_often_2 : decode cX10_often 2 = .ok (.invokestatic 234, 3) := by decide +kernel
theorem dX10_often_5 : decode cX10_often 5 = .ok (.iload_n 1, 1) := by decide +kernel
theorem dX10_often_6 : decode cX10_often 6 = .ok (.iconst 1, 1) := by decide +kernel
theorem dX10_often_7 : decode cX10_often 7 = .ok (.bipush 40, 2) := by decide +kernel
theorem dX10_often_9 : decode cX10_often 9 = .ok (.invokestatic 237, 3) := by decide +kernel
theorem dX10_often_12 : decode cX10_often 12 = .ok (.iconst 0, 1) := by decide +kernel
theorem dX10_often_13 : decode cX10_often 13 = .ok (.istore_n 3, 1) := by decide +kernel
theorem dX10_often_14 : decode cX10_often 14 = .ok (.iconst 0, 1) := by decide +kernel
theorem dX10_often_15 : decode cX10_often 15 = .ok (.istore 4, 2) := by decide +kernel
theorem dX10_often_17 : decode cX10_often 17 = .ok (.iload 4, 2) := by decide +kernel
theorem dX10_often_19 : decode cX10_often 19 = .ok (.iload_n 1, 1) := by decide +kernel
theorem dX10_often_20 : decode cX10_often 20 = .ok (.if_icmp .ge 47, 3) := by decide +kernel
theorem dX10_often_23 : decode cX10_often 23 = .ok (.iload_n 3, 1) := by decide +kernel
theorem dX10_often_24 : decode cX10_often 24 = .ok (.iload_n 2, 1) := by decide +kernel
theorem dX10_often_25 : decode cX10_often 25 = .ok (.ifCond .ne 25, 3) := by decide +kernel
theorem dX10_often_28 : decode cX10_often 28 = .ok (.aload_n 0, 1) := by decide +kernel
theorem dX10_often_29 : decode cX10_often 29 = .ok (.getfield 55, 3) := by decide +kernel
theorem dX10_often_32 : decode cX10_often 32 = .ok (.iconst (-1), 1) := by decide +kernel
theorem dX10_often_33 : decode cX10_often 33 = .ok (.iload 4, 2) := by decide +kernel
theorem dX10_often_35 : decode cX10_often 35 = .ok (.aload_n 0, 1) := by decide +kernel
theorem dX10_often_36 : decode cX10_often 36 = .ok (.getfield 55, 3) := by decide +kernel
theorem dX10_often_39 : decode cX10_often 39 = .ok (.iload 4, 2) := by decide +kernel
theorem dX10_often_41 : decode cX10_often 41 = .ok (.invokevirtual 150, 3) := by decide +kernel
theorem dX10_often_44 : decode cX10_often 44 = .ok (.invokevirtual 244, 3) := by decide +kernel
theorem dX10_often_47 : decode cX10_often 47 = .ok (.goto 12, 3) := by decide +kernel
theorem dX10_often_50 : decode cX10_often 50 = .ok (.aload_n 0, 1) := by decide +kernel
theorem dX10_often_51 : decode cX10_often 51 = .ok (.getfield 55, 3) := by decide +kernel
theorem dX10_often_54 : decode cX10_often 54 = .ok (.iload 4, 2) := by decide +kernel
theorem dX10_often_56 : decode cX10_often 56 = .ok (.invokevirtual 341, 3) := by decide +kernel
theorem dX10_often_59 : decode cX10_often 59 = .ok (.iadd, 1) := by decide +kernel
theorem dX10_often_60 : decode cX10_often 60 = .ok (.istore_n 3, 1) := by decide +kernel
theorem dX10_often_61 : decode cX10_often 61 = .ok (.iinc 4 1, 3) := by decide +kernel
theorem dX10_often_64 : decode cX10_often 64 = .ok (.goto (-47), 3) := by decide +kernel
theorem dX10_often_67 : decode cX10_often 67 = .ok (.iload_n 3, 1) := by decide +kernel
theorem dX10_often_68 : decode cX10_often 68 = .ok (.ireturn, 1) := by decide +kernel
theorem dX10_spoilt_0 : decode cX10_spoilt 0 = .ok (.aload_n 0, 1) := by decide +kernel
theorem dX10_spoilt_1 : decode cX10_spoilt 1 = .ok (.iload_n 1, 1) := by decide +kernel
theorem dX10_spoilt_2 : decode cX10_spoilt 2 = .ok (.invokevirtual 171, 3) := by decide +kernel
theorem dX10_spoilt_5 : decode cX10_spoilt 5 = .ok (.aload_n 0, 1) := by decide +kernel
theorem dX10_spoilt_6 : decode cX10_spoilt 6 = .ok (.getfield 59, 3) := by decide +kernel
theorem dX10_spoilt_9 : decode cX10_spoilt 9 = .ok (.aload_n 0, 1) := by decide +kernel
theorem dX10_spoilt_10 : decode cX10_spoilt 10 = .ok (.getfield 55, 3) := by decide +kernel
theorem dX10_spoilt_13 : decode cX10_spoilt 13 = .ok (.invokevirtual 116, 3) := by decide +kernel
theorem dX10_spoilt_16 : decode cX10_spoilt 16 = .ok (.aload_n 0, 1) := by decide +kernel
theorem dX10_spoilt_17 : decode cX10_spoilt 17 = .ok (.getfield 59, 3) := by decide +kernel
theorem dX10_spoilt_20 : decode cX10_spoilt 20 = .ok (.iload_n 1, 1) := by decide +kernel
theorem dX10_spoilt_21 : decode cX10_spoilt 21 = .ok (.iconst (-1), 1) := by decide +kernel
theorem dX10_spoilt_22 : decode cX10_spoilt 22 = .ok (.invokevirtual 214, 3) := by decide +kernel
theorem dX10_spoilt_25 : decode cX10_spoilt 25 = .ok (.aload_n 0, 1) := by decide +kernel
theorem dX10_spoilt_26 : decode cX10_spoilt 26 = .ok (.getfield 59, 3) := by decide +kernel
theorem dX10_spoilt_29 : decode cX10_spoilt 29 = .ok (.iconst 0, 1) := by decide +kernel
theorem dX10_spoilt_30 : decode cX10_spoilt 30 = .ok (.invokevirtual 341, 3) := by decide +kernel
theorem dX10_spoilt_33 : decode cX10_spoilt 33 = .ok (.aload_n 0, 1) := by decide +kernel
theorem dX10_spoilt_34 : decode cX10_spoilt 34 = .ok (.getfield 55, 3) := by decide +kernel
theorem dX10_spoilt_37 : decode cX10_spoilt 37 = .ok (.iconst 0, 1) := by decide +kernel
theorem dX10_spoilt_38 : decode cX10_spoilt 38 = .ok (.invokevirtual 341, 3) := by decide +kernel
theorem dX10_spoilt_41 : decode cX10_spoilt 41 = .ok (.isub, 1) := by decide +kernel
theorem dX10_spoilt_42 : decode cX10_spoilt 42 = .ok (.ireturn, 1) := by decide +kernel
theorem dX10_reform_0 : decode cX10_reform 0 = .ok (.aload_n 0, 1) := by decide +kernel
theorem dX10_reform_1 : decode cX10_reform 1 = .ok (.iload_n 1, 1) := by decide +kernel
theorem dX10_reform_2 : decode cX10_reform 2 = .ok (.invokevirtual 171, 3) := by decide +kernel
theorem dX10_reform_5 : decode cX10_reform 5 = .ok (.iload_n 2, 1) := by decide +kernel
theorem dX10_reform_6 : decode cX10_reform 6 = .ok (.iconst 1, 1) := by decide +kernel
theorem dX10_reform_7 : decode cX10_reform 7 = .ok (.invokestatic 234, 3) := by decide +kernel
theorem dX10_reform_10 : decode cX10_reform 10 = .ok (.aload_n 0, 1) := by decide +kernel
theorem dX10_reform_11 : decode cX10_reform 11 = .ok (.getfield 55, 3) := by decide +kernel
theorem dX10_reform_14 : decode cX10_reform 14 = .ok (.iload_n 1, 1) := by decide +kernel
theorem dX10_reform_15 : decode cX10_reform 15 = .ok (.invokevirtual 183, 3) := by decide +kernel
theorem dX10_reform_18 : decode cX10_reform 18 = .ok (.istore_n 3, 1) := by decide +kernel
theorem dX10_reform_19 : decode cX10_reform 19 = .ok (.iload_n 3, 1) := by decide +kernel
theorem dX10_reform_20 : decode cX10_reform 20 = .ok (.iconst (-1), 1) := by decide +kernel
theorem dX10_reform_21 : decode cX10_reform 21 = .ok (.if_icmp .ne 5, 3) := by decide +kernel
theorem dX10_reform_24 : decode cX10_reform 24 = .ok (.iconst (-1), 1) := by decide +kernel
theorem dX10_reform_25 : decode cX10_reform 25 = .ok (.ireturn, 1) := by decide +kernel
theorem dX10_reform_26 : decode cX10_reform 26 = .ok (.aload_n 0, 1) := by decide +kernel
theorem dX10_reform_27 : decode cX10_reform 27 = .ok (.getfield 59, 3) := by decide +kernel
theorem dX10_reform_30 : decode cX10_reform 30 = .ok (.aload_n 0, 1) := by decide +kernel
theorem dX10_reform_31 : decode cX10_reform 31 = .ok (.getfield 55, 3) := by decide +kernel
theorem dX10_reform_34 : decode cX10_reform 34 = .ok (.invokevirtual 116, 3) := by decide +kernel
theorem dX10_reform_37 : decode cX10_reform 37 = .ok (.aload_n 0, 1) := by decide +kernel
theorem dX10_reform_38 : decode cX10_reform 38 = .ok (.iload_n 1, 1) := by decide +kernel
theorem dX10_reform_39 : decode cX10_reform 39 = .ok (.iload_n 3, 1) := by decide +kernel
theorem dX10_reform_40 : decode cX10_reform 40 = .ok (.invokevirtual 344, 3) := by decide +kernel
theorem dX10_reform_43 : decode cX10_reform 43 = .ok (.aload_n 0, 1) := by decide +kernel
theorem dX10_reform_44 : decode cX10_reform 44 = .ok (.getfield 55, 3) := by decide +kernel
theorem dX10_reform_47 : decode cX10_reform 47 = .ok (.getfield 174, 3) := by decide +kernel
theorem dX10_reform_50 : decode cX10_reform 50 = .ok (.iload_n 1, 1) := by decide +kernel
theorem dX10_reform_51 : decode cX10_reform 51 = .ok (.invokevirtual 163, 3) := by decide +kernel
theorem dX10_reform_54 : decode cX10_reform 54 = .ok (.istore 4, 2) := by decide +kernel
theorem dX10_reform_56 : decode cX10_reform 56 = .ok (.iconst (-1), 1) := by decide +kernel
theorem dX10_reform_57 : decode cX10_reform 57 = .ok (.istore 5, 2) := by decide +kernel
theorem dX10_reform_59 : decode cX10_reform 59 = .ok (.bipush 13, 2) := by decide +kernel
theorem dX10_reform_61 : decode cX10_reform 61 = .ok (.istore 6, 2) := by decide +kernel
theorem dX10_reform_63 : decode cX10_reform 63 = .ok (.iconst 0, 1) := by decide +kernel
theorem dX10_reform_64 : decode cX10_reform 64 = .ok (.istore 7, 2) := by decide +kernel
theorem dX10_reform_66 : decode cX10_reform 66 = .ok (.iload 7, 2) := by decide +kernel
theorem dX10_reform_68 : decode cX10_reform 68 = .ok (.aload_n 0, 1) := by decide +kernel
theorem dX10_reform_69 : decode cX10_reform 69 = .ok (.getfield 31, 3) := by decide +kernel
theorem dX10_reform_72 : decode cX10_reform 72 = .ok (.invokevirtual 273, 3) := by decide +kernel
theorem dX10_reform_75 : decode cX10_reform 75 = .ok (.if_icmp .gt 44, 3) := by decide +kernel
theorem dX10_reform_78 : decode cX10_reform 78 = .ok (.iload 7, 2) := by decide +kernel
theorem dX10_reform_80 : decode cX10_reform 80 = .ok (.iload 4, 2) := by decide +kernel
theorem dX10_reform_82 : decode cX10_reform 82 = .ok (.ixor, 1) := by decide +kernel
theorem dX10_reform_83 : decode cX10_reform 83 = .ok (.invokestatic 262, 3) := by decide +kernel
theorem dX10_reform_86 : decode cX10_reform 86 = .ok (.istore 8, 2) := by decide +kernel
theorem dX10_reform_88 : decode cX10_reform 88 = .ok (.iload 8, 2) := by decide +kernel
theorem dX10_reform_90 : decode cX10_reform 90 = .ok (.iload 6, 2) := by decide +kernel
theorem dX10_reform_92 : decode cX10_reform 92 = .ok (.if_icmp .ge 21, 3) := by decide +kernel
theorem dX10_reform_95 : decode cX10_reform 95 = .ok (.aload_n 0, 1) := by decide +kernel
theorem dX10_reform_96 : decode cX10_reform 96 = .ok (.iload_n 1, 1) := by decide +kernel
theorem dX10_reform_97 : decode cX10_reform 97 = .ok (.iload 7, 2) := by decide +kernel
theorem dX10_reform_99 : decode cX10_reform 99 = .ok (.invokevirtual 347, 3) := by decide +kernel
theorem dX10_reform_102 : decode cX10_reform 102 = .ok (.ifCond .eq 11, 3) := by decide +kernel
theorem dX10_reform_105 : decode cX10_reform 105 = .ok (.iload 8, 2) := by decide +kernel
theorem dX10_reform_107 : decode cX10_reform 107 = .ok (.istore 6, 2) := by decide +kernel
theorem dX10_reform_109 : decode cX10_reform 109 = .ok (.iload 7, 2) := by decide +kernel
theorem dX10_reform_111 : decode cX10_reform 111 = .ok (.istore 5, 2) := by decide +kernel
theorem dX10_reform_113 : decode cX10_reform 113 = .ok (.iinc 7 1, 3) := by decide +kernel
theorem dX10_reform_116 : decode cX10_reform 116 = .ok (.goto (-50), 3) := by decide +kernel
theorem dX10_reform_119 : decode cX10_reform 119 = .ok (.iload_n 2, 1) := by decide +kernel
theorem dX10_reform_120 : decode cX10_reform 120 = .ok (.ifCond .ne 14, 3) := by decide +kernel
theorem dX10_reform_123 : decode cX10_reform 123 = .ok (.iload 5, 2) := by decide +kernel
theorem dX10_reform_125 : decode cX10_reform 125 = .ok (.iconst (-1), 1) := by decide +kernel
theorem dX10_reform_126 : decode cX10_reform 126 = .ok (.if_icmp .eq 8, 3) := by decide +kernel
theorem dX10_reform_129 : decode cX10_reform 129 = .ok (.iload 6, 2) := by decide +kernel
theorem dX10_reform_131 : decode cX10_reform 131 = .ok (.goto 5, 3) := by decide +kernel
theorem dX10_reform_134 : decode cX10_reform 134 = .ok (.iload 5, 2) := by decide +kernel
theorem dX10_reform_136 : decode cX10_reform 136 = .ok (.ireturn, 1) := by decide +kernel
theorem dX10_swap_0 : decode cX10_swap 0 = .ok (.aload_n 0, 1) := by decide +kernel
theorem dX10_swap_1 : decode cX10_swap 1 = .ok (.getfield 55, 3) := by decide +kernel
theorem dX10_swap_4 : decode cX10_swap 4 = .ok (.iconst 0, 1) := by decide +kernel
theorem dX10_swap_5 : decode cX10_swap 5 = .ok (.invokevirtual 341, 3) := by decide +kernel
theorem dX10_swap_8 : decode cX10_swap 8 = .ok (.istore_n 1, 1) := by decide +kernel
theorem dX10_swap_9 : decode cX10_swap 9 = .ok (.iconst (-1), 1) := by decide +kernel
theorem dX10_swap_10 : decode cX10_swap 10 = .ok (.istore_n 2, 1) := by decide +kernel
theorem dX10_swap_11 : decode cX10_swap 11 = .ok (.aload_n 0, 1) := by decide +kernel
theorem dX10_swap_12 : decode cX10_swap 12 = .ok (.getfield 59, 3) := by decide +kernel
theorem dX10_swap_15 : decode cX10_swap 15 = .ok (.aload_n 0, 1) := by decide +kernel
theorem dX10_swap_16 : decode cX10_swap 16 = .ok (.getfield 55, 3) := by decide +kernel
theorem dX10_swap_19 : decode cX10_swap 19 = .ok (.invokevirtual 116, 3) := by decide +kernel
theorem dX10_swap_22 : decode cX10_swap 22 = .ok (.iconst 0, 1) := by decide +kernel
theorem dX10_swap_23 : decode cX10_swap 23 = .ok (.istore_n 3, 1) := by decide +kernel
theorem dX10_swap_24 : decode cX10_swap 24 = .ok (.iload_n 3, 1) := by decide +kernel
theorem dX10_swap_25 : decode cX10_swap 25 = .ok (.aload_n 0, 1) := by decide +kernel
theorem dX10_swap_26 : decode cX10_swap 26 = .ok (.getfield 31, 3) := by decide +kernel
theorem dX10_swap_29 : decode cX10_swap 29 = .ok (.getfield 141, 3) := by decide +kernel
theorem dX10_swap_32 : decode cX10_swap 32 = .ok (.if_icmp .ge 79, 3) := by decide +kernel
theorem dX10_swap_35 : decode cX10_swap 35 = .ok (.iload_n 3, 1) := by decide +kernel
theorem dX10_swap_36 : decode cX10_swap 36 = .ok (.iconst 1, 1) := by decide +kernel
theorem dX10_swap_37 : decode cX10_swap 37 = .ok (.iadd, 1) := by decide +kernel
theorem dX10_swap_38 : decode cX10_swap 38 = .ok (.istore 4, 2) := by decide +kernel
theorem dX10_swap_40 : decode cX10_swap 40 = .ok (.iload 4, 2) := by decide +kernel
theorem dX10_swap_42 : decode cX10_swap 42 = .ok (.aload_n 0, 1) := by decide +kernel
theorem dX10_swap_43 : decode cX10_swap 43 = .ok (.getfield 31, 3) := by decide +kernel
theorem dX10_swap_46 : decode cX10_swap 46 = .ok (.getfield 141, 3) := by decide +kernel
theorem dX10_swap_49 : decode cX10_swap 49 = .ok (.if_icmp .ge 56, 3) := by decide +kernel
theorem dX10_swap_52 : decode cX10_swap 52 = .ok (.aload_n 0, 1) := by decide +kernel
theorem dX10_swap_53 : decode cX10_swap 53 = .ok (.getfield 59, 3) := by decide +kernel
theorem dX10_swap_56 : decode cX10_swap 56 = .ok (.iload_n 3, 1) := by decide +kernel
theorem dX10_swap_57 : decode cX10_swap 57 = .ok (.iload 4, 2) := by decide +kernel
theorem dX10_swap_59 : decode cX10_swap 59 = .ok (.invokevirtual 227, 3) := by decide +kernel
theorem dX10_swap_62 : decode cX10_swap 62 = .ok (.aload_n 0, 1) := by decide +kernel
theorem dX10_swap_63 : decode cX10_swap 63 = .ok (.getfield 59, 3) := by decide +kernel
theorem dX10_swap_66 : decode cX10_swap 66 = .ok (.iconst 0, 1) := by decide +kernel
theorem dX10_swap_67 : decode cX10_swap 67 = .ok (.invokevirtual 341, 3) := by decide +kernel
theorem dX10_swap_70 : decode cX10_swap 70 = .ok (.istore 5, 2) := by decide +kernel
theorem dX10_swap_72 : decode cX10_swap 72 = .ok (.aload_n 0, 1) := by decide +kernel
theorem dX10_swap_73 : decode cX10_swap 73 = .ok (.getfield 59, 3) := by decide +kernel
theorem dX10_swap_76 : decode cX10_swap 76 = .ok (.iload_n 3, 1) := by decide +kernel
theorem dX10_swap_77 : decode cX10_swap 77 = .ok (.iload 4, 2) := by decide +kernel
theorem dX10_swap_79 : decode cX10_swap 79 = .ok (.invokevirtual 227, 3) := by decide +kernel
theorem dX10_swap_82 : decode cX10_swap 82 = .ok (.iload 5, 2) := by decide +kernel
theorem dX10_swap_84 : decode cX10_swap 84 = .ok (.iload_n 1, 1) := by decide +kernel
theorem dX10_swap_85 : decode cX10_swap 85 = .ok (.if_icmp .le 14, 3) := by decide +kernel
theorem dX10_swap_88 : decode cX10_swap 88 = .ok (.iload 5, 2) := by decide +kernel
theorem dX10_swap_90 : decode cX10_swap 90 = .ok (.istore_n 1, 1) := by decide +kernel
theorem dX10_swap_91 : decode cX10_swap 91 = .ok (.bipush 10, 2) := by decide +kernel
theorem dX10_swap_93 : decode cX10_swap 93 = .ok (.iload_n 3, 1) := by decide +kernel
theorem dX10_swap_94 : decode cX10_swap 94 = .ok (.imul, 1) := by decide +kernel
theorem dX10_swap_95 : decode cX10_swap 95 = .ok (.iload 4, 2) := by decide +kernel
theorem dX10_swap_97 : decode cX10_swap 97 = .ok (.iadd, 1) := by decide +kernel
theorem dX10_swap_98 : decode cX10_swap 98 = .ok (.istore_n 2, 1) := by decide +kernel
theorem dX10_swap_99 : decode cX10_swap 99 = .ok (.iinc 4 1, 3) := by decide +kernel
theorem dX10_swap_102 : decode cX10_swap 102 = .ok (.goto (-62), 3) := by decide +kernel
theorem dX10_swap_105 : decode cX10_swap 105 = .ok (.iinc 3 1, 3) := by decide +kernel
theorem dX10_swap_108 : decode cX10_swap 108 = .ok (.goto (-84), 3) := by decide +kernel
theorem dX10_swap_111 : decode cX10_swap 111 = .ok (.iload_n 2, 1) := by decide +kernel
theorem dX10_swap_112 : decode cX10_swap 112 = .ok (.ireturn, 1) := by decide +kernel
theorem dX10_loudest_0 : decode cX10_loudest 0 = .ok (.iconst (-1), 1) := by decide +kernel
theorem dX10_loudest_1 : decode cX10_loudest 1 = .ok (.istore_n 1, 1) := by decide +kernel
theorem dX10_loudest_2 : decode cX10_loudest 2 = .ok (.iconst (-1), 1) := by decide +kernel
theorem dX10_loudest_3 : decode cX10_loudest 3 = .ok (.istore_n 2, 1) := by decide +kernel
theorem dX10_loudest_4 : decode cX10_loudest 4 = .ok (.iconst 0, 1) := by decide +kernel
theorem dX10_loudest_5 : decode cX10_loudest 5 = .ok (.istore_n 3, 1) := by decide +kernel
theorem dX10_loudest_6 : decode cX10_loudest 6 = .ok (.iload_n 3, 1) := by decide +kernel
theorem dX10_loudest_7 : decode cX10_loudest 7 = .ok (.aload_n 0, 1) := by decide +kernel
theorem dX10_loudest_8 : decode cX10_loudest 8 = .ok (.getfield 31, 3) := by decide +kernel
theorem dX10_loudest_11 : decode cX10_loudest 11 = .ok (.getfield 141, 3) := by decide +kernel
theorem dX10_loudest_14 : decode cX10_loudest 14 = .ok (.if_icmp .ge 30, 3) := by decide +kernel
theorem dX10_loudest_17 : decode cX10_loudest 17 = .ok (.aload_n 0, 1) := by decide +kernel
theorem dX10_loudest_18 : decode cX10_loudest 18 = .ok (.getfield 55, 3) := by decide +kernel
theorem dX10_loudest_21 : decode cX10_loudest 21 = .ok (.iload_n 3, 1) := by decide +kernel
theorem dX10_loudest_22 : decode cX10_loudest 22 = .ok (.invokevirtual 350, 3) := by decide +kernel
theorem dX10_loudest_25 : decode cX10_loudest 25 = .ok (.istore 4, 2) := by decide +kernel
theorem dX10_loudest_27 : decode cX10_loudest 27 = .ok (.iload 4, 2) := by decide +kernel
theorem dX10_loudest_29 : decode cX10_loudest 29 = .ok (.iload_n 1, 1) := by decide +kernel
theorem dX10_loudest_30 : decode cX10_loudest 30 = .ok (.if_icmp .le 8, 3) := by decide +kernel
theorem dX10_loudest_33 : decode cX10_loudest 33 = .ok (.iload 4, 2) := by decide +kernel
theorem dX10_loudest_35 : decode cX10_loudest 35 = .ok (.istore_n 1, 1) := by decide +kernel
theorem dX10_loudest_36 : decode cX10_loudest 36 = .ok (.iload_n 3, 1) := by decide +kernel
theorem dX10_loudest_37 : decode cX10_loudest 37 = .ok (.istore_n 2, 1) := by decide +kernel
theorem dX10_loudest_38 : decode cX10_loudest 38 = .ok (.iinc 3 1, 3) := by decide +kernel
theorem dX10_loudest_41 : decode cX10_loudest 41 = .ok (.goto (-35), 3) := by decide +kernel
theorem dX10_loudest_44 : decode cX10_loudest 44 = .ok (.iload_n 2, 1) := by decide +kernel
theorem dX10_loudest_45 : decode cX10_loudest 45 = .ok (.ireturn, 1) := by decide +kernel
theorem dX10_run_0 : decode cX10_run 0 = .ok (.aload_n 0, 1) := by decide +kernel
theorem dX10_run_1 : decode cX10_run 1 = .ok (.iload_n 1, 1) := by decide +kernel
theorem dX10_run_2 : decode cX10_run 2 = .ok (.invokevirtual 171, 3) := by decide +kernel
theorem dX10_run_5 : decode cX10_run 5 = .ok (.iconst 0, 1) := by decide +kernel
theorem dX10_run_6 : decode cX10_run 6 = .ok (.istore_n 2, 1) := by decide +kernel
theorem dX10_run_7 : decode cX10_run 7 = .ok (.iconst 0, 1) := by decide +kernel
theorem dX10_run_8 : decode cX10_run 8 = .ok (.istore_n 3, 1) := by decide +kernel
theorem dX10_run_9 : decode cX10_run 9 = .ok (.iconst 0, 1) := by decide +kernel
theorem dX10_run_10 : decode cX10_run 10 = .ok (.istore 4, 2) := by decide +kernel
theorem dX10_run_12 : decode cX10_run 12 = .ok (.iload 4, 2) := by decide +kernel
theorem dX10_run_14 : decode cX10_run 14 = .ok (.aload_n 0, 1) := by decide +kernel
theorem dX10_run_15 : decode cX10_run 15 = .ok (.getfield 31, 3) := by decide +kernel
theorem dX10_run_18 : decode cX10_run 18 = .ok (.getfield 135, 3) := by decide +kernel
theorem dX10_run_21 : decode cX10_run 21 = .ok (.if_icmp .ge 42, 3) := by decide +kernel
theorem dX10_run_24 : decode cX10_run 24 = .ok (.aload_n 0, 1) := by decide +kernel
theorem dX10_run_25 : decode cX10_run 25 = .ok (.getfield 55, 3) := by decide +kernel
theorem dX10_run_28 : decode cX10_run 28 = .ok (.getfield 174, 3) := by decide +kernel
theorem dX10_run_31 : decode cX10_run 31 = .ok (.iload_n 1, 1) := by decide +kernel
theorem dX10_run_32 : decode cX10_run 32 = .ok (.invokevirtual 163, 3) := by decide +kernel
theorem dX10_run_35 : decode cX10_run 35 = .ok (.iload 4, 2) := by decide +kernel
theorem dX10_run_37 : decode cX10_run 37 = .ok (.invokestatic 250, 3) := by decide +kernel
theorem dX10_run_40 : decode cX10_run 40 = .ok (.ifCond .eq 9, 3) := by decide +kernel
theorem dX10_run_43 : decode cX10_run 43 = .ok (.iload_n 3, 1) := by decide +kernel
theorem dX10_run_44 : decode cX10_run 44 = .ok (.iconst 1, 1) := by decide +kernel
theorem dX10_run_45 : decode cX10_run 45 = .ok (.iadd, 1) := by decide +kernel
theorem dX10_run_46 : decode cX10_run 46 = .ok (.goto 4, 3) := by decide +kernel
theorem dX10_run_49 : decode cX10_run 49 = .ok (.iconst 0, 1) := by decide +kernel
theorem dX10_run_50 : decode cX10_run 50 = .ok (.istore_n 3, 1) := by decide +kernel
theorem dX10_run_51 : decode cX10_run 51 = .ok (.iload_n 2, 1) := by decide +kernel
theorem dX10_run_52 : decode cX10_run 52 = .ok (.iload_n 3, 1) := by decide +kernel
theorem dX10_run_53 : decode cX10_run 53 = .ok (.invokestatic 353, 3) := by decide +kernel
theorem dX10_run_56 : decode cX10_run 56 = .ok (.istore_n 2, 1) := by decide +kernel
theorem dX10_run_57 : decode cX10_run 57 = .ok (.iinc 4 1, 3) := by decide +kernel
theorem dX10_run_60 : decode cX10_run 60 = .ok (.goto (-48), 3) := by decide +kernel
theorem dX10_run_63 : decode cX10_run 63 = .ok (.iload_n 2, 1) := by decide +kernel
theorem dX10_run_64 : decode cX10_run 64 = .ok (.ireturn, 1) := by decide +kernel
theorem dX10_rarest_0 : decode cX10_rarest 0 = .ok (.iconst 0, 1) := by decide +kernel
theorem dX10_rarest_1 : decode cX10_rarest 1 = .ok (.istore_n 1, 1) := by decide +kernel
theorem dX10_rarest_2 : decode cX10_rarest 2 = .ok (.aload_n 0, 1) := by decide +kernel
theorem dX10_rarest_3 : decode cX10_rarest 3 = .ok (.getfield 55, 3) := by decide +kernel
theorem dX10_rarest_6 : decode cX10_rarest 6 = .ok (.iconst 0, 1) := by decide +kernel
theorem dX10_rarest_7 : decode cX10_rarest 7 = .ok (.invokevirtual 358, 3) := by decide +kernel
theorem dX10_rarest_10 : decode cX10_rarest 10 = .ok (.istore_n 2, 1) := by decide +kernel
theorem dX10_rarest_11 : decode cX10_rarest 11 = .ok (.iconst 1, 1) := by decide +kernel
theorem dX10_rarest_12 : decode cX10_rarest 12 = .ok (.istore_n 3, 1) := by decide +kernel
theorem dX10_rarest_13 : decode cX10_rarest 13 = .ok (.iload_n 3, 1) := by decide +kernel
theorem dX10_rarest_14 : decode cX10_rarest 14 = .ok (.aload_n 0, 1) := by decide +kernel
theorem dX10_rarest_15 : decode cX10_rarest 15 = .ok (.getfield 31, 3) := by decide +kernel
theorem dX10_rarest_18 : decode cX10_rarest 18 = .ok (.getfield 135, 3) := by decide +kernel
theorem dX10_rarest_21 : decode cX10_rarest 21 = .ok (.if_icmp .ge 30, 3) := by decide +kernel
theorem dX10_rarest_24 : decode cX10_rarest 24 = .ok (.aload_n 0, 1) := by decide +kernel
theorem dX10_rarest_25 : decode cX10_rarest 25 = .ok (.getfield 55, 3) := by decide +kernel
theorem dX10_rarest_28 : decode cX10_rarest 28 = .ok (.iload_n 3, 1) := by decide +kernel
theorem dX10_rarest_29 : decode cX10_rarest 29 = .ok (.invokevirtual 358, 3) := by decide +kernel
theorem dX10_rarest_32 : decode cX10_rarest 32 = .ok (.istore 4, 2) := by decide +kernel
theorem dX10_rarest_34 : decode cX10_rarest 34 = .ok (.iload 4, 2) := by decide +kernel
theorem dX10_rarest_36 : decode cX10_rarest 36 = .ok (.iload_n 2, 1) := by decide +kernel
theorem dX10_rarest_37 : decode cX10_rarest 37 = .ok (.if_icmp .ge 8, 3) := by decide +kernel
theorem dX10_rarest_40 : decode cX10_rarest 40 = .ok (.iload 4, 2) := by decide +kernel
theorem dX10_rarest_42 : decode cX10_rarest 42 = .ok (.istore_n 2, 1) := by decide +kernel
theorem dX10_rarest_43 : decode cX10_rarest 43 = .ok (.iload_n 3, 1) := by decide +kernel
theorem dX10_rarest_44 : decode cX10_rarest 44 = .ok (.istore_n 1, 1) := by decide +kernel
theorem dX10_rarest_45 : decode cX10_rarest 45 = .ok (.iinc 3 1, 3) := by decide +kernel
theorem dX10_rarest_48 : decode cX10_rarest 48 = .ok (.goto (-35), 3) := by decide +kernel
theorem dX10_rarest_51 : decode cX10_rarest 51 = .ok (.iload_n 1, 1) := by decide +kernel
theorem dX10_rarest_52 : decode cX10_rarest 52 = .ok (.ireturn, 1) := by decide +kernel
theorem dX10_image_0 : decode cX10_image 0 = .ok (.aload_n 0, 1) := by decide +kernel
theorem dX10_image_1 : decode cX10_image 1 = .ok (.getfield 44, 3) := by decide +kernel
theorem dX10_image_4 : decode cX10_image 4 = .ok (.aload_n 0, 1) := by decide +kernel
theorem dX10_image_5 : decode cX10_image 5 = .ok (.getfield 40, 3) := by decide +kernel
theorem dX10_image_8 : decode cX10_image 8 = .ok (.invokevirtual 361, 3) := by decide +kernel
theorem dX10_image_11 : decode cX10_image 11 = .ok (.aload_n 0, 1) := by decide +kernel
theorem dX10_image_12 : decode cX10_image 12 = .ok (.iconst 1, 1) := by decide +kernel
theorem dX10_image_13 : decode cX10_image 13 = .ok (.putfield 47, 3) := by decide +kernel
theorem dX10_image_16 : decode cX10_image 16 = .ok (.return_, 1) := by decide +kernel
theorem dX10_restore_0 : decode cX10_restore 0 = .ok (.aload_n 0, 1) := by decide +kernel
theorem dX10_restore_1 : decode cX10_restore 1 = .ok (.getfield 47, 3) := by decide +kernel
theorem dX10_restore_4 : decode cX10_restore 4 = .ok (.ifCond .eq 14, 3) := by decide +kernel
theorem dX10_restore_7 : decode cX10_restore 7 = .ok (.aload_n 0, 1) := by decide +kernel
theorem dX10_restore_8 : decode cX10_restore 8 = .ok (.getfield 40, 3) := by decide +kernel
theorem dX10_restore_11 : decode cX10_restore 11 = .ok (.aload_n 0, 1) := by decide +kernel
theorem dX10_restore_12 : decode cX10_restore 12 = .ok (.getfield 44, 3) := by decide +kernel
theorem dX10_restore_15 : decode cX10_restore 15 = .ok (.invokevirtual 361, 3) := by decide +kernel
theorem dX10_restore_18 : decode cX10_restore 18 = .ok (.aload_n 0, 1) := by decide +kernel
theorem dX10_restore_19 : decode cX10_restore 19 = .ok (.getfield 47, 3) := by decide +kernel
theorem dX10_restore_22 : decode cX10_restore 22 = .ok (.ireturn, 1) := by decide +kernel
theorem dX10_tapeNumber_0 : decode cX10_tapeNumber 0 = .ok (.bipush 24, 2) := by decide +kernel
theorem dX10_tapeNumber_2 : decode cX10_tapeNumber 2 = .ok (.istore_n 2, 1) := by decide +kernel
theorem dX10_tapeNumber_3 : decode cX10_tapeNumber 3 = .ok (.iload_n 2, 1) := by decide +kernel
theorem dX10_tapeNumber_4 : decode cX10_tapeNumber 4 = .ok (.ifCond .lt 37, 3) := by decide +kernel
theorem dX10_tapeNumber_7 : decode cX10_tapeNumber 7 = .ok (.aload_n 0, 1) := by decide +kernel
theorem dX10_tapeNumber_8 : decode cX10_tapeNumber 8 = .ok (.getfield 14, 3) := by decide +kernel
theorem dX10_tapeNumber_11 : decode cX10_tapeNumber 11 = .ok (.aload_n 0, 1) := by decide +kernel
theorem dX10_tapeNumber_12 : decode cX10_tapeNumber 12 = .ok (.getfield 18, 3) := by decide +kernel
theorem dX10_tapeNumber_15 : decode cX10_tapeNumber 15 = .ok (.iload_n 1, 1) := by decide +kernel
theorem dX10_tapeNumber_16 : decode cX10_tapeNumber 16 = .ok (.iload_n 2, 1) := by decide +kernel
theorem dX10_tapeNumber_17 : decode cX10_tapeNumber 17 = .ok (.ishr, 1) := by decide +kernel
theorem dX10_tapeNumber_18 : decode cX10_tapeNumber 18 = .ok (.sipush 255, 3) := by decide +kernel
theorem dX10_tapeNumber_21 : decode cX10_tapeNumber 21 = .ok (.iand, 1) := by decide +kernel
theorem dX10_tapeNumber_22 : decode cX10_tapeNumber 22 = .ok (.invokevirtual 224, 3) := by decide +kernel
theorem dX10_tapeNumber_25 : decode cX10_tapeNumber 25 = .ok (.aload_n 0, 1) := by decide +kernel
theorem dX10_tapeNumber_26 : decode cX10_tapeNumber 26 = .ok (.dup, 1) := by decide +kernel
theorem dX10_tapeNumber_27 : decode cX10_tapeNumber 27 = .ok (.getfield 18, 3) := by decide +kernel
theorem dX10_tapeNumber_30 : decode cX10_tapeNumber 30 = .ok (.iconst 1, 1) := by decide +kernel
theorem dX10_tapeNumber_31 : decode cX10_tapeNumber 31 = .ok (.iadd, 1) := by decide +kernel
theorem dX10_tapeNumber_32 : decode cX10_tapeNumber 32 = .ok (.putfield 18, 3) := by decide +kernel
theorem dX10_tapeNumber_35 : decode cX10_tapeNumber 35 = .ok (.iinc 2 (-8), 3) := by decide +kernel
theorem dX10_tapeNumber_38 : decode cX10_tapeNumber 38 = .ok (.goto (-35), 3) := by decide +kernel
theorem dX10_tapeNumber_41 : decode cX10_tapeNumber 41 = .ok (.return_, 1) := by decide +kernel
theorem dX10_refuse_0 : decode cX10_refuse 0 = .ok (.aload_n 0, 1) := by decide +kernel
theorem dX10_refuse_1 : decode cX10_refuse 1 = .ok (.getfield 25, 3) := by decide +kernel
theorem dX10_refuse_4 : decode cX10_refuse 4 = .ok (.iload_n 1, 1) := by decide +kernel
theorem dX10_refuse_5 : decode cX10_refuse 5 = .ok (.aload_n 0, 1) := by decide +kernel
theorem dX10_refuse_6 : decode cX10_refuse 6 = .ok (.getfield 25, 3) := by decide +kernel
theorem dX10_refuse_9 : decode cX10_refuse 9 = .ok (.iload_n 1, 1) := by decide +kernel
theorem dX10_refuse_10 : decode cX10_refuse 10 = .ok (.invokevirtual 163, 3) := by decide +kernel
theorem dX10_refuse_13 : decode cX10_refuse 13 = .ok (.iconst 1, 1) := by decide +kernel
theorem dX10_refuse_14 : decode cX10_refuse 14 = .ok (.iadd, 1) := by decide +kernel
theorem dX10_refuse_15 : decode cX10_refuse 15 = .ok (.invokevirtual 224, 3) := by decide +kernel
theorem dX10_refuse_18 : decode cX10_refuse 18 = .ok (.return_, 1) := by decide +kernel
theorem dX10_needMan_0 : decode cX10_needMan 0 = .ok (.iload_n 1, 1) := by decide +kernel
theorem dX10_needMan_1 : decode cX10_needMan 1 = .ok (.ifCond .lt 14, 3) := by decide +kernel
theorem dX10_needMan_4 : decode cX10_needMan 4 = .ok (.iload_n 1, 1) := by decide +kernel
theorem dX10_needMan_5 : decode cX10_needMan 5 = .ok (.aload_n 0, 1) := by decide +kernel
theorem dX10_needMan_6 : decode cX10_needMan 6 = .ok (.getfield 31, 3) := by decide +kernel
theorem dX10_needMan_9 : decode cX10_needMan 9 = .ok (.getfield 138, 3) := by decide +kernel
theorem dX10_needMan_12 : decode cX10_needMan 12 = .ok (.if_icmp .lt 14, 3) := by decide +kernel
theorem dX10_needMan_15 : decode cX10_needMan 15 = .ok (.new 166, 3) := by decide +kernel
theorem dX10_needMan_18 : decode cX10_needMan 18 = .ok (.dup, 1) := by decide +kernel
theorem dX10_needMan_19 : decode cX10_needMan 19 = .ok (.ldc_w 364, 3) := by decide +kernel
theorem dX10_needMan_22 : decode cX10_needMan 22 = .ok (.invokespecial 170, 3) := by decide +kernel
theorem dX10_needMan_25 : decode cX10_needMan 25 = .ok (.athrow, 1) := by decide +kernel
theorem dX10_needMan_26 : decode cX10_needMan 26 = .ok (.return_, 1) := by decide +kernel
theorem dX10_needRow_0 : decode cX10_needRow 0 = .ok (.iload_n 1, 1) := by decide +kernel
theorem dX10_needRow_1 : decode cX10_needRow 1 = .ok (.ifCond .lt 14, 3) := by decide +kernel
theorem dX10_needRow_4 : decode cX10_needRow 4 = .ok (.iload_n 1, 1) := by decide +kernel
theorem dX10_needRow_5 : decode cX10_needRow 5 = .ok (.aload_n 0, 1) := by decide +kernel
theorem dX10_needRow_6 : decode cX10_needRow 6 = .ok (.getfield 31, 3) := by decide +kernel
theorem dX10_needRow_9 : decode cX10_needRow 9 = .ok (.getfield 141, 3) := by decide +kernel
theorem dX10_needRow_12 : decode cX10_needRow 12 = .ok (.if_icmp .lt 14, 3) := by decide +kernel
theorem dX10_needRow_15 : decode cX10_needRow 15 = .ok (.new 166, 3) := by decide +kernel
theorem dX10_needRow_18 : decode cX10_needRow 18 = .ok (.dup, 1) := by decide +kernel
theorem dX10_needRow_19 : decode cX10_needRow 19 = .ok (.ldc_w 366, 3) := by decide +kernel
theorem dX10_needRow_22 : decode cX10_needRow 22 = .ok (.invokespecial 170, 3) := by decide +kernel
theorem dX10_needRow_25 : decode cX10_needRow 25 = .ok (.athrow, 1) := by decide +kernel
theorem dX10_needRow_26 : decode cX10_needRow 26 = .ok (.return_, 1) := by decide +kernel
theorem dX10_needBeat_0 : decode cX10_needBeat 0 = .ok (.iload_n 1, 1) := by decide +kernel
theorem dX10_needBeat_1 : decode cX10_needBeat 1 = .ok (.ifCond .lt 14, 3) := by decide +kernel
theorem dX10_needBeat_4 : decode cX10_needBeat 4 = .ok (.iload_n 1, 1) := by decide +kernel
theorem dX10_needBeat_5 : decode cX10_needBeat 5 = .ok (.aload_n 0, 1) := by decide +kernel
theorem dX10_needBeat_6 : decode cX10_needBeat 6 = .ok (.getfield 31, 3) := by decide +kernel
theorem dX10_needBeat_9 : decode cX10_needBeat 9 = .ok (.getfield 135, 3) := by decide +kernel
theorem dX10_needBeat_12 : decode cX10_needBeat 12 = .ok (.if_icmp .lt 14, 3) := by decide +kernel
theorem dX10_needBeat_15 : decode cX10_needBeat 15 = .ok (.new 166, 3) := by decide +kernel
theorem dX10_needBeat_18 : decode cX10_needBeat 18 = .ok (.dup, 1) := by decide +kernel
theorem dX10_needBeat_19 : decode cX10_needBeat 19 = .ok (.ldc_w 368, 3) := by decide +kernel
theorem dX10_needBeat_22 : decode cX10_needBeat 22 = .ok (.invokespecial 170, 3) := by decide +kernel
theorem dX10_needBeat_25 : decode cX10_needBeat 25 = .ok (.athrow, 1) := by decide +kernel
theorem dX10_needBeat_26 : decode cX10_needBeat 26 = .ok (.return_, 1) := by decide +kernel
theorem dX10_needWhat_0 : decode cX10_needWhat 0 = .ok (.iload_n 0, 1) := by decide +kernel
theorem dX10_needWhat_1 : decode cX10_needWhat 1 = .ok (.ifCond .lt 8, 3) := by decide +kernel
theorem dX10_needWhat_4 : decode cX10_needWhat 4 = .ok (.iload_n 0, 1) := by decide +kernel
theorem dX10_needWhat_5 : decode cX10_needWhat 5 = .ok (.iload_n 1, 1) := by decide +kernel
theorem dX10_needWhat_6 : decode cX10_needWhat 6 = .ok (.if_icmp .le 14, 3) := by decide +kernel
theorem dX10_needWhat_9 : decode cX10_needWhat 9 = .ok (.new 166, 3) := by decide +kernel
theorem dX10_needWhat_12 : decode cX10_needWhat 12 = .ok (.dup, 1) := by decide +kernel
theorem dX10_needWhat_13 : decode cX10_needWhat 13 = .ok (.ldc_w 370, 3) := by decide +kernel
theorem dX10_needWhat_16 : decode cX10_needWhat 16 = .ok (.invokespecial 170, 3) := by decide +kernel
theorem dX10_needWhat_19 : decode cX10_needWhat 19 = .ok (.athrow, 1) := by decide +kernel
theorem dX10_needWhat_20 : decode cX10_needWhat 20 = .ok (.return_, 1) := by decide +kernel
theorem dX10_needWithin_0 : decode cX10_needWithin 0 = .ok (.iload_n 0, 1) := by decide +kernel
theorem dX10_needWithin_1 : decode cX10_needWithin 1 = .ok (.iload_n 1, 1) := by decide +kernel
theorem dX10_needWithin_2 : decode cX10_needWithin 2 = .ok (.if_icmp .lt 8, 3) := by decide +kernel
theorem dX10_needWithin_5 : decode cX10_needWithin 5 = .ok (.iload_n 0, 1) := by decide +kernel
theorem dX10_needWithin_6 : decode cX10_needWithin 6 = .ok (.iload_n 2, 1) := by decide +kernel
theorem dX10_needWithin_7 : decode cX10_needWithin 7 = .ok (.if_icmp .le 14, 3) := by decide +kernel
theorem dX10_needWithin_10 : decode cX10_needWithin 10 = .ok (.new 94, 3) := by decide +kernel
theorem dX10_needWithin_13 : decode cX10_needWithin 13 = .ok (.dup, 1) := by decide +kernel
theorem dX10_needWithin_14 : decode cX10_needWithin 14 = .ok (.ldc_w 372, 3) := by decide +kernel
theorem dX10_needWithin_17 : decode cX10_needWithin 17 = .ok (.invokespecial 98, 3) := by decide +kernel
theorem dX10_needWithin_20 : decode cX10_needWithin 20 = .ok (.athrow, 1) := by decide +kernel
theorem dX10_needWithin_21 : decode cX10_needWithin 21 = .ok (.return_, 1) := by decide +kernel
theorem dX10_holds_0 : decode cX10_holds 0 = .ok (.iload_n 0, 1) := by decide +kernel
theorem dX10_holds_1 : decode cX10_holds 1 = .ok (.iload_n 1, 1) := by decide +kernel
theorem dX10_holds_2 : decode cX10_holds 2 = .ok (.ishr, 1) := by decide +kernel
theorem dX10_holds_3 : decode cX10_holds 3 = .ok (.iconst 1, 1) := by decide +kernel
theorem dX10_holds_4 : decode cX10_holds 4 = .ok (.iand, 1) := by decide +kernel
theorem dX10_holds_5 : decode cX10_holds 5 = .ok (.ifCond .eq 7, 3) := by decide +kernel
theorem dX10_holds_8 : decode cX10_holds 8 = .ok (.iconst 1, 1) := by decide +kernel
theorem dX10_holds_9 : decode cX10_holds 9 = .ok (.goto 4, 3) := by decide +kernel
theorem dX10_holds_12 : decode cX10_holds 12 = .ok (.iconst 0, 1) := by decide +kernel
theorem dX10_holds_13 : decode cX10_holds 13 = .ok (.ireturn, 1) := by decide +kernel
theorem dX10_namedWith_0 : decode cX10_namedWith 0 = .ok (.aload_n 0, 1) := by decide +kernel
theorem dX10_namedWith_1 : decode cX10_namedWith 1 = .ok (.getfield 59, 3) := by decide +kernel
theorem dX10_namedWith_4 : decode cX10_namedWith 4 = .ok (.aload_n 0, 1) := by decide +kernel
theorem dX10_namedWith_5 : decode cX10_namedWith 5 = .ok (.getfield 55, 3) := by decide +kernel
theorem dX10_namedWith_8 : decode cX10_namedWith 8 = .ok (.invokevirtual 116, 3) := by decide +kernel
theorem dX10_namedWith_11 : decode cX10_namedWith 11 = .ok (.aload_n 0, 1) := by decide +kernel
theorem dX10_namedWith_12 : decode cX10_namedWith 12 = .ok (.getfield 59, 3) := by decide +kernel
theorem dX10_namedWith_15 : decode cX10_namedWith 15 = .ok (.iload_n 1, 1) := by decide +kernel
theorem dX10_namedWith_16 : decode cX10_namedWith 16 = .ok (.iload_n 2, 1) := by decide +kernel
theorem dX10_namedWith_17 : decode cX10_namedWith 17 = .ok (.invokevirtual 214, 3) := by decide +kernel
theorem dX10_namedWith_20 : decode cX10_namedWith 20 = .ok (.aload_n 0, 1) := by decide +kernel
theorem dX10_namedWith_21 : decode cX10_namedWith 21 = .ok (.getfield 59, 3) := by decide +kernel
theorem dX10_namedWith_24 : decode cX10_namedWith 24 = .ok (.iload_n 2, 1) := by decide +kernel
theorem dX10_namedWith_25 : decode cX10_namedWith 25 = .ok (.iconst 0, 1) := by decide +kernel
theorem dX10_namedWith_26 : decode cX10_namedWith 26 = .ok (.aload_n 0, 1) := by decide +kernel
theorem dX10_namedWith_27 : decode cX10_namedWith 27 = .ok (.getfield 59, 3) := by decide +kernel
theorem dX10_namedWith_30 : decode cX10_namedWith 30 = .ok (.iconst 0, 1) := by decide +kernel
theorem dX10_namedWith_31 : decode cX10_namedWith 31 = .ok (.invokevirtual 150, 3) := by decide +kernel
theorem dX10_namedWith_34 : decode cX10_namedWith 34 = .ok (.invokevirtual 197, 3) := by decide +kernel
theorem dX10_namedWith_37 : decode cX10_namedWith 37 = .ok (.ireturn, 1) := by decide +kernel
theorem dX10_stamp_0 : decode cX10_stamp 0 = .ok (.iload_n 3, 1) := by decide +kernel
theorem dX10_stamp_1 : decode cX10_stamp 1 = .ok (.iconst 1, 1) := by decide +kernel
theorem dX10_stamp_2 : decode cX10_stamp 2 = .ok (.ishr, 1) := by decide +kernel
theorem dX10_stamp_3 : decode cX10_stamp 3 = .ok (.istore 4, 2) := by decide +kernel
theorem dX10_stamp_5 : decode cX10_stamp 5 = .ok (.iload_n 3, 1) := by decide +kernel
theorem dX10_stamp_6 : decode cX10_stamp 6 = .ok (.iconst 1, 1) := by decide +kernel
theorem dX10_stamp_7 : decode cX10_stamp 7 = .ok (.iand, 1) := by decide +kernel
theorem dX10_stamp_8 : decode cX10_stamp 8 = .ok (.istore 5, 2) := by decide +kernel
theorem dX10_stamp_10 : decode cX10_stamp 10 = .ok (.aload_n 0, 1) := by decide +kernel
theorem dX10_stamp_11 : decode cX10_stamp 11 = .ok (.getfield 59, 3) := by decide +kernel
theorem dX10_stamp_14 : decode cX10_stamp 14 = .ok (.aload_n 0, 1) := by decide +kernel
theorem dX10_stamp_15 : decode cX10_stamp 15 = .ok (.getfield 55, 3) := by decide +kernel
theorem dX10_stamp_18 : decode cX10_stamp 18 = .ok (.invokevirtual 116, 3) := by decide +kernel
theorem dX10_stamp_21 : decode cX10_stamp 21 = .ok (.iload 4, 2) := by decide +kernel
theorem dX10_stamp_23 : decode cX10_stamp 23 = .ok (.iconst 1, 1) := by decide +kernel
theorem dX10_stamp_24 : decode cX10_stamp 24 = .ok (.if_icmp .ne 16, 3) := by decide +kernel
theorem dX10_stamp_27 : decode cX10_stamp 27 = .ok (.aload_n 0, 1) := by decide +kernel
theorem dX10_stamp_28 : decode cX10_stamp 28 = .ok (.getfield 59, 3) := by decide +kernel
theorem dX10_stamp_31 : decode cX10_stamp 31 = .ok (.getfield 177, 3) := by decide +kernel
theorem dX10_stamp_34 : decode cX10_stamp 34 = .ok (.iload_n 1, 1) := by decide +kernel
theorem dX10_stamp_35 : decode cX10_stamp 35 = .ok (.bipush 9, 2) := by decide +kernel
theorem dX10_stamp_37 : decode cX10_stamp 37 = .ok (.invokevirtual 224, 3) := by decide +kernel
theorem dX10_stamp_40 : decode cX10_stamp 40 = .ok (.iload 5, 2) := by decide +kernel
theorem dX10_stamp_42 : decode cX10_stamp 42 = .ok (.iconst 1, 1) := by decide +kernel
theorem dX10_stamp_43 : decode cX10_stamp 43 = .ok (.if_icmp .ne 16, 3) := by decide +kernel
theorem dX10_stamp_46 : decode cX10_stamp 46 = .ok (.aload_n 0, 1) := by decide +kernel
theorem dX10_stamp_47 : decode cX10_stamp 47 = .ok (.getfield 59, 3) := by decide +kernel
theorem dX10_stamp_50 : decode cX10_stamp 50 = .ok (.getfield 177, 3) := by decide +kernel
theorem dX10_stamp_53 : decode cX10_stamp 53 = .ok (.iload_n 2, 1) := by decide +kernel
theorem dX10_stamp_54 : decode cX10_stamp 54 = .ok (.bipush 9, 2) := by decide +kernel
theorem dX10_stamp_56 : decode cX10_stamp 56 = .ok (.invokevirtual 224, 3) := by decide +kernel
theorem dX10_stamp_59 : decode cX10_stamp 59 = .ok (.aload_n 0, 1) := by decide +kernel
theorem dX10_stamp_60 : decode cX10_stamp 60 = .ok (.getfield 85, 3) := by decide +kernel
theorem dX10_stamp_63 : decode cX10_stamp 63 = .ok (.iconst 2, 1) := by decide +kernel
theorem dX10_stamp_64 : decode cX10_stamp 64 = .ok (.iload_n 3, 1) := by decide +kernel
theorem dX10_stamp_65 : decode cX10_stamp 65 = .ok (.imul, 1) := by decide +kernel
theorem dX10_stamp_66 : decode cX10_stamp 66 = .ok (.aload_n 0, 1) := by decide +kernel
theorem dX10_stamp_67 : decode cX10_stamp 67 = .ok (.iload_n 1, 1) := by decide +kernel
theorem dX10_stamp_68 : decode cX10_stamp 68 = .ok (.iload_n 2, 1) := by decide +kernel
theorem dX10_stamp_69 : decode cX10_stamp 69 = .ok (.invokevirtual 374, 3) := by decide +kernel
theorem dX10_stamp_72 : decode cX10_stamp 72 = .ok (.iload 4, 2) := by decide +kernel
theorem dX10_stamp_74 : decode cX10_stamp 74 = .ok (.isub, 1) := by decide +kernel
theorem dX10_stamp_75 : decode cX10_stamp 75 = .ok (.invokevirtual 224, 3) := by decide +kernel
theorem dX10_stamp_78 : decode cX10_stamp 78 = .ok (.aload_n 0, 1) := by decide +kernel
theorem dX10_stamp_79 : decode cX10_stamp 79 = .ok (.getfield 85, 3) := by decide +kernel
theorem dX10_stamp_82 : decode cX10_stamp 82 = .ok (.iconst 2, 1) := by decide +kernel
theorem dX10_stamp_83 : decode cX10_stamp 83 = .ok (.iload_n 3, 1) := by decide +kernel
theorem dX10_stamp_84 : decode cX10_stamp 84 = .ok (.imul, 1) := by decide +kernel
theorem dX10_stamp_85 : decode cX10_stamp 85 = .ok (.iconst 1, 1) := by decide +kernel
theorem dX10_stamp_86 : decode cX10_stamp 86 = .ok (.iadd, 1) := by decide +kernel
theorem dX10_stamp_87 : decode cX10_stamp 87 = .ok (.aload_n 0, 1) := by decide +kernel
theorem dX10_stamp_88 : decode cX10_stamp 88 = .ok (.iload_n 2, 1) := by decide +kernel
theorem dX10_stamp_89 : decode cX10_stamp 89 = .ok (.iload_n 1, 1) := by decide +kernel
theorem dX10_stamp_90 : decode cX10_stamp 90 = .ok (.invokevirtual 374, 3) := by decide +kernel
theorem dX10_stamp_93 : decode cX10_stamp 93 = .ok (.iload 5, 2) := by decide +kernel
theorem dX10_stamp_95 : decode cX10_stamp 95 = .ok (.isub, 1) := by decide +kernel
theorem dX10_stamp_96 : decode cX10_stamp 96 = .ok (.invokevirtual 224, 3) := by decide +kernel
theorem dX10_stamp_99 : decode cX10_stamp 99 = .ok (.return_, 1) := by decide +kernel
theorem dX10_gainOf_0 : decode cX10_gainOf 0 = .ok (.aload_n 0, 1) := by decide +kernel
theorem dX10_gainOf_1 : decode cX10_gainOf 1 = .ok (.getfield 59, 3) := by decide +kernel
theorem dX10_gainOf_4 : decode cX10_gainOf 4 = .ok (.getfield 180, 3) := by decide +kernel
theorem dX10_gainOf_7 : decode cX10_gainOf 7 = .ok (.iload_n 1, 1) := by decide +kernel
theorem dX10_gainOf_8 : decode cX10_gainOf 8 = .ok (.invokevirtual 163, 3) := by decide +kernel
theorem dX10_gainOf_11 : decode cX10_gainOf 11 = .ok (.istore_n 3, 1) := by decide +kernel
theorem dX10_gainOf_12 : decode cX10_gainOf 12 = .ok (.iload_n 3, 1) := by decide +kernel
theorem dX10_gainOf_13 : decode cX10_gainOf 13 = .ok (.istore 4, 2) := by decide +kernel
theorem dX10_gainOf_15 : decode cX10_gainOf 15 = .ok (.iconst 0, 1) := by decide +kernel
theorem dX10_gainOf_16 : decode cX10_gainOf 16 = .ok (.istore 5, 2) := by decide +kernel
theorem dX10_gainOf_18 : decode cX10_gainOf 18 = .ok (.iconst 0, 1) := by decide +kernel
theorem dX10_gainOf_19 : decode cX10_gainOf 19 = .ok (.istore 6, 2) := by decide +kernel
theorem dX10_gainOf_21 : decode cX10_gainOf 21 = .ok (.iload 6, 2) := by decide +kernel
theorem dX10_gainOf_23 : decode cX10_gainOf 23 = .ok (.bipush 6, 2) := by decide +kernel
theorem dX10_gainOf_25 : decode cX10_gainOf 25 = .ok (.if_icmp .ge 96, 3) := by decide +kernel
theorem dX10_gainOf_28 : decode cX10_gainOf 28 = .ok (.aload_n 0, 1) := by decide +kernel
theorem dX10_gainOf_29 : decode cX10_gainOf 29 = .ok (.getfield 59, 3) := by decide +kernel
theorem dX10_gainOf_32 : decode cX10_gainOf 32 = .ok (.iload 6, 2) := by decide +kernel
theorem dX10_gainOf_34 : decode cX10_gainOf 34 = .ok (.invokevirtual 150, 3) := by decide +kernel
theorem dX10_gainOf_37 : decode cX10_gainOf 37 = .ok (.istore 7, 2) := by decide +kernel
theorem dX10_gainOf_39 : decode cX10_gainOf 39 = .ok (.iconst 0, 1) := by decide +kernel
theorem dX10_gainOf_40 : decode cX10_gainOf 40 = .ok (.istore 8, 2) := by decide +kernel
theorem dX10_gainOf_42 : decode cX10_gainOf 42 = .ok (.iconst 0, 1) := by decide +kernel
theorem dX10_gainOf_43 : decode cX10_gainOf 43 = .ok (.istore 9, 2) := by decide +kernel
theorem dX10_gainOf_45 : decode cX10_gainOf 45 = .ok (.iload 9, 2) := by decide +kernel
theorem dX10_gainOf_47 : decode cX10_gainOf 47 = .ok (.aload_n 0, 1) := by decide +kernel
theorem dX10_gainOf_48 : decode cX10_gainOf 48 = .ok (.getfield 31, 3) := by decide +kernel
theorem dX10_gainOf_51 : decode cX10_gainOf 51 = .ok (.getfield 141, 3) := by decide +kernel
theorem dX10_gainOf_54 : decode cX10_gainOf 54 = .ok (.if_icmp .ge 54, 3) := by decide +kernel
theorem dX10_gainOf_57 : decode cX10_gainOf 57 = .ok (.aload_n 0, 1) := by decide +kernel
theorem dX10_gainOf_58 : decode cX10_gainOf 58 = .ok (.getfield 59, 3) := by decide +kernel
theorem dX10_gainOf_61 : decode cX10_gainOf 61 = .ok (.iload 9, 2) := by decide +kernel
theorem dX10_gainOf_63 : decode cX10_gainOf 63 = .ok (.iload 6, 2) := by decide +kernel
theorem dX10_gainOf_65 : decode cX10_gainOf 65 = .ok (.iload 7, 2) := by decide +kernel
theorem dX10_gainOf_67 : decode cX10_gainOf 67 = .ok (.invokevirtual 197, 3) := by decide +kernel
theorem dX10_gainOf_70 : decode cX10_gainOf 70 = .ok (.istore 10, 2) := by decide +kernel
theorem dX10_gainOf_72 : decode cX10_gainOf 72 = .ok (.iload 4, 2) := by decide +kernel
theorem dX10_gainOf_74 : decode cX10_gainOf 74 = .ok (.iload 10, 2) := by decide +kernel
theorem dX10_gainOf_76 : decode cX10_gainOf 76 = .ok (.iload_n 1, 1) := by decide +kernel
theorem dX10_gainOf_77 : decode cX10_gainOf 77 = .ok (.if_icmp .ne 7, 3) := by decide +kernel
theorem dX10_gainOf_80 : decode cX10_gainOf 80 = .ok (.iconst 1, 1) := by decide +kernel
theorem dX10_gainOf_81 : decode cX10_gainOf 81 = .ok (.goto 4, 3) := by decide +kernel
theorem dX10_gainOf_84 : decode cX10_gainOf 84 = .ok (.iconst 0, 1) := by decide +kernel
theorem dX10_gainOf_85 : decode cX10_gainOf 85 = .ok (.iadd, 1) := by decide +kernel
theorem dX10_gainOf_86 : decode cX10_gainOf 86 = .ok (.istore 4, 2) := by decide +kernel
theorem dX10_gainOf_88 : decode cX10_gainOf 88 = .ok (.iload 10, 2) := by decide +kernel
theorem dX10_gainOf_90 : decode cX10_gainOf 90 = .ok (.iload_n 2, 1) := by decide +kernel
theorem dX10_gainOf_91 : decode cX10_gainOf 91 = .ok (.if_icmp .ne 7, 3) := by decide +kernel
theorem dX10_gainOf_94 : decode cX10_gainOf 94 = .ok (.iconst 1, 1) := by decide +kernel
theorem dX10_gainOf_95 : decode cX10_gainOf 95 = .ok (.goto 5, 3) := by decide +kernel
theorem dX10_gainOf_98 : decode cX10_gainOf 98 = .ok (.iload 8, 2) := by decide +kernel
theorem dX10_gainOf_100 : decode cX10_gainOf 100 = .ok (.istore 8, 2) := by decide +kernel
theorem dX10_gainOf_102 : decode cX10_gainOf 102 = .ok (.iinc 9 1, 3) := by decide +kernel
theorem dX10_gainOf_105 : decode cX10_gainOf 105 = .ok (.goto (-60), 3) := by decide +kernel
theorem dX10_gainOf_108 : decode cX10_gainOf 108 = .ok (.iload 5, 2) := by decide +kernel
theorem dX10_gainOf_110 : decode cX10_gainOf 110 = .ok (.iload 8, 2) := by decide +kernel
theorem dX10_gainOf_112 : decode cX10_gainOf 112 = .ok (.iadd, 1) := by decide +kernel
theorem dX10_gainOf_113 : decode cX10_gainOf 113 = .ok (.istore 5, 2) := by decide +kernel
theorem dX10_gainOf_115 : decode cX10_gainOf 115 = .ok (.iinc 6 1, 3) := by decide +kernel
theorem dX10_gainOf_118 : decode cX10_gainOf 118 = .ok (.goto (-97), 3) := by decide +kernel
theorem dX10_gainOf_121 : decode cX10_gainOf 121 = .ok (.bipush 99, 2) := by decide +kernel
theorem dX10_gainOf_123 : decode cX10_gainOf 123 = .ok (.iload 4, 2) := by decide +kernel
theorem dX10_gainOf_125 : decode cX10_gainOf 125 = .ok (.invokestatic 377, 3) := by decide +kernel
theorem dX10_gainOf_128 : decode cX10_gainOf 128 = .ok (.iload_n 3, 1) := by decide +kernel
theorem dX10_gainOf_129 : decode cX10_gainOf 129 = .ok (.isub, 1) := by decide +kernel
theorem dX10_gainOf_130 : decode cX10_gainOf 130 = .ok (.iload 5, 2) := by decide +kernel
theorem dX10_gainOf_132 : decode cX10_gainOf 132 = .ok (.isub, 1) := by decide +kernel
theorem dX10_gainOf_133 : decode cX10_gainOf 133 = .ok (.ireturn, 1) := by decide +kernel
theorem dX10_doesRest_0 : decode cX10_doesRest 0 = .ok (.aload_n 0, 1) := by decide +kernel
theorem dX10_doesRest_1 : decode cX10_doesRest 1 = .ok (.getfield 85, 3) := by decide +kernel
theorem dX10_doesRest_4 : decode cX10_doesRest 4 = .ok (.iconst 2, 1) := by decide +kernel
theorem dX10_doesRest_5 : decode cX10_doesRest 5 = .ok (.iload_n 1, 1) := by decide +kernel
theorem dX10_doesRest_6 : decode cX10_doesRest 6 = .ok (.imul, 1) := by decide +kernel
theorem dX10_doesRest_7 : decode cX10_doesRest 7 = .ok (.invokevirtual 163, 3) := by decide +kernel
theorem dX10_doesRest_10 : decode cX10_doesRest 10 = .ok (.aload_n 0, 1) := by decide +kernel
theorem dX10_doesRest_11 : decode cX10_doesRest 11 = .ok (.getfield 85, 3) := by decide +kernel
theorem dX10_doesRest_14 : decode cX10_doesRest 14 = .ok (.iconst 2, 1) := by decide +kernel
theorem dX10_doesRest_15 : decode cX10_doesRest 15 = .ok (.iload_n 1, 1) := by decide +kernel
theorem dX10_doesRest_16 : decode cX10_doesRest 16 = .ok (.iconst 2, 1) := by decide +kernel
theorem dX10_doesRest_17 : decode cX10_doesRest 17 = .ok (.ixor, 1) := by decide +kernel
theorem dX10_doesRest_18 : decode cX10_doesRest 18 = .ok (.imul, 1) := by decide +kernel
theorem dX10_doesRest_19 : decode cX10_doesRest 19 = .ok (.invokevirtual 163, 3) := by decide +kernel
theorem dX10_doesRest_22 : decode cX10_doesRest 22 = .ok (.if_icmp .lt 36, 3) := by decide +kernel
theorem dX10_doesRest_25 : decode cX10_doesRest 25 = .ok (.aload_n 0, 1) := by decide +kernel
theorem dX10_doesRest_26 : decode cX10_doesRest 26 = .ok (.getfield 85, 3) := by decide +kernel
theorem dX10_doesRest_29 : decode cX10_doesRest 29 = .ok (.iconst 2, 1) := by decide +kernel
theorem dX10_doesRest_30 : decode cX10_doesRest 30 = .ok (.iload_n 1, 1) := by decide +kernel
theorem dX10_doesRest_31 : decode cX10_doesRest 31 = .ok (.imul, 1) := by decide +kernel
theorem dX10_doesRest_32 : decode cX10_doesRest 32 = .ok (.iconst 1, 1) := by decide +kernel
theorem dX10_doesRest_33 : decode cX10_doesRest 33 = .ok (.iadd, 1) := by decide +kernel
theorem dX10_doesRest_34 : decode cX10_doesRest 34 = .ok (.invokevirtual 163, 3) := by decide +kernel
theorem dX10_doesRest_37 : decode cX10_doesRest 37 = .ok (.aload_n 0, 1) := by decide +kernel
theorem dX10_doesRest_38 : decode cX10_doesRest 38 = .ok (.getfield 85, 3) := by decide +kernel
theorem dX10_doesRest_41 : decode cX10_doesRest 41 = .ok (.iconst 2, 1) := by decide +kernel
theorem dX10_doesRest_42 : decode cX10_doesRest 42 = .ok (.iload_n 1, 1) := by decide +kernel
theorem dX10_doesRest_43 : decode cX10_doesRest 43 = .ok (.iconst 1, 1) := by decide +kernel
theorem dX10_doesRest_44 : decode cX10_doesRest 44 = .ok (.ixor, 1) := by decide +kernel
theorem dX10_doesRest_45 : decode cX10_doesRest 45 = .ok (.imul, 1) := by decide +kernel
theorem dX10_doesRest_46 : decode cX10_doesRest 46 = .ok (.iconst 1, 1) := by decide +kernel
theorem dX10_doesRest_47 : decode cX10_doesRest 47 = .ok (.iadd, 1) := by decide +kernel
theorem dX10_doesRest_48 : decode cX10_doesRest 48 = .ok (.invokevirtual 163, 3) := by decide +kernel
theorem dX10_doesRest_51 : decode cX10_doesRest 51 = .ok (.if_icmp .lt 7, 3) := by decide +kernel
theorem dX10_doesRest_54 : decode cX10_doesRest 54 = .ok (.iconst 1, 1) := by decide +kernel
theorem dX10_doesRest_55 : decode cX10_doesRest 55 = .ok (.goto 4, 3) := by decide +kernel
theorem dX10_doesRest_58 : decode cX10_doesRest 58 = .ok (.iconst 0, 1) := by decide +kernel
theorem dX10_doesRest_59 : decode cX10_doesRest 59 = .ok (.ireturn, 1) := by decide +kernel
theorem dX10_drawOfMan_0 : decode cX10_drawOfMan 0 = .ok (.aload_n 0, 1) := by decide +kernel
theorem dX10_drawOfMan_1 : decode cX10_drawOfMan 1 = .ok (.getfield 31, 3) := by decide +kernel
theorem dX10_drawOfMan_4 : decode cX10_drawOfMan 4 = .ok (.getfield 138, 3) := by decide +kernel
theorem dX10_drawOfMan_7 : decode cX10_drawOfMan 7 = .ok (.ifCond .ne 5, 3) := by decide +kernel
theorem dX10_drawOfMan_10 : decode cX10_drawOfMan 10 = .ok (.iload_n 1, 1) := by decide +kernel
theorem dX10_drawOfMan_11 : decode cX10_drawOfMan 11 = .ok (.ireturn, 1) := by decide +kernel
theorem dX10_drawOfMan_12 : decode cX10_drawOfMan 12 = .ok (.iload_n 1, 1) := by decide +kernel
theorem dX10_drawOfMan_13 : decode cX10_drawOfMan 13 = .ok (.invokestatic 320, 3) := by decide +kernel
theorem dX10_drawOfMan_16 : decode cX10_drawOfMan 16 = .ok (.istore_n 2, 1) := by decide +kernel
theorem dX10_drawOfMan_17 : decode cX10_drawOfMan 17 = .ok (.iload_n 2, 1) := by decide +kernel
theorem dX10_drawOfMan_18 : decode cX10_drawOfMan 18 = .ok (.aload_n 0, 1) := by decide +kernel
theorem dX10_drawOfMan_19 : decode cX10_drawOfMan 19 = .ok (.getfield 31, 3) := by decide +kernel
theorem dX10_drawOfMan_22 : decode cX10_drawOfMan 22 = .ok (.getfield 138, 3) := by decide +kernel
theorem dX10_drawOfMan_25 : decode cX10_drawOfMan 25 = .ok (.invokestatic 323, 3) := by decide +kernel
theorem dX10_drawOfMan_28 : decode cX10_drawOfMan 28 = .ok (.istore_n 3, 1) := by decide +kernel
theorem dX10_drawOfMan_29 : decode cX10_drawOfMan 29 = .ok (.iload_n 2, 1) := by decide +kernel
theorem dX10_drawOfMan_30 : decode cX10_drawOfMan 30 = .ok (.invokestatic 320, 3) := by decide +kernel
theorem dX10_drawOfMan_33 : decode cX10_drawOfMan 33 = .ok (.istore_n 2, 1) := by decide +kernel
theorem dX10_drawOfMan_34 : decode cX10_drawOfMan 34 = .ok (.iload_n 2, 1) := by decide +kernel
theorem dX10_drawOfMan_35 : decode cX10_drawOfMan 35 = .ok (.iconst 3, 1) := by decide +kernel
theorem dX10_drawOfMan_36 : decode cX10_drawOfMan 36 = .ok (.invokestatic 323, 3) := by decide +kernel
theorem dX10_drawOfMan_39 : decode cX10_drawOfMan 39 = .ok (.istore 4, 2) := by decide +kernel
theorem dX10_drawOfMan_41 : decode cX10_drawOfMan 41 = .ok (.iload 4, 2) := by decide +kernel
theorem dX10_drawOfMan_43 : decode cX10_drawOfMan 43 = .ok (.ifCond .ne 30, 3) := by decide +kernel
theorem dX10_drawOfMan_46 : decode cX10_drawOfMan 46 = .ok (.iload_n 2, 1) := by decide +kernel
theorem dX10_drawOfMan_47 : decode cX10_drawOfMan 47 = .ok (.invokestatic 320, 3) := by decide +kernel
theorem dX10_drawOfMan_50 : decode cX10_drawOfMan 50 = .ok (.istore_n 2, 1) := by decide +kernel
theorem dX10_drawOfMan_51 : decode cX10_drawOfMan 51 = .ok (.aload_n 0, 1) := by decide +kernel
theorem dX10_drawOfMan_52 : decode cX10_drawOfMan 52 = .ok (.getfield 59, 3) := by decide +kernel
theorem dX10_drawOfMan_55 : decode cX10_drawOfMan 55 = .ok (.iload_n 3, 1) := by decide +kernel
theorem dX10_drawOfMan_56 : decode cX10_drawOfMan 56 = .ok (.iload_n 2, 1) := by decide +kernel
theorem dX10_drawOfMan_57 : decode cX10_drawOfMan 57 = .ok (.aload_n 0, 1) := by decide +kernel
theorem dX10_drawOfMan_58 : decode cX10_drawOfMan 58 = .ok (.getfield 31, 3) := by decide +kernel
theorem dX10_drawOfMan_61 : decode cX10_drawOfMan 61 = .ok (.getfield 135, 3) := by decide +kernel
theorem dX10_drawOfMan_64 : decode cX10_drawOfMan 64 = .ok (.invokestatic 323, 3) := by decide +kernel
theorem dX10_drawOfMan_67 : decode cX10_drawOfMan 67 = .ok (.invokevirtual 221, 3) := by decide +kernel
theorem dX10_drawOfMan_70 : decode cX10_drawOfMan 70 = .ok (.goto 33, 3) := by decide +kernel
theorem dX10_drawOfMan_73 : decode cX10_drawOfMan 73 = .ok (.iload 4, 2) := by decide +kernel
theorem dX10_drawOfMan_75 : decode cX10_drawOfMan 75 = .ok (.iconst 1, 1) := by decide +kernel
theorem dX10_drawOfMan_76 : decode cX10_drawOfMan 76 = .ok (.if_icmp .ne 27, 3) := by decide +kernel
theorem dX10_drawOfMan_79 : decode cX10_drawOfMan 79 = .ok (.iload_n 2, 1) := by decide +kernel
theorem dX10_drawOfMan_80 : decode cX10_drawOfMan 80 = .ok (.invokestatic 320, 3) := by decide +kernel
theorem dX10_drawOfMan_83 : decode cX10_drawOfMan 83 = .ok (.istore_n 2, 1) := by decide +kernel
theorem dX10_drawOfMan_84 : decode cX10_drawOfMan 84 = .ok (.aload_n 0, 1) := by decide +kernel
theorem dX10_drawOfMan_85 : decode cX10_drawOfMan 85 = .ok (.getfield 59, 3) := by decide +kernel
theorem dX10_drawOfMan_88 : decode cX10_drawOfMan 88 = .ok (.getfield 177, 3) := by decide +kernel
theorem dX10_drawOfMan_91 : decode cX10_drawOfMan 91 = .ok (.iload_n 3, 1) := by decide +kernel
theorem dX10_drawOfMan_92 : decode cX10_drawOfMan 92 = .ok (.iload_n 2, 1) := by decide +kernel
theorem dX10_drawOfMan_93 : decode cX10_drawOfMan 93 = .ok (.bipush 9, 2) := by decide +kernel
theorem dX10_drawOfMan_95 : decode cX10_drawOfMan 95 = .ok (.invokestatic 323, 3) := by decide +kernel
theorem dX10_drawOfMan_98 : decode cX10_drawOfMan 98 = .ok (.iconst 1, 1) := by decide +kernel
theorem dX10_drawOfMan_99 : decode cX10_drawOfMan 99 = .ok (.iadd, 1) := by decide +kernel
theorem dX10_drawOfMan_100 : decode cX10_drawOfMan 100 = .ok (.invokevirtual 224, 3) := by decide +kernel
theorem dX10_drawOfMan_103 : decode cX10_drawOfMan 103 = .ok (.iload_n 2, 1) := by decide +kernel
theorem dX10_drawOfMan_104 : decode cX10_drawOfMan 104 = .ok (.ireturn, 1) := by decide +kernel
theorem dX10_stirred_0 : decode cX10_stirred 0 = .ok (.iload_n 0, 1) := by decide +kernel
theorem dX10_stirred_1 : decode cX10_stirred 1 = .ok (.ldc_w 380, 3) := by decide +kernel
theorem dX10_stirred_4 : decode cX10_stirred 4 = .ok (.imul, 1) := by decide +kernel
theorem dX10_stirred_5 : decode cX10_stirred 5 = .ok (.sipush 12345, 3) := by decide +kernel
theorem dX10_stirred_8 : decode cX10_stirred 8 = .ok (.iadd, 1) := by decide +kernel
theorem dX10_stirred_9 : decode cX10_stirred 9 = .ok (.ireturn, 1) := by decide +kernel
theorem dX10_draw_0 : decode cX10_draw 0 = .ok (.iload_n 1, 1) := by decide +kernel
theorem dX10_draw_1 : decode cX10_draw 1 = .ok (.ifCond .gt 7, 3) := by decide +kernel
theorem dX10_draw_4 : decode cX10_draw 4 = .ok (.iconst 0, 1) := by decide +kernel
theorem dX10_draw_5 : decode cX10_draw 5 = .ok (.goto 13, 3) := by decide +kernel
theorem dX10_draw_8 : decode cX10_draw 8 = .ok (.iload_n 0, 1) := by decide +kernel
theorem dX10_draw_9 : decode cX10_draw 9 = .ok (.bipush 16, 2) := by decide +kernel
theorem dX10_draw_11 : decode cX10_draw 11 = .ok (.ishr, 1) := by decide +kernel
theorem dX10_draw_12 : decode cX10_draw 12 = .ok (.sipush 32767, 3) := by decide +kernel
theorem dX10_draw_15 : decode cX10_draw 15 = .ok (.iand, 1) := by decide +kernel
theorem dX10_draw_16 : decode cX10_draw 16 = .ok (.iload_n 1, 1) := by decide +kernel
theorem dX10_draw_17 : decode cX10_draw 17 = .ok (.irem, 1) := by decide +kernel
theorem dX10_draw_18 : decode cX10_draw 18 = .ok (.ireturn, 1) := by decide +kernel
theorem dX10_listenTo_0 : decode cX10_listenTo 0 = .ok (.aload_n 0, 1) := by decide +kernel
theorem dX10_listenTo_1 : decode cX10_listenTo 1 = .ok (.getfield 55, 3) := by decide +kernel
theorem dX10_listenTo_4 : decode cX10_listenTo 4 = .ok (.iload_n 2, 1) := by decide +kernel
theorem dX10_listenTo_5 : decode cX10_listenTo 5 = .ok (.iconst 0, 1) := by decide +kernel
theorem dX10_listenTo_6 : decode cX10_listenTo 6 = .ok (.invokevirtual 247, 3) := by decide +kernel
theorem dX10_listenTo_9 : decode cX10_listenTo 9 = .ok (.istore_n 3, 1) := by decide +kernel
theorem dX10_listenTo_10 : decode cX10_listenTo 10 = .ok (.aload_n 0, 1) := by decide +kernel
theorem dX10_listenTo_11 : decode cX10_listenTo 11 = .ok (.getfield 55, 3) := by decide +kernel
theorem dX10_listenTo_14 : decode cX10_listenTo 14 = .ok (.iload_n 2, 1) := by decide +kernel
theorem dX10_listenTo_15 : decode cX10_listenTo 15 = .ok (.iconst 0, 1) := by decide +kernel
theorem dX10_listenTo_16 : decode cX10_listenTo 16 = .ok (.invokevirtual 381, 3) := by decide +kernel
theorem dX10_listenTo_19 : decode cX10_listenTo 19 = .ok (.istore 4, 2) := by decide +kernel
theorem dX10_listenTo_21 : decode cX10_listenTo 21 = .ok (.aload_n 0, 1) := by decide +kernel
theorem dX10_listenTo_22 : decode cX10_listenTo 22 = .ok (.getfield 55, 3) := by decide +kernel
theorem dX10_listenTo_25 : decode cX10_listenTo 25 = .ok (.iconst 0, 1) := by decide +kernel
theorem dX10_listenTo_26 : decode cX10_listenTo 26 = .ok (.invokevirtual 150, 3) := by decide +kernel
theorem dX10_listenTo_29 : decode cX10_listenTo 29 = .ok (.istore 5, 2) := by decide +kernel
theorem dX10_listenTo_31 : decode cX10_listenTo 31 = .ok (.iconst 0, 1) := by decide +kernel
theorem dX10_listenTo_32 : decode cX10_listenTo 32 = .ok (.istore 6, 2) := by decide +kernel
theorem dX10_listenTo_34 : decode cX10_listenTo 34 = .ok (.iload 6, 2) := by decide +kernel
theorem dX10_listenTo_36 : decode cX10_listenTo 36 = .ok (.iconst 2, 1) := by decide +kernel
theorem dX10_listenTo_37 : decode cX10_listenTo 37 = .ok (.if_icmp .ge 111, 3) := by decide +kernel
theorem dX10_listenTo_40 : decode cX10_listenTo 40 = .ok (.aload_n 0, 1) := by decide +kernel
theorem dX10_listenTo_41 : decode cX10_listenTo 41 = .ok (.getfield 59, 3) := by decide +kernel
theorem dX10_listenTo_44 : decode cX10_listenTo 44 = .ok (.getfield 174, 3) := by decide +kernel
theorem dX10_listenTo_47 : decode cX10_listenTo 47 = .ok (.iload_n 1, 1) := by decide +kernel
theorem dX10_listenTo_48 : decode cX10_listenTo 48 = .ok (.iload 6, 2) := by decide +kernel
theorem dX10_listenTo_50 : decode cX10_listenTo 50 = .ok (.ifCond .ne 7, 3) := by decide +kernel
theorem dX10_listenTo_53 : decode cX10_listenTo 53 = .ok (.iconst 0, 1) := by decide +kernel
theorem dX10_listenTo_54 : decode cX10_listenTo 54 = .ok (.goto 10, 3) := by decide +kernel
theorem dX10_listenTo_57 : decode cX10_listenTo 57 = .ok (.aload_n 0, 1) := by decide +kernel
theorem dX10_listenTo_58 : decode cX10_listenTo 58 = .ok (.getfield 31, 3) := by decide +kernel
theorem dX10_listenTo_61 : decode cX10_listenTo 61 = .ok (.invokevirtual 273, 3) := by decide +kernel
theorem dX10_listenTo_64 : decode cX10_listenTo 64 = .ok (.invokevirtual 224, 3) := by decide +kernel
theorem dX10_listenTo_67 : decode cX10_listenTo 67 = .ok (.iconst 0, 1) := by decide +kernel
theorem dX10_listenTo_68 : decode cX10_listenTo 68 = .ok (.istore 7, 2) := by decide +kernel
theorem dX10_listenTo_70 : decode cX10_listenTo 70 = .ok (.iload 7, 2) := by decide +kernel
theorem dX10_listenTo_72 : decode cX10_listenTo 72 = .ok (.aload_n 0, 1) := by decide +kernel
theorem dX10_listenTo_73 : decode cX10_listenTo 73 = .ok (.getfield 31, 3) := by decide +kernel
theorem dX10_listenTo_76 : decode cX10_listenTo 76 = .ok (.getfield 135, 3) := by decide +kernel
theorem dX10_listenTo_79 : decode cX10_listenTo 79 = .ok (.if_icmp .ge 63, 3) := by decide +kernel
theorem dX10_listenTo_82 : decode cX10_listenTo 82 = .ok (.iconst 0, 1) := by decide +kernel
theorem dX10_listenTo_83 : decode cX10_listenTo 83 = .ok (.istore 8, 2) := by decide +kernel
theorem dX10_listenTo_85 : decode cX10_listenTo 85 = .ok (.iload 8, 2) := by decide +kernel
theorem dX10_listenTo_87 : decode cX10_listenTo 87 = .ok (.iconst 2, 1) := by decide +kernel
theorem dX10_listenTo_88 : decode cX10_listenTo 88 = .ok (.if_icmp .ge 48, 3) := by decide +kernel
theorem dX10_listenTo_91 : decode cX10_listenTo 91 = .ok (.aload_n 0, 1) := by decide +kernel
theorem dX10_listenTo_92 : decode cX10_listenTo 92 = .ok (.getfield 59, 3) := by decide +kernel
theorem dX10_listenTo_95 : decode cX10_listenTo 95 = .ok (.iload 7, 2) := by decide +kernel
theorem dX10_listenTo_97 : decode cX10_listenTo 97 = .ok (.iload_n 3, 1) := by decide +kernel
theorem dX10_listenTo_98 : decode cX10_listenTo 98 = .ok (.iload 4, 2) := by decide +kernel
theorem dX10_listenTo_100 : decode cX10_listenTo 100 = .ok (.iload 5, 2) := by decide +kernel
theorem dX10_listenTo_102 : decode cX10_listenTo 102 = .ok (.iload 8, 2) := by decide +kernel
theorem dX10_listenTo_104 : decode cX10_listenTo 104 = .ok (.invokevirtual 384, 3) := by decide +kernel
theorem dX10_listenTo_107 : decode cX10_listenTo 107 = .ok (.istore 9, 2) := by decide +kernel
theorem dX10_listenTo_109 : decode cX10_listenTo 109 = .ok (.aload_n 0, 1) := by decide +kernel
theorem dX10_listenTo_110 : decode cX10_listenTo 110 = .ok (.getfield 88, 3) := by decide +kernel
theorem dX10_listenTo_113 : decode cX10_listenTo 113 = .ok (.iconst 4, 1) := by decide +kernel
theorem dX10_listenTo_114 : decode cX10_listenTo 114 = .ok (.iload 7, 2) := by decide +kernel
theorem dX10_listenTo_116 : decode cX10_listenTo 116 = .ok (.imul, 1) := by decide +kernel
theorem dX10_listenTo_117 : decode cX10_listenTo 117 = .ok (.iconst 2, 1) := by decide +kernel
theorem dX10_listenTo_118 : decode cX10_listenTo 118 = .ok (.iload 6, 2) := by decide +kernel
theorem dX10_listenTo_120 : decode cX10_listenTo 120 = .ok (.imul, 1) := by decide +kernel
theorem dX10_listenTo_121 : decode cX10_listenTo 121 = .ok (.iadd, 1) := by decide +kernel
theorem dX10_listenTo_122 : decode cX10_listenTo 122 = .ok (.iload 8, 2) := by decide +kernel
theorem dX10_listenTo_124 : decode cX10_listenTo 124 = .ok (.iadd, 1) := by decide +kernel
theorem dX10_listenTo_125 : decode cX10_listenTo 125 = .ok (.iload 9, 2) := by decide +kernel
theorem dX10_listenTo_127 : decode cX10_listenTo 127 = .ok (.invokevirtual 224, 3) := by decide +kernel
theorem dX10_listenTo_130 : decode cX10_listenTo 130 = .ok (.iinc 8 1, 3) := by decide +kernel
theorem dX10_listenTo_133 : decode cX10_listenTo 133 = .ok (.goto (-48), 3) := by decide +kernel
theorem dX10_listenTo_136 : decode cX10_listenTo 136 = .ok (.iinc 7 1, 3) := by decide +kernel
theorem dX10_listenTo_139 : decode cX10_listenTo 139 = .ok (.goto (-69), 3) := by decide +kernel
theorem dX10_listenTo_142 : decode cX10_listenTo 142 = .ok (.iinc 6 1, 3) := by decide +kernel
theorem dX10_listenTo_145 : decode cX10_listenTo 145 = .ok (.goto (-111), 3) := by decide +kernel
theorem dX10_listenTo_148 : decode cX10_listenTo 148 = .ok (.return_, 1) := by decide +kernel
theorem dX10_isNamedWith_0 : decode cX10_isNamedWith 0 = .ok (.iconst 0, 1) := by decide +kernel
theorem dX10_isNamedWith_1 : decode cX10_isNamedWith 1 = .ok (.istore_n 3, 1) := by decide +kernel
theorem dX10_isNamedWith_2 : decode cX10_isNamedWith 2 = .ok (.iconst 0, 1) := by decide +kernel
theorem dX10_isNamedWith_3 : decode cX10_isNamedWith 3 = .ok (.istore 4, 2) := by decide +kernel
theorem dX10_isNamedWith_5 : decode cX10_isNamedWith 5 = .ok (.iconst 0, 1) := by decide +kernel
theorem dX10_isNamedWith_6 : decode cX10_isNamedWith 6 = .ok (.istore 5, 2) := by decide +kernel
theorem dX10_isNamedWith_8 : decode cX10_isNamedWith 8 = .ok (.iload 5, 2) := by decide +kernel
theorem dX10_isNamedWith_10 : decode cX10_isNamedWith 10 = .ok (.aload_n 0, 1) := by decide +kernel
theorem dX10_isNamedWith_11 : decode cX10_isNamedWith 11 = .ok (.getfield 31, 3) := by decide +kernel
theorem dX10_isNamedWith_14 : decode cX10_isNamedWith 14 = .ok (.getfield 135, 3) := by decide +kernel
theorem dX10_isNamedWith_17 : decode cX10_isNamedWith 17 = .ok (.if_icmp .ge 42, 3) := by decide +kernel
theorem dX10_isNamedWith_20 : decode cX10_isNamedWith 20 = .ok (.aload_n 0, 1) := by decide +kernel
theorem dX10_isNamedWith_21 : decode cX10_isNamedWith 21 = .ok (.getfield 88, 3) := by decide +kernel
theorem dX10_isNamedWith_24 : decode cX10_isNamedWith 24 = .ok (.iconst 4, 1) := by decide +kernel
theorem dX10_isNamedWith_25 : decode cX10_isNamedWith 25 = .ok (.iload 5, 2) := by decide +kernel
theorem dX10_isNamedWith_27 : decode cX10_isNamedWith 27 = .ok (.imul, 1) := by decide +kernel
theorem dX10_isNamedWith_28 : decode cX10_isNamedWith 28 = .ok (.iconst 2, 1) := by decide +kernel
theorem dX10_isNamedWith_29 : decode cX10_isNamedWith 29 = .ok (.iload_n 2, 1) := by decide +kernel
theorem dX10_isNamedWith_30 : decode cX10_isNamedWith 30 = .ok (.iload 5, 2) := by decide +kernel
theorem dX10_isNamedWith_32 : decode cX10_isNamedWith 32 = .ok (.ishr, 1) := by decide +kernel
theorem dX10_isNamedWith_33 : decode cX10_isNamedWith 33 = .ok (.iconst 1, 1) := by decide +kernel
theorem dX10_isNamedWith_34 : decode cX10_isNamedWith 34 = .ok (.iand, 1) := by decide +kernel
theorem dX10_isNamedWith_35 : decode cX10_isNamedWith 35 = .ok (.imul, 1) := by decide +kernel
theorem dX10_isNamedWith_36 : decode cX10_isNamedWith 36 = .ok (.iadd, 1) := by decide +kernel
theorem dX10_isNamedWith_37 : decode cX10_isNamedWith 37 = .ok (.iload 4, 2) := by decide +kernel
theorem dX10_isNamedWith_39 : decode cX10_isNamedWith 39 = .ok (.iadd, 1) := by decide +kernel
theorem dX10_isNamedWith_40 : decode cX10_isNamedWith 40 = .ok (.invokevirtual 163, 3) := by decide +kernel
theorem dX10_isNamedWith_43 : decode cX10_isNamedWith 43 = .ok (.istore 4, 2) := by decide +kernel
theorem dX10_isNamedWith_45 : decode cX10_isNamedWith 45 = .ok (.iload_n 3, 1) := by decide +kernel
theorem dX10_isNamedWith_46 : decode cX10_isNamedWith 46 = .ok (.iload 4, 2) := by decide +kernel
theorem dX10_isNamedWith_48 : decode cX10_isNamedWith 48 = .ok (.iload 5, 2) := by decide +kernel
theorem dX10_isNamedWith_50 : decode cX10_isNamedWith 50 = .ok (.ishl, 1) := by decide +kernel
theorem dX10_isNamedWith_51 : decode cX10_isNamedWith 51 = .ok (.ior, 1) := by decide +kernel
theorem dX10_isNamedWith_52 : decode cX10_isNamedWith 52 = .ok (.istore_n 3, 1) := by decide +kernel
theorem dX10_isNamedWith_53 : decode cX10_isNamedWith 53 = .ok (.iinc 5 1, 3) := by decide +kernel
theorem dX10_isNamedWith_56 : decode cX10_isNamedWith 56 = .ok (.goto (-48), 3) := by decide +kernel
theorem dX10_isNamedWith_59 : decode cX10_isNamedWith 59 = .ok (.aload_n 0, 1) := by decide +kernel
theorem dX10_isNamedWith_60 : decode cX10_isNamedWith 60 = .ok (.getfield 59, 3) := by decide +kernel
theorem dX10_isNamedWith_63 : decode cX10_isNamedWith 63 = .ok (.getfield 174, 3) := by decide +kernel
theorem dX10_isNamedWith_66 : decode cX10_isNamedWith 66 = .ok (.iload_n 1, 1) := by decide +kernel
theorem dX10_isNamedWith_67 : decode cX10_isNamedWith 67 = .ok (.iload_n 2, 1) := by decide +kernel
theorem dX10_isNamedWith_68 : decode cX10_isNamedWith 68 = .ok (.invokevirtual 224, 3) := by decide +kernel
theorem dX10_isNamedWith_71 : decode cX10_isNamedWith 71 = .ok (.aload_n 0, 1) := by decide +kernel
theorem dX10_isNamedWith_72 : decode cX10_isNamedWith 72 = .ok (.getfield 59, 3) := by decide +kernel
theorem dX10_isNamedWith_75 : decode cX10_isNamedWith 75 = .ok (.iload_n 3, 1) := by decide +kernel
theorem dX10_isNamedWith_76 : decode cX10_isNamedWith 76 = .ok (.invokevirtual 332, 3) := by decide +kernel
theorem dX10_isNamedWith_79 : decode cX10_isNamedWith 79 = .ok (.iload_n 1, 1) := by decide +kernel
theorem dX10_isNamedWith_80 : decode cX10_isNamedWith 80 = .ok (.if_icmp .ne 7, 3) := by decide +kernel
theorem dX10_isNamedWith_83 : decode cX10_isNamedWith 83 = .ok (.iconst 1, 1) := by decide +kernel
theorem dX10_isNamedWith_84 : decode cX10_isNamedWith 84 = .ok (.goto 4, 3) := by decide +kernel
theorem dX10_isNamedWith_87 : decode cX10_isNamedWith 87 = .ok (.iconst 0, 1) := by decide +kernel
theorem dX10_isNamedWith_88 : decode cX10_isNamedWith 88 = .ok (.ireturn, 1) := by decide +kernel
theorem dX11_init_0 : decode cX11_init 0 = .ok (.aload_n 0, 1) := by decide +kernel
theorem dX11_init_1 : decode cX11_init 1 = .ok (.invokespecial 1, 3) := by decide +kernel
theorem dX11_init_4 : decode cX11_init 4 = .ok (.aload_n 0, 1) := by decide +kernel
theorem dX11_init_5 : decode cX11_init 5 = .ok (.bipush 8, 2) := by decide +kernel
theorem dX11_init_7 : decode cX11_init 7 = .ok (.putfield 7, 3) := by decide +kernel
theorem dX11_init_10 : decode cX11_init 10 = .ok (.aload_n 0, 1) := by decide +kernel
theorem dX11_init_11 : decode cX11_init 11 = .ok (.iconst 2, 1) := by decide +kernel
theorem dX11_init_12 : decode cX11_init 12 = .ok (.putfield 13, 3) := by decide +kernel
theorem dX11_init_15 : decode cX11_init 15 = .ok (.aload_n 0, 1) := by decide +kernel
theorem dX11_init_16 : decode cX11_init 16 = .ok (.iconst (-1), 1) := by decide +kernel
theorem dX11_init_17 : decode cX11_init 17 = .ok (.putfield 16, 3) := by decide +kernel
theorem dX11_init_20 : decode cX11_init 20 = .ok (.aload_n 0, 1) := by decide +kernel
theorem dX11_init_21 : decode cX11_init 21 = .ok (.bipush 8, 2) := by decide +kernel
theorem dX11_init_23 : decode cX11_init 23 = .ok (.newarray .int, 2) := by decide +kernel
theorem dX11_init_25 : decode cX11_init 25 = .ok (.putfield 19, 3) := by decide +kernel
theorem dX11_init_28 : decode cX11_init 28 = .ok (.aload_n 0, 1) := by decide +kernel
theorem dX11_init_29 : decode cX11_init 29 = .ok (.sipush 1400, 3) := by decide +kernel
theorem dX11_init_32 : decode cX11_init 32 = .ok (.newarray .int, 2) := by decide +kernel
theorem dX11_init_34 : decode cX11_init 34 = .ok (.putfield 23, 3) := by decide +kernel
theorem dX11_init_37 : decode cX11_init 37 = .ok (.aload_n 0, 1) := by decide +kernel
theorem dX11_init_38 : decode cX11_init 38 = .ok (.sipush 700, 3) := by decide +kernel
theorem dX11_init_41 : decode cX11_init 41 = .ok (.newarray .int, 2) := by decide +kernel
theorem dX11_init_43 : decode cX11_init 43 = .ok (.putfield 26, 3) := by decide +kernel
theorem dX11_init_46 : decode cX11_init 46 = .ok (.aload_n 0, 1) := by decide +kernel
theorem dX11_init_47 : decode cX11_init 47 = .ok (.iconst (-1), 1) := by decide +kernel
theorem dX11_init_48 : decode cX11_init 48 = .ok (.putfield 29, 3) := by decide +kernel
theorem dX11_init_51 : decode cX11_init 51 = .ok (.aload_n 0, 1) := by decide +kernel
theorem dX11_init_52 : decode cX11_init 52 = .ok (.iconst 3, 1) := by decide +kernel
theorem dX11_init_53 : decode cX11_init 53 = .ok (.newarray .int, 2) := by decide +kernel
theorem dX11_init_55 : decode cX11_init 55 = .ok (.putfield 32, 3) := by decide +kernel
theorem dX11_init_58 : decode cX11_init 58 = .ok (.aload_n 0, 1) := by decide +kernel
theorem dX11_init_59 : decode cX11_init 59 = .ok (.bipush 8, 2) := by decide +kernel
theorem dX11_init_61 : decode cX11_init 61 = .ok (.newarray .int, 2) := by decide +kernel
theorem dX11_init_63 : decode cX11_init 63 = .ok (.putfield 35, 3) := by decide +kernel
theorem dX11_init_66 : decode cX11_init 66 = .ok (.aload_n 0, 1) := by decide +kernel
theorem dX11_init_67 : decode cX11_init 67 = .ok (.bipush 33, 2) := by decide +kernel
theorem dX11_init_69 : decode cX11_init 69 = .ok (.newarray .int, 2) := by decide +kernel
theorem dX11_init_71 : decode cX11_init 71 = .ok (.putfield 38, 3) := by decide +kernel
theorem dX11_init_74 : decode cX11_init 74 = .ok (.aload_n 0, 1) := by decide +kernel
theorem dX11_init_75 : decode cX11_init 75 = .ok (.sipush 1400, 3) := by decide +kernel
theorem dX11_init_78 : decode cX11_init 78 = .ok (.newarray .int, 2) := by decide +kernel
theorem dX11_init_80 : decode cX11_init 80 = .ok (.putfield 41, 3) := by decide +kernel
theorem dX11_init_83 : decode cX11_init 83 = .ok (.aload_n 0, 1) := by decide +kernel
theorem dX11_init_84 : decode cX11_init 84 = .ok (.sipush 950, 3) := by decide +kernel
theorem dX11_init_87 : decode cX11_init 87 = .ok (.newarray .int, 2) := by decide +kernel
theorem dX11_init_89 : decode cX11_init 89 = .ok (.putfield 44, 3) := by decide +kernel
theorem dX11_init_92 : decode cX11_init 92 = .ok (.aload_n 0, 1) := by decide +kernel
theorem dX11_init_93 : decode cX11_init 93 = .ok (.bipush 9, 2) := by decide +kernel
theorem dX11_init_95 : decode cX11_init 95 = .ok (.newarray .boolean, 2) := by decide +kernel
theorem dX11_init_97 : decode cX11_init 97 = .ok (.putfield 47, 3) := by decide +kernel
theorem dX11_init_100 : decode cX11_init 100 = .ok (.aload_n 0, 1) := by decide +kernel
theorem dX11_init_101 : decode cX11_init 101 = .ok (.bipush 66, 2) := by decide +kernel
theorem dX11_init_103 : decode cX11_init 103 = .ok (.newarray .int, 2) := by decide +kernel
theorem dX11_init_105 : decode cX11_init 105 = .ok (.putfield 51, 3) := by decide +kernel
theorem dX11_init_108 : decode cX11_init 108 = .ok (.aload_n 0, 1) := by decide +kernel
theorem dX11_init_109 : decode cX11_init 109 = .ok (.sipush 1320, 3) := by decide +kernel
theorem dX11_init_112 : decode cX11_init 112 = .ok (.newarray .int, 2) := by decide +kernel
theorem dX11_init_114 : decode cX11_init 114 = .ok (.putfield 54, 3) := by decide +kernel
theorem dX11_init_117 : decode cX11_init 117 = .ok (.aload_n 0, 1) := by decide +kernel
theorem dX11_init_118 : decode cX11_init 118 = .ok (.bipush 6, 2) := by decide +kernel
theorem dX11_init_120 : decode cX11_init 120 = .ok (.newarray .int, 2) := by decide +kernel
theorem dX11_init_122 : decode cX11_init 122 = .ok (.putfield 57, 3) := by decide +kernel
theorem dX11_init_125 : decode cX11_init 125 = .ok (.aload_n 0, 1) := by decide +kernel
theorem dX11_init_126 : decode cX11_init 126 = .ok (.sipush 950, 3) := by decide +kernel
theorem dX11_init_129 : decode cX11_init 129 = .ok (.newarray .int, 2) := by decide +kernel
theorem dX11_init_131 : decode cX11_init 131 = .ok (.putfield 60, 3) := by decide +kernel
theorem dX11_init_134 : decode cX11_init 134 = .ok (.aload_n 0, 1) := by decide +kernel
theorem dX11_init_135 : decode cX11_init 135 = .ok (.iconst (-1), 1) := by decide +kernel
theorem dX11_init_136 : decode cX11_init 136 = .ok (.putfield 63, 3) := by decide +kernel
theorem dX11_init_139 : decode cX11_init 139 = .ok (.aload_n 0, 1) := by decide +kernel
theorem dX11_init_140 : decode cX11_init 140 = .ok (.bipush 8, 2) := by decide +kernel
theorem dX11_init_142 : decode cX11_init 142 = .ok (.newarray .int, 2) := by decide +kernel
theorem dX11_init_144 : decode cX11_init 144 = .ok (.putfield 66, 3) := by decide +kernel
theorem dX11_init_147 : decode cX11_init 147 = .ok (.aload_n 0, 1) := by decide +kernel
theorem dX11_init_148 : decode cX11_init 148 = .ok (.bipush 32, 2) := by decide +kernel
theorem dX11_init_150 : decode cX11_init 150 = .ok (.newarray .int, 2) := by decide +kernel
theorem dX11_init_152 : decode cX11_init 152 = .ok (.putfield 69, 3) := by decide +kernel
theorem dX11_init_155 : decode cX11_init 155 = .ok (.aload_n 0, 1) := by decide +kernel
theorem dX11_init_156 : decode cX11_init 156 = .ok (.sipush 768, 3) := by decide +kernel
theorem dX11_init_159 : decode cX11_init 159 = .ok (.newarray .int, 2) := by decide +kernel
theorem dX11_init_161 : decode cX11_init 161 = .ok (.putfield 72, 3) := by decide +kernel
theorem dX11_init_164 : decode cX11_init 164 = .ok (.aload_n 0, 1) := by decide +kernel
theorem dX11_init_165 : decode cX11_init 165 = .ok (.bipush 33, 2) := by decide +kernel
theorem dX11_init_167 : decode cX11_init 167 = .ok (.newarray .int, 2) := by decide +kernel
theorem dX11_init_169 : decode cX11_init 169 = .ok (.putfield 75, 3) := by decide +kernel
theorem dX11_init_172 : decode cX11_init 172 = .ok (.aload_n 0, 1) := by decide +kernel
theorem dX11_init_173 : decode cX11_init 173 = .ok (.sipush 1320, 3) := by decide +kernel
theorem dX11_init_176 : decode cX11_init 176 = .ok (.newarray .int, 2) := by decide +kernel
theorem dX11_init_178 : decode cX11_init 178 = .ok (.putfield 78, 3) := by decide +kernel
theorem dX11_init_181 : decode cX11_init 181 = .ok (.aload_n 0, 1) := by decide +kernel
theorem dX11_init_182 : decode cX11_init 182 = .ok (.bipush 32, 2) := by decide +kernel
theorem dX11_init_184 : decode cX11_init 184 = .ok (.newarray .int, 2) := by decide +kernel
theorem dX11_init_186 : decode cX11_init 186 = .ok (.putfield 81, 3) := by decide +kernel
theorem dX11_init_189 : decode cX11_init 189 = .ok (.return_, 1) := by decide +kernel
theorem dX11_thrown_0 : decode cX11_thrown 0 = .ok (.aload_n 0, 1) := by decide +kernel
theorem dX11_thrown_1 : decode cX11_thrown 1 = .ok (.getfield 84, 3) := by decide +kernel
theorem dX11_thrown_4 : decode cX11_thrown 4 = .ok (.ireturn, 1) := by decide +kernel
theorem dX11_right_0 : decode cX11_right 0 = .ok (.aload_n 0, 1) := by decide +kernel
theorem dX11_right_1 : decode cX11_right 1 = .ok (.getfield 84, 3) := by decide +kernel
theorem dX11_right_4 : decode cX11_right 4 = .ok (.ifCond .ne 12, 3) := by decide +kernel
theorem dX11_right_7 : decode cX11_right 7 = .ok (.iload_n 1, 1) := by decide +kernel
theorem dX11_right_8 : decode cX11_right 8 = .ok (.ifCond .ne 8, 3) := by decide +kernel
theorem dX11_right_11 : decode cX11_right 11 = .ok (.aload_n 0, 1) := by decide +kernel
theorem dX11_right_12 : decode cX11_right 12 = .ok (.iload_n 2, 1) := by decide +kernel
theorem dX11_right_13 : decode cX11_right 13 = .ok (.putfield 84, 3) := by decide +kernel
theorem dX11_right_16 : decode cX11_right 16 = .ok (.aload_n 0, 1) := by decide +kernel
theorem dX11_right_17 : decode cX11_right 17 = .ok (.getfield 84, 3) := by decide +kernel
theorem dX11_right_20 : decode cX11_right 20 = .ok (.ifCond .ne 7, 3) := by decide +kernel
theorem dX11_right_23 : decode cX11_right 23 = .ok (.iconst 1, 1) := by decide +kernel
theorem dX11_right_24 : decode cX11_right 24 = .ok (.goto 4, 3) := by decide +kernel
theorem dX11_right_27 : decode cX11_right 27 = .ok (.iconst 0, 1) := by decide +kernel
theorem dX11_right_28 : decode cX11_right 28 = .ok (.ireturn, 1) := by decide +kernel
theorem dX11_within_0 : decode cX11_within 0 = .ok (.iload_n 0, 1) := by decide +kernel
theorem dX11_within_1 : decode cX11_within 1 = .ok (.iload_n 1, 1) := by decide +kernel
theorem dX11_within_2 : decode cX11_within 2 = .ok (.if_icmp .lt 12, 3) := by decide +kernel
theorem dX11_within_5 : decode cX11_within 5 = .ok (.iload_n 0, 1) := by decide +kernel
theorem dX11_within_6 : decode cX11_within 6 = .ok (.iload_n 2, 1) := by decide +kernel
theorem dX11_within_7 : decode cX11_within 7 = .ok (.if_icmp .gt 7, 3) := by decide +kernel
theorem dX11_within_10 : decode cX11_within 10 = .ok (.iconst 1, 1) := by decide +kernel
theorem dX11_within_11 : decode cX11_within 11 = .ok (.goto 4, 3) := by decide +kernel
theorem dX11_within_14 : decode cX11_within 14 = .ok (.iconst 0, 1) := by decide +kernel
theorem dX11_within_15 : decode cX11_within 15 = .ok (.ireturn, 1) := by decide +kernel
theorem dX11_lesser_0 : decode cX11_lesser 0 = .ok (.iload_n 0, 1) := by decide +kernel
theorem dX11_lesser_1 : decode cX11_lesser 1 = .ok (.iload_n 1, 1) := by decide +kernel
theorem dX11_lesser_2 : decode cX11_lesser 2 = .ok (.if_icmp .ge 7, 3) := by decide +kernel
theorem dX11_lesser_5 : decode cX11_lesser 5 = .ok (.iload_n 0, 1) := by decide +kernel
theorem dX11_lesser_6 : decode cX11_lesser 6 = .ok (.goto 4, 3) := by decide +kernel
theorem dX11_lesser_9 : decode cX11_lesser 9 = .ok (.iload_n 1, 1) := by decide +kernel
theorem dX11_lesser_10 : decode cX11_lesser 10 = .ok (.ireturn, 1) := by decide +kernel
theorem dX11_copies_0 : decode cX11_copies 0 = .ok (.iconst 0, 1) := by decide +kernel
theorem dX11_copies_1 : decode cX11_copies 1 = .ok (.istore_n 3, 1) := by decide +kernel
theorem dX11_copies_2 : decode cX11_copies 2 = .ok (.iload_n 3, 1) := by decide +kernel
theorem dX11_copies_3 : decode cX11_copies 3 = .ok (.aload_n 1, 1) := by decide +kernel
theorem dX11_copies_4 : decode cX11_copies 4 = .ok (.arraylength, 1) := by decide +kernel
theorem dX11_copies_5 : decode cX11_copies 5 = .ok (.if_icmp .ge 15, 3) := by decide +kernel
theorem dX11_copies_8 : decode cX11_copies 8 = .ok (.aload_n 2, 1) := by decide +kernel
theorem dX11_copies_9 : decode cX11_copies 9 = .ok (.iload_n 3, 1) := by decide +kernel
theorem dX11_copies_10 : decode cX11_copies 10 = .ok (.aload_n 1, 1) := by decide +kernel
theorem dX11_copies_11 : decode cX11_copies 11 = .ok (.iload_n 3, 1) := by decide +kernel
theorem dX11_copies_12 : decode cX11_copies 12 = .ok (.iaload, 1) := by decide +kernel
theorem dX11_copies_13 : decode cX11_copies 13 = .ok (.iastore, 1) := by decide +kernel
theorem dX11_copies_14 : decode cX11_copies 14 = .ok (.iinc 3 1, 3) := by decide +kernel
theorem dX11_copies_17 : decode cX11_copies 17 = .ok (.goto (-15), 3) := by decide +kernel
theorem dX11_copies_20 : decode cX11_copies 20 = .ok (.return_, 1) := by decide +kernel
theorem dX11_bits_0 : decode cX11_bits 0 = .ok (.iconst 0, 1) := by decide +kernel
theorem dX11_bits_1 : decode cX11_bits 1 = .ok (.istore_n 1, 1) := by decide +kernel
theorem dX11_bits_2 : decode cX11_bits 2 = .ok (.iconst 0, 1) := by decide +kernel
theorem dX11_bits_3 : decode cX11_bits 3 = .ok (.istore_n 2, 1) := by decide +kernel
theorem dX11_bits_4 : decode cX11_bits 4 = .ok (.iload_n 2, 1) := by decide +kernel
theorem dX11_bits_5 : decode cX11_bits 5 = .ok (.bipush 12, 2) := by decide +kernel
theorem dX11_bits_7 : decode cX11_bits 7 = .ok (.if_icmp .ge 17, 3) := by decide +kernel
theorem dX11_bits_10 : decode cX11_bits 10 = .ok (.iload_n 1, 1) := by decide +kernel
theorem dX11_bits_11 : decode cX11_bits 11 = .ok (.iload_n 0, 1) := by decide +kernel
theorem dX11_bits_12 : decode cX11_bits 12 = .ok (.iload_n 2, 1) := by decide +kernel
theorem dX11_bits_13 : decode cX11_bits 13 = .ok (.ishr, 1) := by decide +kernel
theorem dX11_bits_14 : decode cX11_bits 14 = .ok (.iconst 1, 1) := by decide +kernel
theorem dX11_bits_15 : decode cX11_bits 15 = .ok (.iand, 1) := by decide +kernel
theorem dX11_bits_16 : decode cX11_bits 16 = .ok (.iadd, 1) := by decide +kernel
theorem dX11_bits_17 : decode cX11_bits 17 = .ok (.istore_n 1, 1) := by decide +kernel
theorem dX11_bits_18 : decode cX11_bits 18 = .ok (.iinc 2 1, 3) := by decide +kernel
theorem dX11_bits_21 : decode cX11_bits 21 = .ok (.goto (-17), 3) := by decide +kernel
theorem dX11_bits_24 : decode cX11_bits 24 = .ok (.iload_n 1, 1) := by decide +kernel
theorem dX11_bits_25 : decode cX11_bits 25 = .ok (.ireturn, 1) := by decide +kernel
theorem dX11_feed_0 : decode cX11_feed 0 = .ok (.aload_n 0, 1) := by decide +kernel
theorem dX11_feed_1 : decode cX11_feed 1 = .ok (.iconst 0, 1) := by decide +kernel
theorem dX11_feed_2 : decode cX11_feed 2 = .ok (.putfield 84, 3) := by decide +kernel
theorem dX11_feed_5 : decode cX11_feed 5 = .ok (.aload_n 0, 1) := by decide +kernel
theorem dX11_feed_6 : decode cX11_feed 6 = .ok (.getfield 87, 3) := by decide +kernel
theorem dX11_feed_9 : decode cX11_feed 9 = .ok (.bipush 20, 2) := by decide +kernel
theorem dX11_feed_11 : decode cX11_feed 11 = .ok (.iadd, 1) := by decide +kernel
theorem dX11_feed_12 : decode cX11_feed 12 = .ok (.sipush 700, 3) := by decide +kernel
theorem dX11_feed_15 : decode cX11_feed 15 = .ok (.if_icmp .le 5, 3) := by decide +kernel
theorem dX11_feed_18 : decode cX11_feed 18 = .ok (.iconst (-1), 1) := by decide +kernel
theorem dX11_feed_19 : decode cX11_feed 19 = .ok (.ireturn, 1) := by decide +kernel
theorem dX11_feed_20 : decode cX11_feed 20 = .ok (.aload_n 0, 1) := by decide +kernel
theorem dX11_feed_21 : decode cX11_feed 21 = .ok (.iload_n 1, 1) := by decide +kernel
theorem dX11_feed_22 : decode cX11_feed 22 = .ok (.invokevirtual 90, 3) := by decide +kernel
theorem dX11_feed_25 : decode cX11_feed 25 = .ok (.aload_n 0, 1) := by decide +kernel
theorem dX11_feed_26 : decode cX11_feed 26 = .ok (.iload_n 2, 1) := by decide +kernel
theorem dX11_feed_27 : decode cX11_feed 27 = .ok (.invokevirtual 90, 3) := by decide +kernel
theorem dX11_feed_30 : decode cX11_feed 30 = .ok (.aload_n 0, 1) := by decide +kernel
theorem dX11_feed_31 : decode cX11_feed 31 = .ok (.iload_n 3, 1) := by decide +kernel
theorem dX11_feed_32 : decode cX11_feed 32 = .ok (.invokevirtual 90, 3) := by decide +kernel
theorem dX11_feed_35 : decode cX11_feed 35 = .ok (.aload_n 0, 1) := by decide +kernel
theorem dX11_feed_36 : decode cX11_feed 36 = .ok (.iload 4, 2) := by decide +kernel
theorem dX11_feed_38 : decode cX11_feed 38 = .ok (.invokevirtual 90, 3) := by decide +kernel
theorem dX11_feed_41 : decode cX11_feed 41 = .ok (.aload_n 0, 1) := by decide +kernel
theorem dX11_feed_42 : decode cX11_feed 42 = .ok (.iload 5, 2) := by decide +kernel
theorem dX11_feed_44 : decode cX11_feed 44 = .ok (.invokevirtual 90, 3) := by decide +kernel
theorem dX11_feed_47 : decode cX11_feed 47 = .ok (.aload_n 0, 1) := by decide +kernel
theorem dX11_feed_48 : decode cX11_feed 48 = .ok (.getfield 87, 3) := by decide +kernel
theorem dX11_feed_51 : decode cX11_feed 51 = .ok (.ireturn, 1) := by decide +kernel
theorem dX11_lays_0 : decode cX11_lays 0 = .ok (.bipush 24, 2) := by decide +kernel
theorem dX11_lays_2 : decode cX11_lays 2 = .ok (.istore_n 2, 1) := by decide +kernel
theorem dX11_lays_3 : decode cX11_lays 3 = .ok (.iload_n 2, 1) := by decide +kernel
theorem dX11_lays_4 : decode cX11_lays 4 = .ok (.ifCond .lt 35, 3) := by decide +kernel
theorem dX11_lays_7 : decode cX11_lays 7 = .ok (.aload_n 0, 1) := by decide +kernel
theorem dX11_lays_8 : decode cX11_lays 8 = .ok (.getfield 26, 3) := by decide +kernel
theorem dX11_lays_11 : decode cX11_lays 11 = .ok (.aload_n 0, 1) := by decide +kernel
theorem dX11_lays_12 : decode cX11_lays 12 = .ok (.getfield 87, 3) := by decide +kernel
theorem dX11_lays_15 : decode cX11_lays 15 = .ok (.iload_n 1, 1) := by decide +kernel
theorem dX11_lays_16 : decode cX11_lays 16 = .ok (.iload_n 2, 1) := by decide +kernel
theorem dX11_lays_17 : decode cX11_lays 17 = .ok (.ishr, 1) := by decide +kernel
theorem dX11_lays_18 : decode cX11_lays 18 = .ok (.sipush 255, 3) := by decide +kernel
theorem dX11_lays_21 : decode cX11_lays 21 = .ok (.iand, 1) := by decide +kernel
theorem dX11_lays_22 : decode cX11_lays 22 = .ok (.iastore, 1) := by decide +kernel
theorem dX11_lays_23 : decode cX11_lays 23 = .ok (.aload_n 0, 1) := by decide +kernel
theorem dX11_lays_24 : decode cX11_lays 24 = .ok (.dup, 1) := by decide +kernel
theorem dX11_lays_25 : decode cX11_lays 25 = .ok (.getfield 87, 3) := by decide +kernel
theorem dX11_lays_28 : decode cX11_lays 28 = .ok (.iconst 1, 1) := by decide +kernel
theorem dX11_lays_29 : decode cX11_lays 29 = .ok (.iadd, 1) := by decide +kernel
theorem dX11_lays_30 : decode cX11_lays 30 = .ok (.putfield 87, 3) := by decide +kernel
theorem dX11_lays_33 : decode cX11_lays 33 = .ok (.iinc 2 (-8), 3) := by decide +kernel
theorem dX11_lays_36 : decode cX11_lays 36 = .ok (.goto (-33), 3) := by decide +kernel
theorem dX11_lays_39 : decode cX11_lays 39 = .ok (.return_, 1) := by decide +kernel
theorem dX11_byteAt_0 : decode cX11_byteAt 0 = .ok (.iload_n 1, 1) := by decide +kernel
theorem dX11_byteAt_1 : decode cX11_byteAt 1 = .ok (.aload_n 0, 1) := by decide +kernel
theorem dX11_byteAt_2 : decode cX11_byteAt 2 = .ok (.getfield 94, 3) := by decide +kernel
theorem dX11_byteAt_5 : decode cX11_byteAt 5 = .ok (.if_icmp .ge 12, 3) := by decide +kernel
theorem dX11_byteAt_8 : decode cX11_byteAt 8 = .ok (.aload_n 0, 1) := by decide +kernel
theorem dX11_byteAt_9 : decode cX11_byteAt 9 = .ok (.getfield 26, 3) := by decide +kernel
theorem dX11_byteAt_12 : decode cX11_byteAt 12 = .ok (.iload_n 1, 1) := by decide +kernel
theorem dX11_byteAt_13 : decode cX11_byteAt 13 = .ok (.iaload, 1) := by decide +kernel
theorem dX11_byteAt_14 : decode cX11_byteAt 14 = .ok (.goto 4, 3) := by decide +kernel
theorem dX11_byteAt_17 : decode cX11_byteAt 17 = .ok (.iconst 0, 1) := by decide +kernel
theorem dX11_byteAt_18 : decode cX11_byteAt 18 = .ok (.ireturn, 1) := by decide +kernel
theorem dX11_isLetter_0 : decode cX11_isLetter 0 = .ok (.iload_n 0, 1) := by decide +kernel
theorem dX11_isLetter_1 : decode cX11_isLetter 1 = .ok (.bipush 97, 2) := by decide +kernel
theorem dX11_isLetter_3 : decode cX11_isLetter 3 = .ok (.if_icmp .lt 13, 3) := by decide +kernel
theorem dX11_isLetter_6 : decode cX11_isLetter 6 = .ok (.iload_n 0, 1) := by decide +kernel
theorem dX11_isLetter_7 : decode cX11_isLetter 7 = .ok (.bipush 122, 2) := by decide +kernel
theorem dX11_isLetter_9 : decode cX11_isLetter 9 = .ok (.if_icmp .gt 7, 3) := by decide +kernel
theorem dX11_isLetter_12 : decode cX11_isLetter 12 = .ok (.iconst 1, 1) := by decide +kernel
theorem dX11_isLetter_13 : decode cX11_isLetter 13 = .ok (.goto 4, 3) := by decide +kernel
theorem dX11_isLetter_16 : decode cX11_isLetter 16 = .ok (.iconst 0, 1) := by decide +kernel
theorem dX11_isLetter_17 : decode cX11_isLetter 17 = .ok (.ireturn, 1) := by decide +kernel
theorem dX11_isDigit_0 : decode cX11_isDigit 0 = .ok (.iload_n 0, 1) := by decide +kernel
theorem dX11_isDigit_1 : decode cX11_isDigit 1 = .ok (.bipush 48, 2) := by decide +kernel
theorem dX11_isDigit_3 : decode cX11_isDigit 3 = .ok (.if_icmp .lt 13, 3) := by decide +kernel
theorem dX11_isDigit_6 : decode cX11_isDigit 6 = .ok (.iload_n 0, 1) := by decide +kernel
theorem dX11_isDigit_7 : decode cX11_isDigit 7 = .ok (.bipush 57, 2) := by decide +kernel
theorem dX11_isDigit_9 : decode cX11_isDigit 9 = .ok (.if_icmp .gt 7, 3) := by decide +kernel
theorem dX11_isDigit_12 : decode cX11_isDigit 12 = .ok (.iconst 1, 1) := by decide +kernel
theorem dX11_isDigit_13 : decode cX11_isDigit 13 = .ok (.goto 4, 3) := by decide +kernel
theorem dX11_isDigit_16 : decode cX11_isDigit 16 = .ok (.iconst 0, 1) := by decide +kernel
theorem dX11_isDigit_17 : decode cX11_isDigit 17 = .ok (.ireturn, 1) := by decide +kernel
theorem dX11_goes_0 : decode cX11_goes 0 = .ok (.aload_n 0, 1) := by decide +kernel
theorem dX11_goes_1 : decode cX11_goes 1 = .ok (.getfield 97, 3) := by decide +kernel
theorem dX11_goes_4 : decode cX11_goes 4 = .ok (.aload_n 0, 1) := by decide +kernel
theorem dX11_goes_5 : decode cX11_goes 5 = .ok (.getfield 94, 3) := by decide +kernel
theorem dX11_goes_8 : decode cX11_goes 8 = .ok (.if_icmp .ge 42, 3) := by decide +kernel
theorem dX11_goes_11 : decode cX11_goes 11 = .ok (.aload_n 0, 1) := by decide +kernel
theorem dX11_goes_12 : decode cX11_goes 12 = .ok (.aload_n 0, 1) := by decide +kernel
theorem dX11_goes_13 : decode cX11_goes 13 = .ok (.getfield 97, 3) := by decide +kernel
theorem dX11_goes_16 : decode cX11_goes 16 = .ok (.invokevirtual 100, 3) := by decide +kernel
theorem dX11_goes_19 : decode cX11_goes 19 = .ok (.bipush 32, 2) := by decide +kernel
theorem dX11_goes_21 : decode cX11_goes 21 = .ok (.if_icmp .eq 16, 3) := by decide +kernel
theorem dX11_goes_24 : decode cX11_goes 24 = .ok (.aload_n 0, 1) := by decide +kernel
theorem dX11_goes_25 : decode cX11_goes 25 = .ok (.aload_n 0, 1) := by decide +kernel
theorem dX11_goes_26 : decode cX11_goes 26 = .ok (.getfield 97, 3) := by decide +kernel
theorem dX11_goes_29 : decode cX11_goes 29 = .ok (.invokevirtual 100, 3) := by decide +kernel
theorem dX11_goes_32 : decode cX11_goes 32 = .ok (.bipush 10, 2) := by decide +kernel
theorem dX11_goes_34 : decode cX11_goes 34 = .ok (.if_icmp .ne 16, 3) := by decide +kernel
theorem dX11_goes_37 : decode cX11_goes 37 = .ok (.aload_n 0, 1) := by decide +kernel
theorem dX11_goes_38 : decode cX11_goes 38 = .ok (.dup, 1) := by decide +kernel
theorem dX11_goes_39 : decode cX11_goes 39 = .ok (.getfield 97, 3) := by decide +kernel
theorem dX11_goes_42 : decode cX11_goes 42 = .ok (.iconst 1, 1) := by decide +kernel
theorem dX11_goes_43 : decode cX11_goes 43 = .ok (.iadd, 1) := by decide +kernel
theorem dX11_goes_44 : decode cX11_goes 44 = .ok (.putfield 97, 3) := by decide +kernel
theorem dX11_goes_47 : decode cX11_goes 47 = .ok (.goto (-47), 3) := by decide +kernel
theorem dX11_goes_50 : decode cX11_goes 50 = .ok (.aload_n 0, 1) := by decide +kernel
theorem dX11_goes_51 : decode cX11_goes 51 = .ok (.aload_n 0, 1) := by decide +kernel
theorem dX11_goes_52 : decode cX11_goes 52 = .ok (.getfield 97, 3) := by decide +kernel
theorem dX11_goes_55 : decode cX11_goes 55 = .ok (.putfield 104, 3) := by decide +kernel
theorem dX11_goes_58 : decode cX11_goes 58 = .ok (.aload_n 0, 1) := by decide +kernel
theorem dX11_goes_59 : decode cX11_goes 59 = .ok (.lconst 0, 1) := by decide +kernel
theorem dX11_goes_60 : decode cX11_goes 60 = .ok (.putfield 107, 3) := by decide +kernel
theorem dX11_goes_63 : decode cX11_goes 63 = .ok (.aload_n 0, 1) := by decide +kernel
theorem dX11_goes_64 : decode cX11_goes 64 = .ok (.iconst 0, 1) := by decide +kernel
theorem dX11_goes_65 : decode cX11_goes 65 = .ok (.putfield 111, 3) := by decide +kernel
theorem dX11_goes_68 : decode cX11_goes 68 = .ok (.aload_n 0, 1) := by decide +kernel
theorem dX11_goes_69 : decode cX11_goes 69 = .ok (.aload_n 0, 1) := by decide +kernel
theorem dX11_goes_70 : decode cX11_goes 70 = .ok (.getfield 97, 3) := by decide +kernel
theorem dX11_goes_73 : decode cX11_goes 73 = .ok (.invokevirtual 100, 3) := by decide +kernel
theorem dX11_goes_76 : decode cX11_goes 76 = .ok (.istore_n 1, 1) := by decide +kernel
theorem dX11_goes_77 : decode cX11_goes 77 = .ok (.aload_n 0, 1) := by decide +kernel
theorem dX11_goes_78 : decode cX11_goes 78 = .ok (.iload_n 1, 1) := by decide +kernel
theorem dX11_goes_79 : decode cX11_goes 79 = .ok (.putfield 114, 3) := by decide +kernel
theorem dX11_goes_82 : decode cX11_goes 82 = .ok (.aload_n 0, 1) := by decide +kernel
theorem dX11_goes_83 : decode cX11_goes 83 = .ok (.getfield 97, 3) := by decide +kernel
theorem dX11_goes_86 : decode cX11_goes 86 = .ok (.aload_n 0, 1) := by decide +kernel
theorem dX11_goes_87 : decode cX11_goes 87 = .ok (.getfield 94, 3) := by decide +kernel
theorem dX11_goes_90 : decode cX11_goes 90 = .ok (.if_icmp .lt 11, 3) := by decide +kernel
theorem dX11_goes_93 : decode cX11_goes 93 = .ok (.aload_n 0, 1) := by decide +kernel
theorem dX11_goes_94 : decode cX11_goes 94 = .ok (.iconst 0, 1) := by decide +kernel
theorem dX11_goes_95 : decode cX11_goes 95 = .ok (.putfield 117, 3) := by decide +kernel
theorem dX11_goes_98 : decode cX11_goes 98 = .ok (.goto 233, 3) := by decide +kernel
theorem dX11_goes_101 : decode cX11_goes 101 = .ok (.iload_n 1, 1) := by decide +kernel
theorem dX11_goes_102 : decode cX11_goes 102 = .ok (.invokestatic 120, 3) := by decide +kernel
theorem dX11_goes_105 : decode cX11_goes 105 = .ok (.ifCond .eq 75, 3) := by decide +kernel
theorem dX11_goes_108 : decode cX11_goes 108 = .ok (.aload_n 0, 1) := by decide +kernel
theorem dX11_goes_109 : decode cX11_goes 109 = .ok (.aload_n 0, 1) := by decide +kernel
theorem dX11_goes_110 : decode cX11_goes 110 = .ok (.getfield 97, 3) := by decide +kernel
theorem dX11_goes_113 : decode cX11_goes 113 = .ok (.invokevirtual 100, 3) := by decide +kernel
theorem dX11_goes_116 : decode cX11_goes 116 = .ok (.invokestatic 120, 3) := by decide +kernel
theorem dX11_goes_119 : decode cX11_goes 119 = .ok (.ifCond .eq 53, 3) := by decide +kernel
theorem dX11_goes_122 : decode cX11_goes 122 = .ok (.aload_n 0, 1) := by decide +kernel
theorem dX11_goes_123 : decode cX11_goes 123 = .ok (.getfield 97, 3) := by decide +kernel
theorem dX11_goes_126 : decode cX11_goes 126 = .ok (.aload_n 0, 1) := by decide +kernel
theorem dX11_goes_127 : decode cX11_goes 127 = .ok (.getfield 104, 3) := by decide +kernel
theorem dX11_goes_130 : decode cX11_goes 130 = .ok (.isub, 1) := by decide +kernel
theorem dX11_goes_131 : decode cX11_goes 131 = .ok (.bipush 6, 2) := by decide +kernel
theorem dX11_goes_133 : decode cX11_goes 133 = .ok (.if_icmp .ge 26, 3) := by decide +kernel
theorem dX11_goes_136 : decode cX11_goes 136 = .ok (.aload_n 0, 1) := by decide +kernel
theorem dX11_goes_137 : decode cX11_goes 137 = .ok (.aload_n 0, 1) := by decide +kernel
theorem dX11_goes_138 : decode cX11_goes 138 = .ok (.getfield 107, 3) := by decide +kernel
theorem dX11_goes_141 : decode cX11_goes 141 = .ok (.iconst 5, 1) := by decide +kernel
theorem dX11_goes_142 : decode cX11_goes 142 = .ok (.lshl, 1) := by decide +kernel
theorem dX11_goes_143 : decode cX11_goes 143 = .ok (.aload_n 0, 1) := by decide +kernel
theorem dX11_goes_144 : decode cX11_goes 144 = .ok (.aload_n 0, 1) := by decide +kernel
theorem dX11_goes_145 : decode cX11_goes 145 = .ok (.getfield 97, 3) := by decide +kernel
theorem dX11_goes_148 : decode cX11_goes 148 = .ok (.invokevirtual 100, 3) := by decide +kernel
theorem dX11_goes_151 : decode cX11_goes 151 = .ok (.bipush 96, 2) := by decide +kernel
theorem dX11_goes_153 : decode cX11_goes 153 = .ok (.isub, 1) := by decide +kernel
theorem dX11_goes_154 : decode cX11_goes 154 = .ok (.i2l, 1) := by decide +kernel
theorem dX11_goes_155 : decode cX11_goes 155 = .ok (.lor, 1) := by decide +kernel
theorem dX11_goes_156 : decode cX11_goes 156 = .ok (.putfield 107, 3) := by decide +kernel
theorem dX11_goes_159 : decode cX11_goes 159 = .ok (.aload_n 0, 1) := by decide +kernel
theorem dX11_goes_160 : decode cX11_goes 160 = .ok (.dup, 1) := by decide +kernel
theorem dX11_goes_161 : decode cX11_goes 161 = .ok (.getfield 97, 3) := by decide +kernel
theorem dX11_goes_164 : decode cX11_goes 164 = .ok (.iconst 1, 1) := by decide +kernel
theorem dX11_goes_165 : decode cX11_goes 165 = .ok (.iadd, 1) := by decide +kernel
theorem dX11_goes_166 : decode cX11_goes 166 = .ok (.putfield 97, 3) := by decide +kernel
theorem dX11_goes_169 : decode cX11_goes 169 = .ok (.goto (-61), 3) := by decide +kernel
theorem dX11_goes_172 : decode cX11_goes 172 = .ok (.aload_n 0, 1) := by decide +kernel
theorem dX11_goes_173 : decode cX11_goes 173 = .ok (.iconst 1, 1) := by decide +kernel
theorem dX11_goes_174 : decode cX11_goes 174 = .ok (.putfield 117, 3) := by decide +kernel
theorem dX11_goes_177 : decode cX11_goes 177 = .ok (.goto 154, 3) := by decide +kernel
theorem dX11_goes_180 : decode cX11_goes 180 = .ok (.iload_n 1, 1) := by decide +kernel
theorem dX11_goes_181 : decode cX11_goes 181 = .ok (.invokestatic 124, 3) := by decide +kernel
theorem dX11_goes_184 : decode cX11_goes 184 = .ok (.ifCond .eq 74, 3) := by decide +kernel
theorem dX11_goes_187 : decode cX11_goes 187 = .ok (.aload_n 0, 1) := by decide +kernel
theorem dX11_goes_188 : decode cX11_goes 188 = .ok (.aload_n 0, 1) := by decide +kernel
theorem dX11_goes_189 : decode cX11_goes 189 = .ok (.getfield 97, 3) := by decide +kernel
theorem dX11_goes_192 : decode cX11_goes 192 = .ok (.invokevirtual 100, 3) := by decide +kernel
theorem dX11_goes_195 : decode cX11_goes 195 = .ok (.invokestatic 124, 3) := by decide +kernel
theorem dX11_goes_198 : decode cX11_goes 198 = .ok (.ifCond .eq 52, 3) := by decide +kernel
theorem dX11_goes_201 : decode cX11_goes 201 = .ok (.aload_n 0, 1) := by decide +kernel
theorem dX11_goes_202 : decode cX11_goes 202 = .ok (.getfield 97, 3) := by decide +kernel
theorem dX11_goes_205 : decode cX11_goes 205 = .ok (.aload_n 0, 1) := by decide +kernel
theorem dX11_goes_206 : decode cX11_goes 206 = .ok (.getfield 104, 3) := by decide +kernel
theorem dX11_goes_209 : decode cX11_goes 209 = .ok (.isub, 1) := by decide +kernel
theorem dX11_goes_210 : decode cX11_goes 210 = .ok (.iconst 4, 1) := by decide +kernel
theorem dX11_goes_211 : decode cX11_goes 211 = .ok (.if_icmp .ge 26, 3) := by decide +kernel
theorem dX11_goes_214 : decode cX11_goes 214 = .ok (.aload_n 0, 1) := by decide +kernel
theorem dX11_goes_215 : decode cX11_goes 215 = .ok (.bipush 10, 2) := by decide +kernel
theorem dX11_goes_217 : decode cX11_goes 217 = .ok (.aload_n 0, 1) := by decide +kernel
theorem dX11_goes_218 : decode cX11_goes 218 = .ok (.getfield 111, 3) := by decide +kernel
theorem dX11_goes_221 : decode cX11_goes 221 = .ok (.imul, 1) := by decide +kernel
theorem dX11_goes_222 : decode cX11_goes 222 = .ok (.aload_n 0, 1) := by decide +kernel
theorem dX11_goes_223 : decode cX11_goes 223 = .ok (.aload_n 0, 1) := by decide +kernel
theorem dX11_goes_224 : decode cX11_goes 224 = .ok (.getfield 97, 3) := by decide +kernel
theorem dX11_goes_227 : decode cX11_goes 227 = .ok (.invokevirtual 100, 3) := by decide +kernel
theorem dX11_goes_230 : decode cX11_goes 230 = .ok (.iadd, 1) := by decide +kernel
theorem dX11_goes_231 : decode cX11_goes 231 = .ok (.bipush 48, 2) := by decide +kernel
theorem dX11_goes_233 : decode cX11_goes 233 = .ok (.isub, 1) := by decide +kernel
theorem dX11_goes_234 : decode cX11_goes 234 = .ok (.putfield 111, 3) := by decide +kernel
theorem dX11_goes_237 : decode cX11_goes 237 = .ok (.aload_n 0, 1) := by decide +kernel
theorem dX11_goes_238 : decode cX11_goes 238 = .ok (.dup, 1) := by decide +kernel
theorem dX11_goes_239 : decode cX11_goes 239 = .ok (.getfield 97, 3) := by decide +kernel
theorem dX11_goes_242 : decode cX11_goes 242 = .ok (.iconst 1, 1) := by decide +kernel
theorem dX11_goes_243 : decode cX11_goes 243 = .ok (.iadd, 1) := by decide +kernel
theorem dX11_goes_244 : decode cX11_goes 244 = .ok (.putfield 97, 3) := by decide +kernel
theorem dX11_goes_247 : decode cX11_goes 247 = .ok (.goto (-60), 3) := by decide +kernel
theorem dX11_goes_250 : decode cX11_goes 250 = .ok (.aload_n 0, 1) := by decide +kernel
theorem dX11_goes_251 : decode cX11_goes 251 = .ok (.iconst 2, 1) := by decide +kernel
theorem dX11_goes_252 : decode cX11_goes 252 = .ok (.putfield 117, 3) := by decide +kernel
theorem dX11_goes_255 : decode cX11_goes 255 = .ok (.goto 76, 3) := by decide +kernel
theorem dX11_goes_258 : decode cX11_goes 258 = .ok (.aload_n 0, 1) := by decide +kernel
theorem dX11_goes_259 : decode cX11_goes 259 = .ok (.dup, 1) := by decide +kernel
theorem dX11_goes_260 : decode cX11_goes 260 = .ok (.getfield 97, 3) := by decide +kernel
theorem dX11_goes_263 : decode cX11_goes 263 = .ok (.iconst 1, 1) := by decide +kernel
theorem dX11_goes_264 : decode cX11_goes 264 = .ok (.iadd, 1) := by decide +kernel
theorem dX11_goes_265 : decode cX11_goes 265 = .ok (.putfield 97, 3) := by decide +kernel
theorem dX11_goes_268 : decode cX11_goes 268 = .ok (.aload_n 0, 1) := by decide +kernel
theorem dX11_goes_269 : decode cX11_goes 269 = .ok (.iload_n 1, 1) := by decide +kernel
theorem dX11_goes_270 : decode cX11_goes 270 = .ok (.bipush 59, 2) := by decide +kernel
theorem dX11_goes_272 : decode cX11_goes 272 = .ok (.if_icmp .eq 51, 3) := by decide +kernel
theorem dX11_goes_275 : decode cX11_goes 275 = .ok (.iload_n 1, 1) := by decide +kernel
theorem dX11_goes_276 : decode cX11_goes 276 = .ok (.bipush 40, 2) := by decide +kernel
theorem dX11_goes_278 : decode cX11_goes 278 = .ok (.if_icmp .eq 45, 3) := by decide +kernel
theorem dX11_goes_281 : decode cX11_goes 281 = .ok (.iload_n 1, 1) := by decide +kernel
theorem dX11_goes_282 : decode cX11_goes 282 = .ok (.bipush 41, 2) := by decide +kernel
theorem dX11_goes_284 : decode cX11_goes 284 = .ok (.if_icmp .eq 39, 3) := by decide +kernel
theorem dX11_goes_287 : decode cX11_goes 287 = .ok (.iload_n 1, 1) := by decide +kernel
theorem dX11_goes_288 : decode cX11_goes 288 = .ok (.bipush 43, 2) := by decide +kernel
theorem dX11_goes_290 : decode cX11_goes 290 = .ok (.if_icmp .eq 33, 3) := by decide +kernel
theorem dX11_goes_293 : decode cX11_goes 293 = .ok (.iload_n 1, 1) := by decide +kernel
theorem dX11_goes_294 : decode cX11_goes 294 = .ok (.bipush 45, 2) := by decide +kernel
theorem dX11_goes_296 : decode cX11_goes 296 = .ok (.if_icmp .eq 27, 3) := by decide +kernel
theorem dX11_goes_299 : decode cX11_goes 299 = .ok (.iload_n 1, 1) := by decide +kernel
theorem dX11_goes_300 : decode cX11_goes 300 = .ok (.bipush 42, 2) := by decide +kernel
theorem dX11_goes_302 : decode cX11_goes 302 = .ok (.if_icmp .eq 21, 3) := by decide +kernel
theorem dX11_goes_305 : decode cX11_goes 305 = .ok (.iload_n 1, 1) := by decide +kernel
theorem dX11_goes_306 : decode cX11_goes 306 = .ok (.bipush 47, 2) := by decide +kernel
theorem dX11_goes_308 : decode cX11_goes 308 = .ok (.if_icmp .eq 15, 3) := by decide +kernel
theorem dX11_goes_311 : decode cX11_goes 311 = .ok (.iload_n 1, 1) := by decide +kernel
theorem dX11_goes_312 : decode cX11_goes 312 = .ok (.bipush 60, 2) := by decide +kernel
theorem dX11_goes_314 : decode cX11_goes 314 = .ok (.if_icmp .eq 9, 3) := by decide +kernel
theorem dX11_goes_317 : decode cX11_goes 317 = .ok (.iload_n 1, 1) := by decide +kernel
theorem dX11_goes_318 : decode cX11_goes 318 = .ok (.bipush 61, 2) := by decide +kernel
theorem dX11_goes_320 : decode cX11_goes 320 = .ok (.if_icmp .ne 7, 3) := by decide +kernel
theorem dX11_goes_323 : decode cX11_goes 323 = .ok (.iconst 3, 1) := by decide +kernel
theorem dX11_goes_324 : decode cX11_goes 324 = .ok (.goto 4, 3) := by decide +kernel
theorem dX11_goes_327 : decode cX11_goes 327 = .ok (.iconst 4, 1) := by decide +kernel
theorem dX11_goes_328 : decode cX11_goes 328 = .ok (.putfield 117, 3) := by decide +kernel
theorem dX11_goes_331 : decode cX11_goes 331 = .ok (.aload_n 0, 1) := by decide +kernel
theorem dX11_goes_332 : decode cX11_goes 332 = .ok (.aload_n 0, 1) := by decide +kernel
theorem dX11_goes_333 : decode cX11_goes 333 = .ok (.getfield 97, 3) := by decide +kernel
theorem dX11_goes_336 : decode cX11_goes 336 = .ok (.aload_n 0, 1) := by decide +kernel
theorem dX11_goes_337 : decode cX11_goes 337 = .ok (.getfield 104, 3) := by decide +kernel
theorem dX11_goes_340 : decode cX11_goes 340 = .ok (.isub, 1) := by decide +kernel
theorem dX11_goes_341 : decode cX11_goes 341 = .ok (.putfield 127, 3) := by decide +kernel
theorem dX11_goes_344 : decode cX11_goes 344 = .ok (.return_, 1) := by decide +kernel
theorem dX11_spelled_0 : decode cX11_spelled 0 = .ok (.iload_n 0, 1) := by decide +kernel
theorem dX11_spelled_1 : decode cX11_spelled 1 = .ok (.i2l, 1) := by decide +kernel
theorem dX11_spelled_2 : decode cX11_spelled 2 = .ok (.ldc2_w 130, 3) := by decide +kernel
theorem dX11_spelled_5 : decode cX11_spelled 5 = .ok (.lsub, 1) := by decide +kernel
theorem dX11_spelled_6 : decode cX11_spelled 6 = .ok (.iconst 5, 1) := by decide +kernel
theorem dX11_spelled_7 : decode cX11_spelled 7 = .ok (.lshl, 1) := by decide +kernel
theorem dX11_spelled_8 : decode cX11_spelled 8 = .ok (.iload_n 1, 1) := by decide +kernel
theorem dX11_spelled_9 : decode cX11_spelled 9 = .ok (.bipush 96, 2) := by decide +kernel
theorem dX11_spelled_11 : decode cX11_spelled 11 = .ok (.isub, 1) := by decide +kernel
theorem dX11_spelled_12 : decode cX11_spelled 12 = .ok (.i2l, 1) := by decide +kernel
theorem dX11_spelled_13 : decode cX11_spelled 13 = .ok (.lor, 1) := by decide +kernel
theorem dX11_spelled_14 : decode cX11_spelled 14 = .ok (.lstore 6, 2) := by decide +kernel
theorem dX11_spelled_16 : decode cX11_spelled 16 = .ok (.iload_n 2, 1) := by decide +kernel
theorem dX11_spelled_17 : decode cX11_spelled 17 = .ok (.ifCond .eq 15, 3) := by decide +kernel
theorem dX11_spelled_20 : decode cX11_spelled 20 = .ok (.lload 6, 2) := by decide +kernel
theorem dX11_spelled_22 : decode cX11_spelled 22 = .ok (.iconst 5, 1) := by decide +kernel
theorem dX11_spelled_23 : decode cX11_spelled 23 = .ok (.lshl, 1) := by decide +kernel
theorem dX11_spelled_24 : decode cX11_spelled 24 = .ok (.iload_n 2, 1) := by decide +kernel
theorem dX11_spelled_25 : decode cX11_spelled 25 = .ok (.bipush 96, 2) := by decide +kernel
theorem dX11_spelled_27 : decode cX11_spelled 27 = .ok (.isub, 1) := by decide +kernel
theorem dX11_spelled_28 : decode cX11_spelled 28 = .ok (.i2l, 1) := by decide +kernel
theorem dX11_spelled_29 : decode cX11_spelled 29 = .ok (.lor, 1) := by decide +kernel
theorem dX11_spelled_30 : decode cX11_spelled 30 = .ok (.lstore 6, 2) := by decide +kernel
theorem dX11_spelled_32 : decode cX11_spelled 32 = .ok (.iload_n 3, 1) := by decide +kernel
theorem dX11_spelled_33 : decode cX11_spelled 33 = .ok (.ifCond .eq 15, 3) := by decide +kernel
theorem dX11_spelled_36 : decode cX11_spelled 36 = .ok (.lload 6, 2) := by decide +kernel
theorem dX11_spelled_38 : decode cX11_spelled 38 = .ok (.iconst 5, 1) := by decide +kernel
theorem dX11_spelled_39 : decode cX11_spelled 39 = .ok (.lshl, 1) := by decide +kernel
theorem dX11_spelled_40 : decode cX11_spelled 40 = .ok (.iload_n 3, 1) := by decide +kernel
theorem dX11_spelled_41 : decode cX11_spelled 41 = .ok (.bipush 96, 2) := by decide +kernel
theorem dX11_spelled_43 : decode cX11_spelled 43 = .ok (.isub, 1) := by decide +kernel
theorem dX11_spelled_44 : decode cX11_spelled 44 = .ok (.i2l, 1) := by decide +kernel
theorem dX11_spelled_45 : decode cX11_spelled 45 = .ok (.lor, 1) := by decide +kernel
theorem dX11_spelled_46 : decode cX11_spelled 46 = .ok (.lstore 6, 2) := by decide +kernel
theorem dX11_spelled_48 : decode cX11_spelled 48 = .ok (.iload 4, 2) := by decide +kernel
theorem dX11_spelled_50 : decode cX11_spelled 50 = .ok (.ifCond .eq 16, 3) := by decide +kernel
theorem dX11_spelled_53 : decode cX11_spelled 53 = .ok (.lload 6, 2) := by decide +kernel
theorem dX11_spelled_55 : decode cX11_spelled 55 = .ok (.iconst 5, 1) := by decide +kernel
theorem dX11_spelled_56 : decode cX11_spelled 56 = .ok (.lshl, 1) := by decide +kernel
theorem dX11_spelled_57 : decode cX11_spelled 57 = .ok (.iload 4, 2) := by decide +kernel
theorem dX11_spelled_59 : decode cX11_spelled 59 = .ok (.bipush 96, 2) := by decide +kernel
theorem dX11_spelled_61 : decode cX11_spelled 61 = .ok (.isub, 1) := by decide +kernel
theorem dX11_spelled_62 : decode cX11_spelled 62 = .ok (.i2l, 1) := by decide +kernel
theorem dX11_spelled_63 : decode cX11_spelled 63 = .ok (.lor, 1) := by decide +kernel
theorem dX11_spelled_64 : decode cX11_spelled 64 = .ok (.lstore 6, 2) := by decide +kernel
theorem dX11_spelled_66 : decode cX11_spelled 66 = .ok (.iload 5, 2) := by decide +kernel
theorem dX11_spelled_68 : decode cX11_spelled 68 = .ok (.ifCond .eq 16, 3) := by decide +kernel
theorem dX11_spelled_71 : decode cX11_spelled 71 = .ok (.lload 6, 2) := by decide +kernel
theorem dX11_spelled_73 : decode cX11_spelled 73 = .ok (.iconst 5, 1) := by decide +kernel
theorem dX11_spelled_74 : decode cX11_spelled 74 = .ok (.lshl, 1) := by decide +kernel
theorem dX11_spelled_75 : decode cX11_spelled 75 = .ok (.iload 5, 2) := by decide +kernel
theorem dX11_spelled_77 : decode cX11_spelled 77 = .ok (.bipush 96, 2) := by decide +kernel
theorem dX11_spelled_79 : decode cX11_spelled 79 = .ok (.isub, 1) := by decide +kernel
theorem dX11_spelled_80 : decode cX11_spelled 80 = .ok (.i2l, 1) := by decide +kernel
theorem dX11_spelled_81 : decode cX11_spelled 81 = .ok (.lor, 1) := by decide +kernel
theorem dX11_spelled_82 : decode cX11_spelled 82 = .ok (.lstore 6, 2) := by decide +kernel
theorem dX11_spelled_84 : decode cX11_spelled 84 = .ok (.lload 6, 2) := by decide +kernel
theorem dX11_spelled_86 : decode cX11_spelled 86 = .ok (.lreturn, 1) := by decide +kernel
theorem dX11_letters_0 : decode cX11_letters 0 = .ok (.iload_n 0, 1) := by decide +kernel
theorem dX11_letters_1 : decode cX11_letters 1 = .ok (.tableswitch 247 0 12 #[67, 80, 96, 109, 123, 137, 151, 166, 179, 192, 207, 222, 235], 67) := by decide +kernel
theorem dX11_letters_68 : decode cX11_letters 68 = .ok (.bipush 115, 2) := by decide +kernel
theorem dX11_letters_70 : decode cX11_letters 70 = .ok (.bipush 117, 2) := by decide +kernel
theorem dX11_letters_72 : decode cX11_letters 72 = .ok (.bipush 109, 2) := by decide +kernel
theorem dX11_letters_74 : decode cX11_letters 74 = .ok (.iconst 0, 1) := by decide +kernel
theorem dX11_letters_75 : decode cX11_letters 75 = .ok (.iconst 0, 1) := by decide +kernel
theorem dX11_letters_76 : decode cX11_letters 76 = .ok (.iconst 0, 1) := by decide +kernel
theorem dX11_letters_77 : decode cX11_letters 77 = .ok (.invokestatic 132, 3) := by decide +kernel
theorem dX11_letters_80 : decode cX11_letters 80 = .ok (.lreturn, 1) := by decide +kernel
theorem dX11_letters_81 : decode cX11_letters 81 = .ok (.bipush 111, 2) := by decide +kernel
theorem dX11_letters_83 : decode cX11_letters 83 = .ok (.bipush 116, 2) := by decide +kernel
theorem dX11_letters_85 : decode cX11_letters 85 = .ok (.bipush 104, 2) := by decide +kernel
theorem dX11_letters_87 : decode cX11_letters 87 = .ok (.bipush 101, 2) := by decide +kernel
theorem dX11_letters_89 : decode cX11_letters 89 = .ok (.bipush 114, 2) := by decide +kernel
theorem dX11_letters_91 : decode cX11_letters 91 = .ok (.bipush 115, 2) := by decide +kernel
theorem dX11_letters_93 : decode cX11_letters 93 = .ok (.invokestatic 132, 3) := by decide +kernel
theorem dX11_letters_96 : decode cX11_letters 96 = .ok (.lreturn, 1) := by decide +kernel
theorem dX11_letters_97 : decode cX11_letters 97 = .ok (.bipush 109, 2) := by decide +kernel
theorem dX11_letters_99 : decode cX11_letters 99 = .ok (.bipush 117, 2) := by decide +kernel
theorem dX11_letters_101 : decode cX11_letters 101 = .ok (.bipush 100, 2) := by decide +kernel
theorem dX11_letters_103 : decode cX11_letters 103 = .ok (.iconst 0, 1) := by decide +kernel
theorem dX11_letters_104 : decode cX11_letters 104 = .ok (.iconst 0, 1) := by decide +kernel
theorem dX11_letters_105 : decode cX11_letters 105 = .ok (.iconst 0, 1) := by decide +kernel
theorem dX11_letters_106 : decode cX11_letters 106 = .ok (.invokestatic 132, 3) := by decide +kernel
theorem dX11_letters_109 : decode cX11_letters 109 = .ok (.lreturn, 1) := by decide +kernel
theorem dX11_letters_110 : decode cX11_letters 110 = .ok (.bipush 98, 2) := by decide +kernel
theorem dX11_letters_112 : decode cX11_letters 112 = .ok (.bipush 101, 2) := by decide +kernel
theorem dX11_letters_114 : decode cX11_letters 114 = .ok (.bipush 97, 2) := by decide +kernel
theorem dX11_letters_116 : decode cX11_letters 116 = .ok (.bipush 116, 2) := by decide +kernel
theorem dX11_letters_118 : decode cX11_letters 118 = .ok (.iconst 0, 1) := by decide +kernel
theorem dX11_letters_119 : decode cX11_letters 119 = .ok (.iconst 0, 1) := by decide +kernel
theorem dX11_letters_120 : decode cX11_letters 120 = .ok (.invokestatic 132, 3) := by decide +kernel
theorem dX11_letters_123 : decode cX11_letters 123 = .ok (.lreturn, 1) := by decide +kernel
theorem dX11_letters_124 : decode cX11_letters 124 = .ok (.bipush 109, 2) := by decide +kernel
theorem dX11_letters_126 : decode cX11_letters 126 = .ok (.bipush 97, 2) := by decide +kernel
theorem dX11_letters_128 : decode cX11_letters 128 = .ok (.bipush 110, 2) := by decide +kernel
theorem dX11_letters_130 : decode cX11_letters 130 = .ok (.bipush 121, 2) := by decide +kernel
theorem dX11_letters_132 : decode cX11_letters 132 = .ok (.iconst 0, 1) := by decide +kernel
theorem dX11_letters_133 : decode cX11_letters 133 = .ok (.iconst 0, 1) := by decide +kernel
theorem dX11_letters_134 : decode cX11_letters 134 = .ok (.invokestatic 132, 3) := by decide +kernel
theorem dX11_letters_137 : decode cX11_letters 137 = .ok (.lreturn, 1) := by decide +kernel
theorem dX11_letters_138 : decode cX11_letters 138 = .ok (.bipush 108, 2) := by decide +kernel
theorem dX11_letters_140 : decode cX11_letters 140 = .ok (.bipush 97, 2) := by decide +kernel
theorem dX11_letters_142 : decode cX11_letters 142 = .ok (.bipush 115, 2) := by decide +kernel
theorem dX11_letters_144 : decode cX11_letters 144 = .ok (.bipush 116, 2) := by decide +kernel
theorem dX11_letters_146 : decode cX11_letters 146 = .ok (.iconst 0, 1) := by decide +kernel
theorem dX11_letters_147 : decode cX11_letters 147 = .ok (.iconst 0, 1) := by decide +kernel
theorem dX11_letters_148 : decode cX11_letters 148 = .ok (.invokestatic 132, 3) := by decide +kernel
theorem dX11_letters_151 : decode cX11_letters 151 = .ok (.lreturn, 1) := by decide +kernel
theorem dX11_letters_152 : decode cX11_letters 152 = .ok (.bipush 98, 2) := by decide +kernel
theorem dX11_letters_154 : decode cX11_letters 154 = .ok (.bipush 101, 2) := by decide +kernel
theorem dX11_letters_156 : decode cX11_letters 156 = .ok (.bipush 97, 2) := by decide +kernel
theorem dX11_letters_158 : decode cX11_letters 158 = .ok (.bipush 116, 2) := by decide +kernel
theorem dX11_letters_160 : decode cX11_letters 160 = .ok (.bipush 115, 2) := by decide +kernel
theorem dX11_letters_162 : decode cX11_letters 162 = .ok (.iconst 0, 1) := by decide +kernel
theorem dX11_letters_163 : decode cX11_letters 163 = .ok (.invokestatic 132, 3) := by decide +kernel
theorem dX11_letters_166 : decode cX11_letters 166 = .ok (.lreturn, 1) := by decide +kernel
theorem dX11_letters_167 : decode cX11_letters 167 = .ok (.bipush 109, 2) := by decide +kernel
theorem dX11_letters_169 : decode cX11_letters 169 = .ok (.bipush 97, 2) := by decide +kernel
theorem dX11_letters_171 : decode cX11_letters 171 = .ok (.bipush 110, 2) := by decide +kernel
theorem dX11_letters_173 : decode cX11_letters 173 = .ok (.iconst 0, 1) := by decide +kernel
theorem dX11_letters_174 : decode cX11_letters 174 = .ok (.iconst 0, 1) := by decide +kernel
theorem dX11_letters_175 : decode cX11_letters 175 = .ok (.iconst 0, 1) := by decide +kernel
theorem dX11_letters_176 : decode cX11_letters 176 = .ok (.invokestatic 132, 3) := by decide +kernel
theorem dX11_letters_179 : decode cX11_letters 179 = .ok (.lreturn, 1) := by decide +kernel
theorem dX11_letters_180 : decode cX11_letters 180 = .ok (.bipush 114, 2) := by decide +kernel
theorem dX11_letters_182 : decode cX11_letters 182 = .ok (.bipush 111, 2) := by decide +kernel
theorem dX11_letters_184 : decode cX11_letters 184 = .ok (.bipush 119, 2) := by decide +kernel
theorem dX11_letters_186 : decode cX11_letters 186 = .ok (.iconst 0, 1) := by decide +kernel
theorem dX11_letters_187 : decode cX11_letters 187 = .ok (.iconst 0, 1) := by decide +kernel
theorem dX11_letters_188 : decode cX11_letters 188 = .ok (.iconst 0, 1) := by decide +kernel
theorem dX11_letters_189 : decode cX11_letters 189 = .ok (.invokestatic 132, 3) := by decide +kernel
theorem dX11_letters_192 : decode cX11_letters 192 = .ok (.lreturn, 1) := by decide +kernel
theorem dX11_letters_193 : decode cX11_letters 193 = .ok (.bipush 115, 2) := by decide +kernel
theorem dX11_letters_195 : decode cX11_letters 195 = .ok (.bipush 108, 2) := by decide +kernel
theorem dX11_letters_197 : decode cX11_letters 197 = .ok (.bipush 97, 2) := by decide +kernel
theorem dX11_letters_199 : decode cX11_letters 199 = .ok (.bipush 99, 2) := by decide +kernel
theorem dX11_letters_201 : decode cX11_letters 201 = .ok (.bipush 107, 2) := by decide +kernel
theorem dX11_letters_203 : decode cX11_letters 203 = .ok (.iconst 0, 1) := by decide +kernel
theorem dX11_letters_204 : decode cX11_letters 204 = .ok (.invokestatic 132, 3) := by decide +kernel
theorem dX11_letters_207 : decode cX11_letters 207 = .ok (.lreturn, 1) := by decide +kernel
theorem dX11_letters_208 : decode cX11_letters 208 = .ok (.bipush 104, 2) := by decide +kernel
theorem dX11_letters_210 : decode cX11_letters 210 = .ok (.bipush 101, 2) := by decide +kernel
theorem dX11_letters_212 : decode cX11_letters 212 = .ok (.bipush 97, 2) := by decide +kernel
theorem dX11_letters_214 : decode cX11_letters 214 = .ok (.bipush 114, 2) := by decide +kernel
theorem dX11_letters_216 : decode cX11_letters 216 = .ok (.bipush 115, 2) := by decide +kernel
theorem dX11_letters_218 : decode cX11_letters 218 = .ok (.iconst 0, 1) := by decide +kernel
theorem dX11_letters_219 : decode cX11_letters 219 = .ok (.invokestatic 132, 3) := by decide +kernel
theorem dX11_letters_222 : decode cX11_letters 222 = .ok (.lreturn, 1) := by decide +kernel
theorem dX11_letters_223 : decode cX11_letters 223 = .ok (.bipush 97, 2) := by decide +kernel
theorem dX11_letters_225 : decode cX11_letters 225 = .ok (.bipush 110, 2) := by decide +kernel
theorem dX11_letters_227 : decode cX11_letters 227 = .ok (.bipush 100, 2) := by decide +kernel
theorem dX11_letters_229 : decode cX11_letters 229 = .ok (.iconst 0, 1) := by decide +kernel
theorem dX11_letters_230 : decode cX11_letters 230 = .ok (.iconst 0, 1) := by decide +kernel
theorem dX11_letters_231 : decode cX11_letters 231 = .ok (.iconst 0, 1) := by decide +kernel
theorem dX11_letters_232 : decode cX11_letters 232 = .ok (.invokestatic 132, 3) := by decide +kernel
theorem dX11_letters_235 : decode cX11_letters 235 = .ok (.lreturn, 1) := by decide +kernel
theorem dX11_letters_236 : decode cX11_letters 236 = .ok (.bipush 111, 2) := by decide +kernel
theorem dX11_letters_238 : decode cX11_letters 238 = .ok (.bipush 114, 2) := by decide +kernel
theorem dX11_letters_240 : decode cX11_letters 240 = .ok (.iconst 0, 1) := by decide +kernel
theorem dX11_letters_241 : decode cX11_letters 241 = .ok (.iconst 0, 1) := by decide +kernel
theorem dX11_letters_242 : decode cX11_letters 242 = .ok (.iconst 0, 1) := by decide +kernel
theorem dX11_letters_243 : decode cX11_letters 243 = .ok (.iconst 0, 1) := by decide +kernel
theorem dX11_letters_244 : decode cX11_letters 244 = .ok (.invokestatic 132, 3) := by decide +kernel
theorem dX11_letters_247 : decode cX11_letters 247 = .ok (.lreturn, 1) := by decide +kernel
theorem dX11_letters_248 : decode cX11_letters 248 = .ok (.bipush 110, 2) := by decide +kernel
theorem dX11_letters_250 : decode cX11_letters 250 = .ok (.bipush 111, 2) := by decide +kernel
theorem dX11_letters_252 : decode cX11_letters 252 = .ok (.bipush 116, 2) := by decide +kernel
theorem dX11_letters_254 : decode cX11_letters 254 = .ok (.iconst 0, 1) := by decide +kernel
theorem dX11_letters_255 : decode cX11_letters 255 = .ok (.iconst 0, 1) := by decide +kernel
theorem dX11_letters_256 : decode cX11_letters 256 = .ok (.iconst 0, 1) := by decide +kernel
theorem dX11_letters_257 : decode cX11_letters 257 = .ok (.invokestatic 132, 3) := by decide +kernel
theorem dX11_letters_260 : decode cX11_letters 260 = .ok (.lreturn, 1) := by decide +kernel
theorem dX11_knownWord_0 : decode cX11_knownWord 0 = .ok (.aload_n 0, 1) := by decide +kernel
theorem dX11_knownWord_1 : decode cX11_knownWord 1 = .ok (.getfield 117, 3) := by decide +kernel
theorem dX11_knownWord_4 : decode cX11_knownWord 4 = .ok (.iconst 1, 1) := by decide +kernel
theorem dX11_knownWord_5 : decode cX11_knownWord 5 = .ok (.if_icmp .ne 12, 3) := by decide +kernel
theorem dX11_knownWord_8 : decode cX11_knownWord 8 = .ok (.aload_n 0, 1) := by decide +kernel
theorem dX11_knownWord_9 : decode cX11_knownWord 9 = .ok (.getfield 127, 3) := by decide +kernel
theorem dX11_knownWord_12 : decode cX11_knownWord 12 = .ok (.bipush 6, 2) := by decide +kernel
theorem dX11_knownWord_14 : decode cX11_knownWord 14 = .ok (.if_icmp .le 5, 3) := by decide +kernel
theorem dX11_knownWord_17 : decode cX11_knownWord 17 = .ok (.iconst (-1), 1) := by decide +kernel
theorem dX11_knownWord_18 : decode cX11_knownWord 18 = .ok (.ireturn, 1) := by decide +kernel
theorem dX11_knownWord_19 : decode cX11_knownWord 19 = .ok (.iconst 0, 1) := by decide +kernel
theorem dX11_knownWord_20 : decode cX11_knownWord 20 = .ok (.istore_n 1, 1) := by decide +kernel
theorem dX11_knownWord_21 : decode cX11_knownWord 21 = .ok (.iload_n 1, 1) := by decide +kernel
theorem dX11_knownWord_22 : decode cX11_knownWord 22 = .ok (.bipush 14, 2) := by decide +kernel
theorem dX11_knownWord_24 : decode cX11_knownWord 24 = .ok (.if_icmp .ge 23, 3) := by decide +kernel
theorem dX11_knownWord_27 : decode cX11_knownWord 27 = .ok (.iload_n 1, 1) := by decide +kernel
theorem dX11_knownWord_28 : decode cX11_knownWord 28 = .ok (.invokestatic 136, 3) := by decide +kernel
theorem dX11_knownWord_31 : decode cX11_knownWord 31 = .ok (.aload_n 0, 1) := by decide +kernel
theorem dX11_knownWord_32 : decode cX11_knownWord 32 = .ok (.getfield 107, 3) := by decide +kernel
theorem dX11_knownWord_35 : decode cX11_knownWord 35 = .ok (.lcmp, 1) := by decide +kernel
theorem dX11_knownWord_36 : decode cX11_knownWord 36 = .ok (.ifCond .ne 5, 3) := by decide +kernel
theorem dX11_knownWord_39 : decode cX11_knownWord 39 = .ok (.iload_n 1, 1) := by decide +kernel
theorem dX11_knownWord_40 : decode cX11_knownWord 40 = .ok (.ireturn, 1) := by decide +kernel
theorem dX11_knownWord_41 : decode cX11_knownWord 41 = .ok (.iinc 1 1, 3) := by decide +kernel
theorem dX11_knownWord_44 : decode cX11_knownWord 44 = .ok (.goto (-23), 3) := by decide +kernel
theorem dX11_knownWord_47 : decode cX11_knownWord 47 = .ok (.iconst (-1), 1) := by decide +kernel
theorem dX11_knownWord_48 : decode cX11_knownWord 48 = .ok (.ireturn, 1) := by decide +kernel
theorem dX11_wrong_0 : decode cX11_wrong 0 = .ok (.aload_n 0, 1) := by decide +kernel
theorem dX11_wrong_1 : decode cX11_wrong 1 = .ok (.getfield 140, 3) := by decide +kernel
theorem dX11_wrong_4 : decode cX11_wrong 4 = .ok (.ifCond .eq 4, 3) := by decide +kernel
theorem dX11_wrong_7 : decode cX11_wrong 7 = .ok (.return_, 1) := by decide +kernel
theorem dX11_wrong_8 : decode cX11_wrong 8 = .ok (.aload_n 0, 1) := by decide +kernel
theorem dX11_wrong_9 : decode cX11_wrong 9 = .ok (.iload_n 1, 1) := by decide +kernel
theorem dX11_wrong_10 : decode cX11_wrong 10 = .ok (.putfield 140, 3) := by decide +kernel
theorem dX11_wrong_13 : decode cX11_wrong 13 = .ok (.aload_n 0, 1) := by decide +kernel
theorem dX11_wrong_14 : decode cX11_wrong 14 = .ok (.aload_n 0, 1) := by decide +kernel
theorem dX11_wrong_15 : decode cX11_wrong 15 = .ok (.getfield 104, 3) := by decide +kernel
theorem dX11_wrong_18 : decode cX11_wrong 18 = .ok (.putfield 29, 3) := by decide +kernel
theorem dX11_wrong_21 : decode cX11_wrong 21 = .ok (.return_, 1) := by decide +kernel
theorem dX11_isGood_0 : decode cX11_isGood 0 = .ok (.aload_n 0, 1) := by decide +kernel
theorem dX11_isGood_1 : decode cX11_isGood 1 = .ok (.getfield 140, 3) := by decide +kernel
theorem dX11_isGood_4 : decode cX11_isGood 4 = .ok (.ifCond .ne 7, 3) := by decide +kernel
theorem dX11_isGood_7 : decode cX11_isGood 7 = .ok (.iconst 1, 1) := by decide +kernel
theorem dX11_isGood_8 : decode cX11_isGood 8 = .ok (.goto 4, 3) := by decide +kernel
theorem dX11_isGood_11 : decode cX11_isGood 11 = .ok (.iconst 0, 1) := by decide +kernel
theorem dX11_isGood_12 : decode cX11_isGood 12 = .ok (.ireturn, 1) := by decide +kernel
theorem dX11_isSign_0 : decode cX11_isSign 0 = .ok (.aload_n 0, 1) := by decide +kernel
theorem dX11_isSign_1 : decode cX11_isSign 1 = .ok (.getfield 117, 3) := by decide +kernel
theorem dX11_isSign_4 : decode cX11_isSign 4 = .ok (.iconst 3, 1) := by decide +kernel
theorem dX11_isSign_5 : decode cX11_isSign 5 = .ok (.if_icmp .ne 15, 3) := by decide +kernel
theorem dX11_isSign_8 : decode cX11_isSign 8 = .ok (.aload_n 0, 1) := by decide +kernel
theorem dX11_isSign_9 : decode cX11_isSign 9 = .ok (.getfield 114, 3) := by decide +kernel
theorem dX11_isSign_12 : decode cX11_isSign 12 = .ok (.iload_n 1, 1) := by decide +kernel
theorem dX11_isSign_13 : decode cX11_isSign 13 = .ok (.if_icmp .ne 7, 3) := by decide +kernel
theorem dX11_isSign_16 : decode cX11_isSign 16 = .ok (.iconst 1, 1) := by decide +kernel
theorem dX11_isSign_17 : decode cX11_isSign 17 = .ok (.goto 4, 3) := by decide +kernel
theorem dX11_isSign_20 : decode cX11_isSign 20 = .ok (.iconst 0, 1) := by decide +kernel
theorem dX11_isSign_21 : decode cX11_isSign 21 = .ok (.ireturn, 1) := by decide +kernel
theorem dX11_need_0 : decode cX11_need 0 = .ok (.aload_n 0, 1) := by decide +kernel
theorem dX11_need_1 : decode cX11_need 1 = .ok (.invokevirtual 143, 3) := by decide +kernel
theorem dX11_need_4 : decode cX11_need 4 = .ok (.ifCond .ne 4, 3) := by decide +kernel
theorem dX11_need_7 : decode cX11_need 7 = .ok (.return_, 1) := by decide +kernel
theorem dX11_need_8 : decode cX11_need 8 = .ok (.iload_n 1, 1) := by decide +kernel
theorem dX11_need_9 : decode cX11_need 9 = .ok (.ifCond .eq 10, 3) := by decide +kernel
theorem dX11_need_12 : decode cX11_need 12 = .ok (.aload_n 0, 1) := by decide +kernel
theorem dX11_need_13 : decode cX11_need 13 = .ok (.invokevirtual 147, 3) := by decide +kernel
theorem dX11_need_16 : decode cX11_need 16 = .ok (.goto 8, 3) := by decide +kernel
theorem dX11_need_19 : decode cX11_need 19 = .ok (.aload_n 0, 1) := by decide +kernel
theorem dX11_need_20 : decode cX11_need 20 = .ok (.iconst 1, 1) := by decide +kernel
theorem dX11_need_21 : decode cX11_need 21 = .ok (.invokevirtual 150, 3) := by decide +kernel
theorem dX11_need_24 : decode cX11_need 24 = .ok (.return_, 1) := by decide +kernel
theorem dX11_number_0 : decode cX11_number 0 = .ok (.aload_n 0, 1) := by decide +kernel
theorem dX11_number_1 : decode cX11_number 1 = .ok (.invokevirtual 143, 3) := by decide +kernel
theorem dX11_number_4 : decode cX11_number 4 = .ok (.ifCond .ne 5, 3) := by decide +kernel
theorem dX11_number_7 : decode cX11_number 7 = .ok (.iconst 0, 1) := by decide +kernel
theorem dX11_number_8 : decode cX11_number 8 = .ok (.ireturn, 1) := by decide +kernel
theorem dX11_number_9 : decode cX11_number 9 = .ok (.aload_n 0, 1) := by decide +kernel
theorem dX11_number_10 : decode cX11_number 10 = .ok (.getfield 117, 3) := by decide +kernel
theorem dX11_number_13 : decode cX11_number 13 = .ok (.iconst 2, 1) := by decide +kernel
theorem dX11_number_14 : decode cX11_number 14 = .ok (.if_icmp .eq 11, 3) := by decide +kernel
theorem dX11_number_17 : decode cX11_number 17 = .ok (.aload_n 0, 1) := by decide +kernel
theorem dX11_number_18 : decode cX11_number 18 = .ok (.iconst 1, 1) := by decide +kernel
theorem dX11_number_19 : decode cX11_number 19 = .ok (.invokevirtual 150, 3) := by decide +kernel
theorem dX11_number_22 : decode cX11_number 22 = .ok (.goto 32, 3) := by decide +kernel
theorem dX11_number_25 : decode cX11_number 25 = .ok (.aload_n 0, 1) := by decide +kernel
theorem dX11_number_26 : decode cX11_number 26 = .ok (.getfield 127, 3) := by decide +kernel
theorem dX11_number_29 : decode cX11_number 29 = .ok (.iconst 4, 1) := by decide +kernel
theorem dX11_number_30 : decode cX11_number 30 = .ok (.if_icmp .gt 19, 3) := by decide +kernel
theorem dX11_number_33 : decode cX11_number 33 = .ok (.aload_n 0, 1) := by decide +kernel
theorem dX11_number_34 : decode cX11_number 34 = .ok (.getfield 111, 3) := by decide +kernel
theorem dX11_number_37 : decode cX11_number 37 = .ok (.iload_n 1, 1) := by decide +kernel
theorem dX11_number_38 : decode cX11_number 38 = .ok (.if_icmp .lt 11, 3) := by decide +kernel
theorem dX11_number_41 : decode cX11_number 41 = .ok (.aload_n 0, 1) := by decide +kernel
theorem dX11_number_42 : decode cX11_number 42 = .ok (.getfield 111, 3) := by decide +kernel
theorem dX11_number_45 : decode cX11_number 45 = .ok (.iload_n 2, 1) := by decide +kernel
theorem dX11_number_46 : decode cX11_number 46 = .ok (.if_icmp .le 8, 3) := by decide +kernel
theorem dX11_number_49 : decode cX11_number 49 = .ok (.aload_n 0, 1) := by decide +kernel
theorem dX11_number_50 : decode cX11_number 50 = .ok (.iconst 2, 1) := by decide +kernel
theorem dX11_number_51 : decode cX11_number 51 = .ok (.invokevirtual 150, 3) := by decide +kernel
theorem dX11_number_54 : decode cX11_number 54 = .ok (.aload_n 0, 1) := by decide +kernel
theorem dX11_number_55 : decode cX11_number 55 = .ok (.getfield 111, 3) := by decide +kernel
theorem dX11_number_58 : decode cX11_number 58 = .ok (.istore_n 3, 1) := by decide +kernel
theorem dX11_number_59 : decode cX11_number 59 = .ok (.aload_n 0, 1) := by decide +kernel
theorem dX11_number_60 : decode cX11_number 60 = .ok (.invokevirtual 143, 3) := by decide +kernel
theorem dX11_number_63 : decode cX11_number 63 = .ok (.ifCond .eq 7, 3) := by decide +kernel
theorem dX11_number_66 : decode cX11_number 66 = .ok (.aload_n 0, 1) := by decide +kernel
theorem dX11_number_67 : decode cX11_number 67 = .ok (.invokevirtual 147, 3) := by decide +kernel
theorem dX11_number_70 : decode cX11_number 70 = .ok (.iload_n 3, 1) := by decide +kernel
theorem dX11_number_71 : decode cX11_number 71 = .ok (.ireturn, 1) := by decide +kernel
theorem dX11_puts_0 : decode cX11_puts 0 = .ok (.aload_n 0, 1) := by decide +kernel
theorem dX11_puts_1 : decode cX11_puts 1 = .ok (.getfield 41, 3) := by decide +kernel
theorem dX11_puts_4 : decode cX11_puts 4 = .ok (.aload_n 0, 1) := by decide +kernel
theorem dX11_puts_5 : decode cX11_puts 5 = .ok (.getfield 153, 3) := by decide +kernel
theorem dX11_puts_8 : decode cX11_puts 8 = .ok (.iload_n 1, 1) := by decide +kernel
theorem dX11_puts_9 : decode cX11_puts 9 = .ok (.iastore, 1) := by decide +kernel
theorem dX11_puts_10 : decode cX11_puts 10 = .ok (.aload_n 0, 1) := by decide +kernel
theorem dX11_puts_11 : decode cX11_puts 11 = .ok (.dup, 1) := by decide +kernel
theorem dX11_puts_12 : decode cX11_puts 12 = .ok (.getfield 153, 3) := by decide +kernel
theorem dX11_puts_15 : decode cX11_puts 15 = .ok (.iconst 1, 1) := by decide +kernel
theorem dX11_puts_16 : decode cX11_puts 16 = .ok (.iadd, 1) := by decide +kernel
theorem dX11_puts_17 : decode cX11_puts 17 = .ok (.putfield 153, 3) := by decide +kernel
theorem dX11_puts_20 : decode cX11_puts 20 = .ok (.return_, 1) := by decide +kernel
theorem dX11_isOpen_0 : decode cX11_isOpen 0 = .ok (.iload_n 0, 1) := by decide +kernel
theorem dX11_isOpen_1 : decode cX11_isOpen 1 = .ok (.bipush 14, 2) := by decide +kernel
theorem dX11_isOpen_3 : decode cX11_isOpen 3 = .ok (.if_icmp .lt 7, 3) := by decide +kernel
theorem dX11_isOpen_6 : decode cX11_isOpen 6 = .ok (.iconst 1, 1) := by decide +kernel
theorem dX11_isOpen_7 : decode cX11_isOpen 7 = .ok (.goto 4, 3) := by decide +kernel
theorem dX11_isOpen_10 : decode cX11_isOpen 10 = .ok (.iconst 0, 1) := by decide +kernel
theorem dX11_isOpen_11 : decode cX11_isOpen 11 = .ok (.ireturn, 1) := by decide +kernel
theorem dX11_strength_0 : decode cX11_strength 0 = .ok (.iload_n 0, 1) := by decide +kernel
theorem dX11_strength_1 : decode cX11_strength 1 = .ok (.iconst 5, 1) := by decide +kernel
theorem dX11_strength_2 : decode cX11_strength 2 = .ok (.if_icmp .ne 7, 3) := by decide +kernel
theorem dX11_strength_5 : decode cX11_strength 5 = .ok (.iconst 1, 1) := by decide +kernel
theorem dX11_strength_6 : decode cX11_strength 6 = .ok (.goto 55, 3) := by decide +kernel
theorem dX11_strength_9 : decode cX11_strength 9 = .ok (.iload_n 0, 1) := by decide +kernel
theorem dX11_strength_10 : decode cX11_strength 10 = .ok (.iconst 4, 1) := by decide +kernel
theorem dX11_strength_11 : decode cX11_strength 11 = .ok (.if_icmp .ne 7, 3) := by decide +kernel
theorem dX11_strength_14 : decode cX11_strength 14 = .ok (.iconst 2, 1) := by decide +kernel
theorem dX11_strength_15 : decode cX11_strength 15 = .ok (.goto 46, 3) := by decide +kernel
theorem dX11_strength_18 : decode cX11_strength 18 = .ok (.iload_n 0, 1) := by decide +kernel
theorem dX11_strength_19 : decode cX11_strength 19 = .ok (.iconst 3, 1) := by decide +kernel
theorem dX11_strength_20 : decode cX11_strength 20 = .ok (.if_icmp .ne 7, 3) := by decide +kernel
theorem dX11_strength_23 : decode cX11_strength 23 = .ok (.iconst 3, 1) := by decide +kernel
theorem dX11_strength_24 : decode cX11_strength 24 = .ok (.goto 37, 3) := by decide +kernel
theorem dX11_strength_27 : decode cX11_strength 27 = .ok (.iload_n 0, 1) := by decide +kernel
theorem dX11_strength_28 : decode cX11_strength 28 = .ok (.bipush 6, 2) := by decide +kernel
theorem dX11_strength_30 : decode cX11_strength 30 = .ok (.if_icmp .eq 9, 3) := by decide +kernel
theorem dX11_strength_33 : decode cX11_strength 33 = .ok (.iload_n 0, 1) := by decide +kernel
theorem dX11_strength_34 : decode cX11_strength 34 = .ok (.bipush 7, 2) := by decide +kernel
theorem dX11_strength_36 : decode cX11_strength 36 = .ok (.if_icmp .ne 7, 3) := by decide +kernel
theorem dX11_strength_39 : decode cX11_strength 39 = .ok (.iconst 4, 1) := by decide +kernel
theorem dX11_strength_40 : decode cX11_strength 40 = .ok (.goto 21, 3) := by decide +kernel
theorem dX11_strength_43 : decode cX11_strength 43 = .ok (.iload_n 0, 1) := by decide +kernel
theorem dX11_strength_44 : decode cX11_strength 44 = .ok (.bipush 8, 2) := by decide +kernel
theorem dX11_strength_46 : decode cX11_strength 46 = .ok (.if_icmp .eq 9, 3) := by decide +kernel
theorem dX11_strength_49 : decode cX11_strength 49 = .ok (.iload_n 0, 1) := by decide +kernel
theorem dX11_strength_50 : decode cX11_strength 50 = .ok (.bipush 9, 2) := by decide +kernel
theorem dX11_strength_52 : decode cX11_strength 52 = .ok (.if_icmp .ne 7, 3) := by decide +kernel
theorem dX11_strength_55 : decode cX11_strength 55 = .ok (.iconst 5, 1) := by decide +kernel
theorem dX11_strength_56 : decode cX11_strength 56 = .ok (.goto 5, 3) := by decide +kernel
theorem dX11_strength_59 : decode cX11_strength 59 = .ok (.bipush 6, 2) := by decide +kernel
theorem dX11_strength_61 : decode cX11_strength 61 = .ok (.ireturn, 1) := by decide +kernel
theorem dX11_drops_0 : decode cX11_drops 0 = .ok (.aload_n 0, 1) := by decide +kernel
theorem dX11_drops_1 : decode cX11_drops 1 = .ok (.getfield 156, 3) := by decide +kernel
theorem dX11_drops_4 : decode cX11_drops 4 = .ok (.ifCond .le 64, 3) := by decide +kernel
theorem dX11_drops_7 : decode cX11_drops 7 = .ok (.aload_n 0, 1) := by decide +kernel
theorem dX11_drops_8 : decode cX11_drops 8 = .ok (.getfield 44, 3) := by decide +kernel
theorem dX11_drops_11 : decode cX11_drops 11 = .ok (.aload_n 0, 1) := by decide +kernel
theorem dX11_drops_12 : decode cX11_drops 12 = .ok (.getfield 156, 3) := by decide +kernel
theorem dX11_drops_15 : decode cX11_drops 15 = .ok (.iconst 1, 1) := by decide +kernel
theorem dX11_drops_16 : decode cX11_drops 16 = .ok (.isub, 1) := by decide +kernel
theorem dX11_drops_17 : decode cX11_drops 17 = .ok (.iaload, 1) := by decide +kernel
theorem dX11_drops_18 : decode cX11_drops 18 = .ok (.invokestatic 159, 3) := by decide +kernel
theorem dX11_drops_21 : decode cX11_drops 21 = .ok (.ifCond .ne 47, 3) := by decide +kernel
theorem dX11_drops_24 : decode cX11_drops 24 = .ok (.aload_n 0, 1) := by decide +kernel
theorem dX11_drops_25 : decode cX11_drops 25 = .ok (.getfield 44, 3) := by decide +kernel
theorem dX11_drops_28 : decode cX11_drops 28 = .ok (.aload_n 0, 1) := by decide +kernel
theorem dX11_drops_29 : decode cX11_drops 29 = .ok (.getfield 156, 3) := by decide +kernel
theorem dX11_drops_32 : decode cX11_drops 32 = .ok (.iconst 1, 1) := by decide +kernel
theorem dX11_drops_33 : decode cX11_drops 33 = .ok (.isub, 1) := by decide +kernel
theorem dX11_drops_34 : decode cX11_drops 34 = .ok (.iaload, 1) := by decide +kernel
theorem dX11_drops_35 : decode cX11_drops 35 = .ok (.invokestatic 162, 3) := by decide +kernel
theorem dX11_drops_38 : decode cX11_drops 38 = .ok (.iload_n 1, 1) := by decide +kernel
theorem dX11_drops_39 : decode cX11_drops 39 = .ok (.if_icmp .lt 29, 3) := by decide +kernel
theorem dX11_drops_42 : decode cX11_drops 42 = .ok (.aload_n 0, 1) := by decide +kernel
theorem dX11_drops_43 : decode cX11_drops 43 = .ok (.dup, 1) := by decide +kernel
theorem dX11_drops_44 : decode cX11_drops 44 = .ok (.getfield 156, 3) := by decide +kernel
theorem dX11_drops_47 : decode cX11_drops 47 = .ok (.iconst 1, 1) := by decide +kernel
theorem dX11_drops_48 : decode cX11_drops 48 = .ok (.isub, 1) := by decide +kernel
theorem dX11_drops_49 : decode cX11_drops 49 = .ok (.putfield 156, 3) := by decide +kernel
theorem dX11_drops_52 : decode cX11_drops 52 = .ok (.aload_n 0, 1) := by decide +kernel
theorem dX11_drops_53 : decode cX11_drops 53 = .ok (.aload_n 0, 1) := by decide +kernel
theorem dX11_drops_54 : decode cX11_drops 54 = .ok (.getfield 44, 3) := by decide +kernel
theorem dX11_drops_57 : decode cX11_drops 57 = .ok (.aload_n 0, 1) := by decide +kernel
theorem dX11_drops_58 : decode cX11_drops 58 = .ok (.getfield 156, 3) := by decide +kernel
theorem dX11_drops_61 : decode cX11_drops 61 = .ok (.iaload, 1) := by decide +kernel
theorem dX11_drops_62 : decode cX11_drops 62 = .ok (.invokevirtual 165, 3) := by decide +kernel
theorem dX11_drops_65 : decode cX11_drops 65 = .ok (.goto (-65), 3) := by decide +kernel
theorem dX11_drops_68 : decode cX11_drops 68 = .ok (.return_, 1) := by decide +kernel
theorem dX11_waitsFor_0 : decode cX11_waitsFor 0 = .ok (.aload_n 0, 1) := by decide +kernel
theorem dX11_waitsFor_1 : decode cX11_waitsFor 1 = .ok (.getfield 44, 3) := by decide +kernel
theorem dX11_waitsFor_4 : decode cX11_waitsFor 4 = .ok (.aload_n 0, 1) := by decide +kernel
theorem dX11_waitsFor_5 : decode cX11_waitsFor 5 = .ok (.getfield 156, 3) := by decide +kernel
theorem dX11_waitsFor_8 : decode cX11_waitsFor 8 = .ok (.iload_n 1, 1) := by decide +kernel
theorem dX11_waitsFor_9 : decode cX11_waitsFor 9 = .ok (.iastore, 1) := by decide +kernel
theorem dX11_waitsFor_10 : decode cX11_waitsFor 10 = .ok (.aload_n 0, 1) := by decide +kernel
theorem dX11_waitsFor_11 : decode cX11_waitsFor 11 = .ok (.dup, 1) := by decide +kernel
theorem dX11_waitsFor_12 : decode cX11_waitsFor 12 = .ok (.getfield 156, 3) := by decide +kernel
theorem dX11_waitsFor_15 : decode cX11_waitsFor 15 = .ok (.iconst 1, 1) := by decide +kernel
theorem dX11_waitsFor_16 : decode cX11_waitsFor 16 = .ok (.iadd, 1) := by decide +kernel
theorem dX11_waitsFor_17 : decode cX11_waitsFor 17 = .ok (.putfield 156, 3) := by decide +kernel
theorem dX11_waitsFor_20 : decode cX11_waitsFor 20 = .ok (.return_, 1) := by decide +kernel
theorem dX11_part_0 : decode cX11_part 0 = .ok (.aload_n 0, 1) := by decide +kernel
theorem dX11_part_1 : decode cX11_part 1 = .ok (.invokevirtual 143, 3) := by decide +kernel
theorem dX11_part_4 : decode cX11_part 4 = .ok (.ifCond .ne 4, 3) := by decide +kernel
theorem dX11_part_7 : decode cX11_part 7 = .ok (.return_, 1) := by decide +kernel
theorem dX11_part_8 : decode cX11_part 8 = .ok (.aload_n 0, 1) := by decide +kernel
theorem dX11_part_9 : decode cX11_part 9 = .ok (.getfield 117, 3) := by decide +kernel
theorem dX11_part_12 : decode cX11_part 12 = .ok (.iconst 2, 1) := by decide +kernel
theorem dX11_part_13 : decode cX11_part 13 = .ok (.if_icmp .ne 32, 3) := by decide +kernel
theorem dX11_part_16 : decode cX11_part 16 = .ok (.aload_n 0, 1) := by decide +kernel
theorem dX11_part_17 : decode cX11_part 17 = .ok (.getfield 127, 3) := by decide +kernel
theorem dX11_part_20 : decode cX11_part 20 = .ok (.iconst 4, 1) := by decide +kernel
theorem dX11_part_21 : decode cX11_part 21 = .ok (.if_icmp .le 8, 3) := by decide +kernel
theorem dX11_part_24 : decode cX11_part 24 = .ok (.aload_n 0, 1) := by decide +kernel
theorem dX11_part_25 : decode cX11_part 25 = .ok (.iconst 2, 1) := by decide +kernel
theorem dX11_part_26 : decode cX11_part 26 = .ok (.invokevirtual 150, 3) := by decide +kernel
theorem dX11_part_29 : decode cX11_part 29 = .ok (.aload_n 0, 1) := by decide +kernel
theorem dX11_part_30 : decode cX11_part 30 = .ok (.iconst 1, 1) := by decide +kernel
theorem dX11_part_31 : decode cX11_part 31 = .ok (.invokevirtual 165, 3) := by decide +kernel
theorem dX11_part_34 : decode cX11_part 34 = .ok (.aload_n 0, 1) := by decide +kernel
theorem dX11_part_35 : decode cX11_part 35 = .ok (.aload_n 0, 1) := by decide +kernel
theorem dX11_part_36 : decode cX11_part 36 = .ok (.getfield 111, 3) := by decide +kernel
theorem dX11_part_39 : decode cX11_part 39 = .ok (.invokevirtual 165, 3) := by decide +kernel
theorem dX11_part_42 : decode cX11_part 42 = .ok (.goto 48, 3) := by decide +kernel
theorem dX11_part_45 : decode cX11_part 45 = .ok (.aload_n 0, 1) := by decide +kernel
theorem dX11_part_46 : decode cX11_part 46 = .ok (.getfield 117, 3) := by decide +kernel
theorem dX11_part_49 : decode cX11_part 49 = .ok (.iconst 1, 1) := by decide +kernel
theorem dX11_part_50 : decode cX11_part 50 = .ok (.if_icmp .ne 35, 3) := by decide +kernel
theorem dX11_part_53 : decode cX11_part 53 = .ok (.aload_n 0, 1) := by decide +kernel
theorem dX11_part_54 : decode cX11_part 54 = .ok (.invokevirtual 168, 3) := by decide +kernel
theorem dX11_part_57 : decode cX11_part 57 = .ok (.istore_n 1, 1) := by decide +kernel
theorem dX11_part_58 : decode cX11_part 58 = .ok (.iload_n 1, 1) := by decide +kernel
theorem dX11_part_59 : decode cX11_part 59 = .ok (.ifCond .lt 8, 3) := by decide +kernel
theorem dX11_part_62 : decode cX11_part 62 = .ok (.iload_n 1, 1) := by decide +kernel
theorem dX11_part_63 : decode cX11_part 63 = .ok (.iconst 5, 1) := by decide +kernel
theorem dX11_part_64 : decode cX11_part 64 = .ok (.if_icmp .le 8, 3) := by decide +kernel
theorem dX11_part_67 : decode cX11_part 67 = .ok (.aload_n 0, 1) := by decide +kernel
theorem dX11_part_68 : decode cX11_part 68 = .ok (.iconst 3, 1) := by decide +kernel
theorem dX11_part_69 : decode cX11_part 69 = .ok (.invokevirtual 150, 3) := by decide +kernel
theorem dX11_part_72 : decode cX11_part 72 = .ok (.aload_n 0, 1) := by decide +kernel
theorem dX11_part_73 : decode cX11_part 73 = .ok (.iconst 2, 1) := by decide +kernel
theorem dX11_part_74 : decode cX11_part 74 = .ok (.invokevirtual 165, 3) := by decide +kernel
theorem dX11_part_77 : decode cX11_part 77 = .ok (.aload_n 0, 1) := by decide +kernel
theorem dX11_part_78 : decode cX11_part 78 = .ok (.iload_n 1, 1) := by decide +kernel
theorem dX11_part_79 : decode cX11_part 79 = .ok (.invokevirtual 165, 3) := by decide +kernel
theorem dX11_part_82 : decode cX11_part 82 = .ok (.goto 8, 3) := by decide +kernel
theorem dX11_part_85 : decode cX11_part 85 = .ok (.aload_n 0, 1) := by decide +kernel
theorem dX11_part_86 : decode cX11_part 86 = .ok (.iconst 1, 1) := by decide +kernel
theorem dX11_part_87 : decode cX11_part 87 = .ok (.invokevirtual 150, 3) := by decide +kernel
theorem dX11_part_90 : decode cX11_part 90 = .ok (.aload_n 0, 1) := by decide +kernel
theorem dX11_part_91 : decode cX11_part 91 = .ok (.invokevirtual 143, 3) := by decide +kernel
theorem dX11_part_94 : decode cX11_part 94 = .ok (.ifCond .eq 7, 3) := by decide +kernel
theorem dX11_part_97 : decode cX11_part 97 = .ok (.aload_n 0, 1) := by decide +kernel
theorem dX11_part_98 : decode cX11_part 98 = .ok (.invokevirtual 147, 3) := by decide +kernel
theorem dX11_part_101 : decode cX11_part 101 = .ok (.return_, 1) := by decide +kernel
theorem dX11_deeper_0 : decode cX11_deeper 0 = .ok (.aload_n 0, 1) := by decide +kernel
theorem dX11_deeper_1 : decode cX11_deeper 1 = .ok (.getfield 172, 3) := by decide +kernel
theorem dX11_deeper_4 : decode cX11_deeper 4 = .ok (.bipush 6, 2) := by decide +kernel
theorem dX11_deeper_6 : decode cX11_deeper 6 = .ok (.if_icmp .ge 24, 3) := by decide +kernel
theorem dX11_deeper_9 : decode cX11_deeper 9 = .ok (.aload_n 0, 1) := by decide +kernel
theorem dX11_deeper_10 : decode cX11_deeper 10 = .ok (.dup, 1) := by decide +kernel
theorem dX11_deeper_11 : decode cX11_deeper 11 = .ok (.getfield 172, 3) := by decide +kernel
theorem dX11_deeper_14 : decode cX11_deeper 14 = .ok (.iconst 1, 1) := by decide +kernel
theorem dX11_deeper_15 : decode cX11_deeper 15 = .ok (.iadd, 1) := by decide +kernel
theorem dX11_deeper_16 : decode cX11_deeper 16 = .ok (.putfield 172, 3) := by decide +kernel
theorem dX11_deeper_19 : decode cX11_deeper 19 = .ok (.aload_n 0, 1) := by decide +kernel
theorem dX11_deeper_20 : decode cX11_deeper 20 = .ok (.getfield 47, 3) := by decide +kernel
theorem dX11_deeper_23 : decode cX11_deeper 23 = .ok (.aload_n 0, 1) := by decide +kernel
theorem dX11_deeper_24 : decode cX11_deeper 24 = .ok (.getfield 172, 3) := by decide +kernel
theorem dX11_deeper_27 : decode cX11_deeper 27 = .ok (.iconst 0, 1) := by decide +kernel
theorem dX11_deeper_28 : decode cX11_deeper 28 = .ok (.bastore, 1) := by decide +kernel
theorem dX11_deeper_29 : decode cX11_deeper 29 = .ok (.return_, 1) := by decide +kernel
theorem dX11_deeper_30 : decode cX11_deeper 30 = .ok (.aload_n 0, 1) := by decide +kernel
theorem dX11_deeper_31 : decode cX11_deeper 31 = .ok (.aload_n 0, 1) := by decide +kernel
theorem dX11_deeper_32 : decode cX11_deeper 32 = .ok (.getfield 117, 3) := by decide +kernel
theorem dX11_deeper_35 : decode cX11_deeper 35 = .ok (.iconst 2, 1) := by decide +kernel
theorem dX11_deeper_36 : decode cX11_deeper 36 = .ok (.if_icmp .eq 20, 3) := by decide +kernel
theorem dX11_deeper_39 : decode cX11_deeper 39 = .ok (.aload_n 0, 1) := by decide +kernel
theorem dX11_deeper_40 : decode cX11_deeper 40 = .ok (.getfield 117, 3) := by decide +kernel
theorem dX11_deeper_43 : decode cX11_deeper 43 = .ok (.iconst 1, 1) := by decide +kernel
theorem dX11_deeper_44 : decode cX11_deeper 44 = .ok (.if_icmp .eq 12, 3) := by decide +kernel
theorem dX11_deeper_47 : decode cX11_deeper 47 = .ok (.aload_n 0, 1) := by decide +kernel
theorem dX11_deeper_48 : decode cX11_deeper 48 = .ok (.bipush 40, 2) := by decide +kernel
theorem dX11_deeper_50 : decode cX11_deeper 50 = .ok (.invokevirtual 175, 3) := by decide +kernel
theorem dX11_deeper_53 : decode cX11_deeper 53 = .ok (.ifCond .eq 7, 3) := by decide +kernel
theorem dX11_deeper_56 : decode cX11_deeper 56 = .ok (.iconst 2, 1) := by decide +kernel
theorem dX11_deeper_57 : decode cX11_deeper 57 = .ok (.goto 4, 3) := by decide +kernel
theorem dX11_deeper_60 : decode cX11_deeper 60 = .ok (.iconst 1, 1) := by decide +kernel
theorem dX11_deeper_61 : decode cX11_deeper 61 = .ok (.invokevirtual 150, 3) := by decide +kernel
theorem dX11_deeper_64 : decode cX11_deeper 64 = .ok (.return_, 1) := by decide +kernel
theorem dX11_operand_0 : decode cX11_operand 0 = .ok (.iload_n 1, 1) := by decide +kernel
theorem dX11_operand_1 : decode cX11_operand 1 = .ok (.istore_n 2, 1) := by decide +kernel
theorem dX11_operand_2 : decode cX11_operand 2 = .ok (.iconst 1, 1) := by decide +kernel
theorem dX11_operand_3 : decode cX11_operand 3 = .ok (.istore_n 3, 1) := by decide +kernel
theorem dX11_operand_4 : decode cX11_operand 4 = .ok (.iload_n 3, 1) := by decide +kernel
theorem dX11_operand_5 : decode cX11_operand 5 = .ok (.ifCond .eq 115, 3) := by decide +kernel
theorem dX11_operand_8 : decode cX11_operand 8 = .ok (.aload_n 0, 1) := by decide +kernel
theorem dX11_operand_9 : decode cX11_operand 9 = .ok (.invokevirtual 143, 3) := by decide +kernel
theorem dX11_operand_12 : decode cX11_operand 12 = .ok (.ifCond .eq 108, 3) := by decide +kernel
theorem dX11_operand_15 : decode cX11_operand 15 = .ok (.iconst 0, 1) := by decide +kernel
theorem dX11_operand_16 : decode cX11_operand 16 = .ok (.istore 4, 2) := by decide +kernel
theorem dX11_operand_18 : decode cX11_operand 18 = .ok (.aload_n 0, 1) := by decide +kernel
theorem dX11_operand_19 : decode cX11_operand 19 = .ok (.invokevirtual 143, 3) := by decide +kernel
theorem dX11_operand_22 : decode cX11_operand 22 = .ok (.ifCond .eq 53, 3) := by decide +kernel
theorem dX11_operand_25 : decode cX11_operand 25 = .ok (.iload_n 2, 1) := by decide +kernel
theorem dX11_operand_26 : decode cX11_operand 26 = .ok (.ifCond .eq 49, 3) := by decide +kernel
theorem dX11_operand_29 : decode cX11_operand 29 = .ok (.aload_n 0, 1) := by decide +kernel
theorem dX11_operand_30 : decode cX11_operand 30 = .ok (.invokevirtual 168, 3) := by decide +kernel
theorem dX11_operand_33 : decode cX11_operand 33 = .ok (.bipush 13, 2) := by decide +kernel
theorem dX11_operand_35 : decode cX11_operand 35 = .ok (.if_icmp .ne 40, 3) := by decide +kernel
theorem dX11_operand_38 : decode cX11_operand 38 = .ok (.iload 4, 2) := by decide +kernel
theorem dX11_operand_40 : decode cX11_operand 40 = .ok (.bipush 6, 2) := by decide +kernel
theorem dX11_operand_42 : decode cX11_operand 42 = .ok (.if_icmp .ne 8, 3) := by decide +kernel
theorem dX11_operand_45 : decode cX11_operand 45 = .ok (.aload_n 0, 1) := by decide +kernel
theorem dX11_operand_46 : decode cX11_operand 46 = .ok (.iconst 2, 1) := by decide +kernel
theorem dX11_operand_47 : decode cX11_operand 47 = .ok (.invokevirtual 150, 3) := by decide +kernel
theorem dX11_operand_50 : decode cX11_operand 50 = .ok (.iinc 4 1, 3) := by decide +kernel
theorem dX11_operand_53 : decode cX11_operand 53 = .ok (.aload_n 0, 1) := by decide +kernel
theorem dX11_operand_54 : decode cX11_operand 54 = .ok (.invokevirtual 143, 3) := by decide +kernel
theorem dX11_operand_57 : decode cX11_operand 57 = .ok (.ifCond .ne 6, 3) := by decide +kernel
theorem dX11_operand_60 : decode cX11_operand 60 = .ok (.goto (-42), 3) := by decide +kernel
theorem dX11_operand_63 : decode cX11_operand 63 = .ok (.aload_n 0, 1) := by decide +kernel
theorem dX11_operand_64 : decode cX11_operand 64 = .ok (.iconst 3, 1) := by decide +kernel
theorem dX11_operand_65 : decode cX11_operand 65 = .ok (.invokevirtual 178, 3) := by decide +kernel
theorem dX11_operand_68 : decode cX11_operand 68 = .ok (.aload_n 0, 1) := by decide +kernel
theorem dX11_operand_69 : decode cX11_operand 69 = .ok (.invokevirtual 147, 3) := by decide +kernel
theorem dX11_operand_72 : decode cX11_operand 72 = .ok (.goto (-54), 3) := by decide +kernel
theorem dX11_operand_75 : decode cX11_operand 75 = .ok (.aload_n 0, 1) := by decide +kernel
theorem dX11_operand_76 : decode cX11_operand 76 = .ok (.invokevirtual 143, 3) := by decide +kernel
theorem dX11_operand_79 : decode cX11_operand 79 = .ok (.ifCond .eq 16, 3) := by decide +kernel
theorem dX11_operand_82 : decode cX11_operand 82 = .ok (.aload_n 0, 1) := by decide +kernel
theorem dX11_operand_83 : decode cX11_operand 83 = .ok (.bipush 40, 2) := by decide +kernel
theorem dX11_operand_85 : decode cX11_operand 85 = .ok (.invokevirtual 175, 3) := by decide +kernel
theorem dX11_operand_88 : decode cX11_operand 88 = .ok (.ifCond .eq 7, 3) := by decide +kernel
theorem dX11_operand_91 : decode cX11_operand 91 = .ok (.iconst 1, 1) := by decide +kernel
theorem dX11_operand_92 : decode cX11_operand 92 = .ok (.goto 4, 3) := by decide +kernel
theorem dX11_operand_95 : decode cX11_operand 95 = .ok (.iconst 0, 1) := by decide +kernel
theorem dX11_operand_96 : decode cX11_operand 96 = .ok (.istore_n 3, 1) := by decide +kernel
theorem dX11_operand_97 : decode cX11_operand 97 = .ok (.iload_n 3, 1) := by decide +kernel
theorem dX11_operand_98 : decode cX11_operand 98 = .ok (.ifCond .eq 19, 3) := by decide +kernel
theorem dX11_operand_101 : decode cX11_operand 101 = .ok (.aload_n 0, 1) := by decide +kernel
theorem dX11_operand_102 : decode cX11_operand 102 = .ok (.bipush 14, 2) := by decide +kernel
theorem dX11_operand_104 : decode cX11_operand 104 = .ok (.invokevirtual 178, 3) := by decide +kernel
theorem dX11_operand_107 : decode cX11_operand 107 = .ok (.aload_n 0, 1) := by decide +kernel
theorem dX11_operand_108 : decode cX11_operand 108 = .ok (.invokevirtual 147, 3) := by decide +kernel
theorem dX11_operand_111 : decode cX11_operand 111 = .ok (.aload_n 0, 1) := by decide +kernel
theorem dX11_operand_112 : decode cX11_operand 112 = .ok (.invokevirtual 181, 3) := by decide +kernel
theorem dX11_operand_115 : decode cX11_operand 115 = .ok (.iconst 1, 1) := by decide +kernel
theorem dX11_operand_116 : decode cX11_operand 116 = .ok (.istore_n 2, 1) := by decide +kernel
theorem dX11_operand_117 : decode cX11_operand 117 = .ok (.goto (-113), 3) := by decide +kernel
theorem dX11_operand_120 : decode cX11_operand 120 = .ok (.aload_n 0, 1) := by decide +kernel
theorem dX11_operand_121 : decode cX11_operand 121 = .ok (.invokevirtual 184, 3) := by decide +kernel
theorem dX11_operand_124 : decode cX11_operand 124 = .ok (.return_, 1) := by decide +kernel
theorem dX11_isOpened_0 : decode cX11_isOpened 0 = .ok (.aload_n 0, 1) := by decide +kernel
theorem dX11_isOpened_1 : decode cX11_isOpened 1 = .ok (.getfield 156, 3) := by decide +kernel
theorem dX11_isOpened_4 : decode cX11_isOpened 4 = .ok (.iconst 1, 1) := by decide +kernel
theorem dX11_isOpened_5 : decode cX11_isOpened 5 = .ok (.isub, 1) := by decide +kernel
theorem dX11_isOpened_6 : decode cX11_isOpened 6 = .ok (.istore_n 1, 1) := by decide +kernel
theorem dX11_isOpened_7 : decode cX11_isOpened 7 = .ok (.iload_n 1, 1) := by decide +kernel
theorem dX11_isOpened_8 : decode cX11_isOpened 8 = .ok (.ifCond .lt 21, 3) := by decide +kernel
theorem dX11_isOpened_11 : decode cX11_isOpened 11 = .ok (.aload_n 0, 1) := by decide +kernel
theorem dX11_isOpened_12 : decode cX11_isOpened 12 = .ok (.getfield 44, 3) := by decide +kernel
theorem dX11_isOpened_15 : decode cX11_isOpened 15 = .ok (.iload_n 1, 1) := by decide +kernel
theorem dX11_isOpened_16 : decode cX11_isOpened 16 = .ok (.iaload, 1) := by decide +kernel
theorem dX11_isOpened_17 : decode cX11_isOpened 17 = .ok (.invokestatic 159, 3) := by decide +kernel
theorem dX11_isOpened_20 : decode cX11_isOpened 20 = .ok (.ifCond .ne 9, 3) := by decide +kernel
theorem dX11_isOpened_23 : decode cX11_isOpened 23 = .ok (.iinc 1 (-1), 3) := by decide +kernel
theorem dX11_isOpened_26 : decode cX11_isOpened 26 = .ok (.goto (-19), 3) := by decide +kernel
theorem dX11_isOpened_29 : decode cX11_isOpened 29 = .ok (.iload_n 1, 1) := by decide +kernel
theorem dX11_isOpened_30 : decode cX11_isOpened 30 = .ok (.ifCond .lt 7, 3) := by decide +kernel
theorem dX11_isOpened_33 : decode cX11_isOpened 33 = .ok (.iconst 1, 1) := by decide +kernel
theorem dX11_isOpened_34 : decode cX11_isOpened 34 = .ok (.goto 4, 3) := by decide +kernel
theorem dX11_isOpened_37 : decode cX11_isOpened 37 = .ok (.iconst 0, 1) := by decide +kernel
theorem dX11_isOpened_38 : decode cX11_isOpened 38 = .ok (.ireturn, 1) := by decide +kernel
theorem dX11_closes_0 : decode cX11_closes 0 = .ok (.aload_n 0, 1) := by decide +kernel
theorem dX11_closes_1 : decode cX11_closes 1 = .ok (.iconst 0, 1) := by decide +kernel
theorem dX11_closes_2 : decode cX11_closes 2 = .ok (.invokevirtual 187, 3) := by decide +kernel
theorem dX11_closes_5 : decode cX11_closes 5 = .ok (.aload_n 0, 1) := by decide +kernel
theorem dX11_closes_6 : decode cX11_closes 6 = .ok (.dup, 1) := by decide +kernel
theorem dX11_closes_7 : decode cX11_closes 7 = .ok (.getfield 156, 3) := by decide +kernel
theorem dX11_closes_10 : decode cX11_closes 10 = .ok (.iconst 1, 1) := by decide +kernel
theorem dX11_closes_11 : decode cX11_closes 11 = .ok (.isub, 1) := by decide +kernel
theorem dX11_closes_12 : decode cX11_closes 12 = .ok (.putfield 156, 3) := by decide +kernel
theorem dX11_closes_15 : decode cX11_closes 15 = .ok (.aload_n 0, 1) := by decide +kernel
theorem dX11_closes_16 : decode cX11_closes 16 = .ok (.dup, 1) := by decide +kernel
theorem dX11_closes_17 : decode cX11_closes 17 = .ok (.getfield 172, 3) := by decide +kernel
theorem dX11_closes_20 : decode cX11_closes 20 = .ok (.iconst 1, 1) := by decide +kernel
theorem dX11_closes_21 : decode cX11_closes 21 = .ok (.isub, 1) := by decide +kernel
theorem dX11_closes_22 : decode cX11_closes 22 = .ok (.putfield 172, 3) := by decide +kernel
theorem dX11_closes_25 : decode cX11_closes 25 = .ok (.aload_n 0, 1) := by decide +kernel
theorem dX11_closes_26 : decode cX11_closes 26 = .ok (.invokevirtual 147, 3) := by decide +kernel
theorem dX11_closes_29 : decode cX11_closes 29 = .ok (.return_, 1) := by decide +kernel
theorem dX11_expression_0 : decode cX11_expression 0 = .ok (.aload_n 0, 1) := by decide +kernel
theorem dX11_expression_1 : decode cX11_expression 1 = .ok (.invokevirtual 143, 3) := by decide +kernel
theorem dX11_expression_4 : decode cX11_expression 4 = .ok (.ifCond .ne 4, 3) := by decide +kernel
theorem dX11_expression_7 : decode cX11_expression 7 = .ok (.return_, 1) := by decide +kernel
theorem dX11_expression_8 : decode cX11_expression 8 = .ok (.aload_n 0, 1) := by decide +kernel
theorem dX11_expression_9 : decode cX11_expression 9 = .ok (.iconst 0, 1) := by decide +kernel
theorem dX11_expression_10 : decode cX11_expression 10 = .ok (.putfield 156, 3) := by decide +kernel
theorem dX11_expression_13 : decode cX11_expression 13 = .ok (.aload_n 0, 1) := by decide +kernel
theorem dX11_expression_14 : decode cX11_expression 14 = .ok (.iconst 0, 1) := by decide +kernel
theorem dX11_expression_15 : decode cX11_expression 15 = .ok (.putfield 172, 3) := by decide +kernel
theorem dX11_expression_18 : decode cX11_expression 18 = .ok (.aload_n 0, 1) := by decide +kernel
theorem dX11_expression_19 : decode cX11_expression 19 = .ok (.invokevirtual 181, 3) := by decide +kernel
theorem dX11_expression_22 : decode cX11_expression 22 = .ok (.aload_n 0, 1) := by decide +kernel
theorem dX11_expression_23 : decode cX11_expression 23 = .ok (.iconst 1, 1) := by decide +kernel
theorem dX11_expression_24 : decode cX11_expression 24 = .ok (.invokevirtual 190, 3) := by decide +kernel
theorem dX11_expression_27 : decode cX11_expression 27 = .ok (.iconst 1, 1) := by decide +kernel
theorem dX11_expression_28 : decode cX11_expression 28 = .ok (.istore_n 1, 1) := by decide +kernel
theorem dX11_expression_29 : decode cX11_expression 29 = .ok (.iload_n 1, 1) := by decide +kernel
theorem dX11_expression_30 : decode cX11_expression 30 = .ok (.ifCond .eq 295, 3) := by decide +kernel
theorem dX11_expression_33 : decode cX11_expression 33 = .ok (.aload_n 0, 1) := by decide +kernel
theorem dX11_expression_34 : decode cX11_expression 34 = .ok (.invokevirtual 143, 3) := by decide +kernel
theorem dX11_expression_37 : decode cX11_expression 37 = .ok (.ifCond .eq 288, 3) := by decide +kernel
theorem dX11_expression_40 : decode cX11_expression 40 = .ok (.aload_n 0, 1) := by decide +kernel
theorem dX11_expression_41 : decode cX11_expression 41 = .ok (.invokevirtual 168, 3) := by decide +kernel
theorem dX11_expression_44 : decode cX11_expression 44 = .ok (.istore_n 2, 1) := by decide +kernel
theorem dX11_expression_45 : decode cX11_expression 45 = .ok (.iload_n 2, 1) := by decide +kernel
theorem dX11_expression_46 : decode cX11_expression 46 = .ok (.bipush 11, 2) := by decide +kernel
theorem dX11_expression_48 : decode cX11_expression 48 = .ok (.if_icmp .eq 9, 3) := by decide +kernel
theorem dX11_expression_51 : decode cX11_expression 51 = .ok (.iload_n 2, 1) := by decide +kernel
theorem dX11_expression_52 : decode cX11_expression 52 = .ok (.bipush 12, 2) := by decide +kernel
theorem dX11_expression_54 : decode cX11_expression 54 = .ok (.if_icmp .ne 55, 3) := by decide +kernel
theorem dX11_expression_57 : decode cX11_expression 57 = .ok (.aload_n 0, 1) := by decide +kernel
theorem dX11_expression_58 : decode cX11_expression 58 = .ok (.iload_n 2, 1) := by decide +kernel
theorem dX11_expression_59 : decode cX11_expression 59 = .ok (.bipush 11, 2) := by decide +kernel
theorem dX11_expression_61 : decode cX11_expression 61 = .ok (.if_icmp .ne 7, 3) := by decide +kernel
theorem dX11_expression_64 : decode cX11_expression 64 = .ok (.iconst 2, 1) := by decide +kernel
theorem dX11_expression_65 : decode cX11_expression 65 = .ok (.goto 4, 3) := by decide +kernel
theorem dX11_expression_68 : decode cX11_expression 68 = .ok (.iconst 1, 1) := by decide +kernel
theorem dX11_expression_69 : decode cX11_expression 69 = .ok (.invokevirtual 187, 3) := by decide +kernel
theorem dX11_expression_72 : decode cX11_expression 72 = .ok (.aload_n 0, 1) := by decide +kernel
theorem dX11_expression_73 : decode cX11_expression 73 = .ok (.iload_n 2, 1) := by decide +kernel
theorem dX11_expression_74 : decode cX11_expression 74 = .ok (.bipush 11, 2) := by decide +kernel
theorem dX11_expression_76 : decode cX11_expression 76 = .ok (.if_icmp .ne 7, 3) := by decide +kernel
theorem dX11_expression_79 : decode cX11_expression 79 = .ok (.iconst 4, 1) := by decide +kernel
theorem dX11_expression_80 : decode cX11_expression 80 = .ok (.goto 4, 3) := by decide +kernel
theorem dX11_expression_83 : decode cX11_expression 83 = .ok (.iconst 5, 1) := by decide +kernel
theorem dX11_expression_84 : decode cX11_expression 84 = .ok (.invokevirtual 178, 3) := by decide +kernel
theorem dX11_expression_87 : decode cX11_expression 87 = .ok (.aload_n 0, 1) := by decide +kernel
theorem dX11_expression_88 : decode cX11_expression 88 = .ok (.getfield 47, 3) := by decide +kernel
theorem dX11_expression_91 : decode cX11_expression 91 = .ok (.aload_n 0, 1) := by decide +kernel
theorem dX11_expression_92 : decode cX11_expression 92 = .ok (.getfield 172, 3) := by decide +kernel
theorem dX11_expression_95 : decode cX11_expression 95 = .ok (.iconst 0, 1) := by decide +kernel
theorem dX11_expression_96 : decode cX11_expression 96 = .ok (.bastore, 1) := by decide +kernel
theorem dX11_expression_97 : decode cX11_expression 97 = .ok (.aload_n 0, 1) := by decide +kernel
theorem dX11_expression_98 : decode cX11_expression 98 = .ok (.invokevirtual 147, 3) := by decide +kernel
theorem dX11_expression_101 : decode cX11_expression 101 = .ok (.aload_n 0, 1) := by decide +kernel
theorem dX11_expression_102 : decode cX11_expression 102 = .ok (.iconst 1, 1) := by decide +kernel
theorem dX11_expression_103 : decode cX11_expression 103 = .ok (.invokevirtual 190, 3) := by decide +kernel
theorem dX11_expression_106 : decode cX11_expression 106 = .ok (.goto 216, 3) := by decide +kernel
theorem dX11_expression_109 : decode cX11_expression 109 = .ok (.aload_n 0, 1) := by decide +kernel
theorem dX11_expression_110 : decode cX11_expression 110 = .ok (.bipush 60, 2) := by decide +kernel
theorem dX11_expression_112 : decode cX11_expression 112 = .ok (.invokevirtual 175, 3) := by decide +kernel
theorem dX11_expression_115 : decode cX11_expression 115 = .ok (.ifCond .ne 12, 3) := by decide +kernel
theorem dX11_expression_118 : decode cX11_expression 118 = .ok (.aload_n 0, 1) := by decide +kernel
theorem dX11_expression_119 : decode cX11_expression 119 = .ok (.bipush 61, 2) := by decide +kernel
theorem dX11_expression_121 : decode cX11_expression 121 = .ok (.invokevirtual 175, 3) := by decide +kernel
theorem dX11_expression_124 : decode cX11_expression 124 = .ok (.ifCond .eq 62, 3) := by decide +kernel
theorem dX11_expression_127 : decode cX11_expression 127 = .ok (.aload_n 0, 1) := by decide +kernel
theorem dX11_expression_128 : decode cX11_expression 128 = .ok (.getfield 47, 3) := by decide +kernel
theorem dX11_expression_131 : decode cX11_expression 131 = .ok (.aload_n 0, 1) := by decide +kernel
theorem dX11_expression_132 : decode cX11_expression 132 = .ok (.getfield 172, 3) := by decide +kernel
theorem dX11_expression_135 : decode cX11_expression 135 = .ok (.baload, 1) := by decide +kernel
theorem dX11_expression_136 : decode cX11_expression 136 = .ok (.ifCond .ne 50, 3) := by decide +kernel
theorem dX11_expression_139 : decode cX11_expression 139 = .ok (.aload_n 0, 1) := by decide +kernel
theorem dX11_expression_140 : decode cX11_expression 140 = .ok (.iconst 4, 1) := by decide +kernel
theorem dX11_expression_141 : decode cX11_expression 141 = .ok (.invokevirtual 187, 3) := by decide +kernel
theorem dX11_expression_144 : decode cX11_expression 144 = .ok (.aload_n 0, 1) := by decide +kernel
theorem dX11_expression_145 : decode cX11_expression 145 = .ok (.aload_n 0, 1) := by decide +kernel
theorem dX11_expression_146 : decode cX11_expression 146 = .ok (.bipush 60, 2) := by decide +kernel
theorem dX11_expression_148 : decode cX11_expression 148 = .ok (.invokevirtual 175, 3) := by decide +kernel
theorem dX11_expression_151 : decode cX11_expression 151 = .ok (.ifCond .eq 8, 3) := by decide +kernel
theorem dX11_expression_154 : decode cX11_expression 154 = .ok (.bipush 6, 2) := by decide +kernel
theorem dX11_expression_156 : decode cX11_expression 156 = .ok (.goto 5, 3) := by decide +kernel
theorem dX11_expression_159 : decode cX11_expression 159 = .ok (.bipush 7, 2) := by decide +kernel
theorem dX11_expression_161 : decode cX11_expression 161 = .ok (.invokevirtual 178, 3) := by decide +kernel
theorem dX11_expression_164 : decode cX11_expression 164 = .ok (.aload_n 0, 1) := by decide +kernel
theorem dX11_expression_165 : decode cX11_expression 165 = .ok (.getfield 47, 3) := by decide +kernel
theorem dX11_expression_168 : decode cX11_expression 168 = .ok (.aload_n 0, 1) := by decide +kernel
theorem dX11_expression_169 : decode cX11_expression 169 = .ok (.getfield 172, 3) := by decide +kernel
theorem dX11_expression_172 : decode cX11_expression 172 = .ok (.iconst 1, 1) := by decide +kernel
theorem dX11_expression_173 : decode cX11_expression 173 = .ok (.bastore, 1) := by decide +kernel
theorem dX11_expression_174 : decode cX11_expression 174 = .ok (.aload_n 0, 1) := by decide +kernel
theorem dX11_expression_175 : decode cX11_expression 175 = .ok (.invokevirtual 147, 3) := by decide +kernel
theorem dX11_expression_178 : decode cX11_expression 178 = .ok (.aload_n 0, 1) := by decide +kernel
theorem dX11_expression_179 : decode cX11_expression 179 = .ok (.iconst 0, 1) := by decide +kernel
theorem dX11_expression_180 : decode cX11_expression 180 = .ok (.invokevirtual 190, 3) := by decide +kernel
theorem dX11_expression_183 : decode cX11_expression 183 = .ok (.goto 139, 3) := by decide +kernel
theorem dX11_expression_186 : decode cX11_expression 186 = .ok (.aload_n 0, 1) := by decide +kernel
theorem dX11_expression_187 : decode cX11_expression 187 = .ok (.bipush 43, 2) := by decide +kernel
theorem dX11_expression_189 : decode cX11_expression 189 = .ok (.invokevirtual 175, 3) := by decide +kernel
theorem dX11_expression_192 : decode cX11_expression 192 = .ok (.ifCond .ne 12, 3) := by decide +kernel
theorem dX11_expression_195 : decode cX11_expression 195 = .ok (.aload_n 0, 1) := by decide +kernel
theorem dX11_expression_196 : decode cX11_expression 196 = .ok (.bipush 45, 2) := by decide +kernel
theorem dX11_expression_198 : decode cX11_expression 198 = .ok (.invokevirtual 175, 3) := by decide +kernel
theorem dX11_expression_201 : decode cX11_expression 201 = .ok (.ifCond .eq 40, 3) := by decide +kernel
theorem dX11_expression_204 : decode cX11_expression 204 = .ok (.aload_n 0, 1) := by decide +kernel
theorem dX11_expression_205 : decode cX11_expression 205 = .ok (.iconst 5, 1) := by decide +kernel
theorem dX11_expression_206 : decode cX11_expression 206 = .ok (.invokevirtual 187, 3) := by decide +kernel
theorem dX11_expression_209 : decode cX11_expression 209 = .ok (.aload_n 0, 1) := by decide +kernel
theorem dX11_expression_210 : decode cX11_expression 210 = .ok (.aload_n 0, 1) := by decide +kernel
theorem dX11_expression_211 : decode cX11_expression 211 = .ok (.bipush 43, 2) := by decide +kernel
theorem dX11_expression_213 : decode cX11_expression 213 = .ok (.invokevirtual 175, 3) := by decide +kernel
theorem dX11_expression_216 : decode cX11_expression 216 = .ok (.ifCond .eq 8, 3) := by decide +kernel
theorem dX11_expression_219 : decode cX11_expression 219 = .ok (.bipush 8, 2) := by decide +kernel
theorem dX11_expression_221 : decode cX11_expression 221 = .ok (.goto 5, 3) := by decide +kernel
theorem dX11_expression_224 : decode cX11_expression 224 = .ok (.bipush 9, 2) := by decide +kernel
theorem dX11_expression_226 : decode cX11_expression 226 = .ok (.invokevirtual 178, 3) := by decide +kernel
theorem dX11_expression_229 : decode cX11_expression 229 = .ok (.aload_n 0, 1) := by decide +kernel
theorem dX11_expression_230 : decode cX11_expression 230 = .ok (.invokevirtual 147, 3) := by decide +kernel
theorem dX11_expression_233 : decode cX11_expression 233 = .ok (.aload_n 0, 1) := by decide +kernel
theorem dX11_expression_234 : decode cX11_expression 234 = .ok (.iconst 0, 1) := by decide +kernel
theorem dX11_expression_235 : decode cX11_expression 235 = .ok (.invokevirtual 190, 3) := by decide +kernel
theorem dX11_expression_238 : decode cX11_expression 238 = .ok (.goto 84, 3) := by decide +kernel
theorem dX11_expression_241 : decode cX11_expression 241 = .ok (.aload_n 0, 1) := by decide +kernel
theorem dX11_expression_242 : decode cX11_expression 242 = .ok (.bipush 42, 2) := by decide +kernel
theorem dX11_expression_244 : decode cX11_expression 244 = .ok (.invokevirtual 175, 3) := by decide +kernel
theorem dX11_expression_247 : decode cX11_expression 247 = .ok (.ifCond .ne 12, 3) := by decide +kernel
theorem dX11_expression_250 : decode cX11_expression 250 = .ok (.aload_n 0, 1) := by decide +kernel
theorem dX11_expression_251 : decode cX11_expression 251 = .ok (.bipush 47, 2) := by decide +kernel
theorem dX11_expression_253 : decode cX11_expression 253 = .ok (.invokevirtual 175, 3) := by decide +kernel
theorem dX11_expression_256 : decode cX11_expression 256 = .ok (.ifCond .eq 41, 3) := by decide +kernel
theorem dX11_expression_259 : decode cX11_expression 259 = .ok (.aload_n 0, 1) := by decide +kernel
theorem dX11_expression_260 : decode cX11_expression 260 = .ok (.bipush 6, 2) := by decide +kernel
theorem dX11_expression_262 : decode cX11_expression 262 = .ok (.invokevirtual 187, 3) := by decide +kernel
theorem dX11_expression_265 : decode cX11_expression 265 = .ok (.aload_n 0, 1) := by decide +kernel
theorem dX11_expression_266 : decode cX11_expression 266 = .ok (.aload_n 0, 1) := by decide +kernel
theorem dX11_expression_267 : decode cX11_expression 267 = .ok (.bipush 42, 2) := by decide +kernel
theorem dX11_expression_269 : decode cX11_expression 269 = .ok (.invokevirtual 175, 3) := by decide +kernel
theorem dX11_expression_272 : decode cX11_expression 272 = .ok (.ifCond .eq 8, 3) := by decide +kernel
theorem dX11_expression_275 : decode cX11_expression 275 = .ok (.bipush 10, 2) := by decide +kernel
theorem dX11_expression_277 : decode cX11_expression 277 = .ok (.goto 5, 3) := by decide +kernel
theorem dX11_expression_280 : decode cX11_expression 280 = .ok (.bipush 11, 2) := by decide +kernel
theorem dX11_expression_282 : decode cX11_expression 282 = .ok (.invokevirtual 178, 3) := by decide +kernel
theorem dX11_expression_285 : decode cX11_expression 285 = .ok (.aload_n 0, 1) := by decide +kernel
theorem dX11_expression_286 : decode cX11_expression 286 = .ok (.invokevirtual 147, 3) := by decide +kernel
theorem dX11_expression_289 : decode cX11_expression 289 = .ok (.aload_n 0, 1) := by decide +kernel
theorem dX11_expression_290 : decode cX11_expression 290 = .ok (.iconst 0, 1) := by decide +kernel
theorem dX11_expression_291 : decode cX11_expression 291 = .ok (.invokevirtual 190, 3) := by decide +kernel
theorem dX11_expression_294 : decode cX11_expression 294 = .ok (.goto 28, 3) := by decide +kernel
theorem dX11_expression_297 : decode cX11_expression 297 = .ok (.aload_n 0, 1) := by decide +kernel
theorem dX11_expression_298 : decode cX11_expression 298 = .ok (.bipush 41, 2) := by decide +kernel
theorem dX11_expression_300 : decode cX11_expression 300 = .ok (.invokevirtual 175, 3) := by decide +kernel
theorem dX11_expression_303 : decode cX11_expression 303 = .ok (.ifCond .eq 17, 3) := by decide +kernel
theorem dX11_expression_306 : decode cX11_expression 306 = .ok (.aload_n 0, 1) := by decide +kernel
theorem dX11_expression_307 : decode cX11_expression 307 = .ok (.invokevirtual 194, 3) := by decide +kernel
theorem dX11_expression_310 : decode cX11_expression 310 = .ok (.ifCond .eq 10, 3) := by decide +kernel
theorem dX11_expression_313 : decode cX11_expression 313 = .ok (.aload_n 0, 1) := by decide +kernel
theorem dX11_expression_314 : decode cX11_expression 314 = .ok (.invokevirtual 197, 3) := by decide +kernel
theorem dX11_expression_317 : decode cX11_expression 317 = .ok (.goto 5, 3) := by decide +kernel
theorem dX11_expression_320 : decode cX11_expression 320 = .ok (.iconst 0, 1) := by decide +kernel
theorem dX11_expression_321 : decode cX11_expression 321 = .ok (.istore_n 1, 1) := by decide +kernel
theorem dX11_expression_322 : decode cX11_expression 322 = .ok (.goto (-293), 3) := by decide +kernel
theorem dX11_expression_325 : decode cX11_expression 325 = .ok (.aload_n 0, 1) := by decide +kernel
theorem dX11_expression_326 : decode cX11_expression 326 = .ok (.invokevirtual 143, 3) := by decide +kernel
theorem dX11_expression_329 : decode cX11_expression 329 = .ok (.ifCond .eq 16, 3) := by decide +kernel
theorem dX11_expression_332 : decode cX11_expression 332 = .ok (.aload_n 0, 1) := by decide +kernel
theorem dX11_expression_333 : decode cX11_expression 333 = .ok (.getfield 172, 3) := by decide +kernel
theorem dX11_expression_336 : decode cX11_expression 336 = .ok (.iconst 1, 1) := by decide +kernel
theorem dX11_expression_337 : decode cX11_expression 337 = .ok (.if_icmp .le 8, 3) := by decide +kernel
theorem dX11_expression_340 : decode cX11_expression 340 = .ok (.aload_n 0, 1) := by decide +kernel
theorem dX11_expression_341 : decode cX11_expression 341 = .ok (.iconst 1, 1) := by decide +kernel
theorem dX11_expression_342 : decode cX11_expression 342 = .ok (.invokevirtual 150, 3) := by decide +kernel
theorem dX11_expression_345 : decode cX11_expression 345 = .ok (.aload_n 0, 1) := by decide +kernel
theorem dX11_expression_346 : decode cX11_expression 346 = .ok (.iconst 0, 1) := by decide +kernel
theorem dX11_expression_347 : decode cX11_expression 347 = .ok (.invokevirtual 187, 3) := by decide +kernel
theorem dX11_expression_350 : decode cX11_expression 350 = .ok (.aload_n 0, 1) := by decide +kernel
theorem dX11_expression_351 : decode cX11_expression 351 = .ok (.iconst 0, 1) := by decide +kernel
theorem dX11_expression_352 : decode cX11_expression 352 = .ok (.invokevirtual 165, 3) := by decide +kernel
theorem dX11_expression_355 : decode cX11_expression 355 = .ok (.return_, 1) := by decide +kernel
theorem dX11_begins_0 : decode cX11_begins 0 = .ok (.iload_n 1, 1) := by decide +kernel
theorem dX11_begins_1 : decode cX11_begins 1 = .ok (.ifCond .eq 8, 3) := by decide +kernel
theorem dX11_begins_4 : decode cX11_begins 4 = .ok (.aload_n 0, 1) := by decide +kernel
theorem dX11_begins_5 : decode cX11_begins 5 = .ok (.iconst 2, 1) := by decide +kernel
theorem dX11_begins_6 : decode cX11_begins 6 = .ok (.invokevirtual 150, 3) := by decide +kernel
theorem dX11_begins_9 : decode cX11_begins 9 = .ok (.iload_n 2, 1) := by decide +kernel
theorem dX11_begins_10 : decode cX11_begins 10 = .ok (.ifCond .eq 8, 3) := by decide +kernel
theorem dX11_begins_13 : decode cX11_begins 13 = .ok (.aload_n 0, 1) := by decide +kernel
theorem dX11_begins_14 : decode cX11_begins 14 = .ok (.iconst 5, 1) := by decide +kernel
theorem dX11_begins_15 : decode cX11_begins 15 = .ok (.invokevirtual 150, 3) := by decide +kernel
theorem dX11_begins_18 : decode cX11_begins 18 = .ok (.aload_n 0, 1) := by decide +kernel
theorem dX11_begins_19 : decode cX11_begins 19 = .ok (.invokevirtual 143, 3) := by decide +kernel
theorem dX11_begins_22 : decode cX11_begins 22 = .ok (.ifCond .ne 5, 3) := by decide +kernel
theorem dX11_begins_25 : decode cX11_begins 25 = .ok (.iconst 0, 1) := by decide +kernel
theorem dX11_begins_26 : decode cX11_begins 26 = .ok (.ireturn, 1) := by decide +kernel
theorem dX11_begins_27 : decode cX11_begins 27 = .ok (.aload_n 0, 1) := by decide +kernel
theorem dX11_begins_28 : decode cX11_begins 28 = .ok (.invokevirtual 147, 3) := by decide +kernel
theorem dX11_begins_31 : decode cX11_begins 31 = .ok (.iconst 1, 1) := by decide +kernel
theorem dX11_begins_32 : decode cX11_begins 32 = .ok (.ireturn, 1) := by decide +kernel
theorem dX11_readsMan_0 : decode cX11_readsMan 0 = .ok (.aload_n 0, 1) := by decide +kernel
theorem dX11_readsMan_1 : decode cX11_readsMan 1 = .ok (.getfield 200, 3) := by decide +kernel
theorem dX11_readsMan_4 : decode cX11_readsMan 4 = .ok (.istore_n 1, 1) := by decide +kernel
theorem dX11_readsMan_5 : decode cX11_readsMan 5 = .ok (.aload_n 0, 1) := by decide +kernel
theorem dX11_readsMan_6 : decode cX11_readsMan 6 = .ok (.getfield 38, 3) := by decide +kernel
theorem dX11_readsMan_9 : decode cX11_readsMan 9 = .ok (.iconst 1, 1) := by decide +kernel
theorem dX11_readsMan_10 : decode cX11_readsMan 10 = .ok (.iload_n 1, 1) := by decide +kernel
theorem dX11_readsMan_11 : decode cX11_readsMan 11 = .ok (.iadd, 1) := by decide +kernel
theorem dX11_readsMan_12 : decode cX11_readsMan 12 = .ok (.aload_n 0, 1) := by decide +kernel
theorem dX11_readsMan_13 : decode cX11_readsMan 13 = .ok (.iconst 0, 1) := by decide +kernel
theorem dX11_readsMan_14 : decode cX11_readsMan 14 = .ok (.sipush 4095, 3) := by decide +kernel
theorem dX11_readsMan_17 : decode cX11_readsMan 17 = .ok (.invokevirtual 203, 3) := by decide +kernel
theorem dX11_readsMan_20 : decode cX11_readsMan 20 = .ok (.iastore, 1) := by decide +kernel
theorem dX11_readsMan_21 : decode cX11_readsMan 21 = .ok (.aload_n 0, 1) := by decide +kernel
theorem dX11_readsMan_22 : decode cX11_readsMan 22 = .ok (.getfield 38, 3) := by decide +kernel
theorem dX11_readsMan_25 : decode cX11_readsMan 25 = .ok (.bipush 9, 2) := by decide +kernel
theorem dX11_readsMan_27 : decode cX11_readsMan 27 = .ok (.iload_n 1, 1) := by decide +kernel
theorem dX11_readsMan_28 : decode cX11_readsMan 28 = .ok (.iadd, 1) := by decide +kernel
theorem dX11_readsMan_29 : decode cX11_readsMan 29 = .ok (.aload_n 0, 1) := by decide +kernel
theorem dX11_readsMan_30 : decode cX11_readsMan 30 = .ok (.iconst 1, 1) := by decide +kernel
theorem dX11_readsMan_31 : decode cX11_readsMan 31 = .ok (.bipush 9, 2) := by decide +kernel
theorem dX11_readsMan_33 : decode cX11_readsMan 33 = .ok (.invokevirtual 203, 3) := by decide +kernel
theorem dX11_readsMan_36 : decode cX11_readsMan 36 = .ok (.iastore, 1) := by decide +kernel
theorem dX11_readsMan_37 : decode cX11_readsMan 37 = .ok (.aload_n 0, 1) := by decide +kernel
theorem dX11_readsMan_38 : decode cX11_readsMan 38 = .ok (.getfield 38, 3) := by decide +kernel
theorem dX11_readsMan_41 : decode cX11_readsMan 41 = .ok (.bipush 17, 2) := by decide +kernel
theorem dX11_readsMan_43 : decode cX11_readsMan 43 = .ok (.iload_n 1, 1) := by decide +kernel
theorem dX11_readsMan_44 : decode cX11_readsMan 44 = .ok (.iadd, 1) := by decide +kernel
theorem dX11_readsMan_45 : decode cX11_readsMan 45 = .ok (.iconst 0, 1) := by decide +kernel
theorem dX11_readsMan_46 : decode cX11_readsMan 46 = .ok (.iastore, 1) := by decide +kernel
theorem dX11_readsMan_47 : decode cX11_readsMan 47 = .ok (.aload_n 0, 1) := by decide +kernel
theorem dX11_readsMan_48 : decode cX11_readsMan 48 = .ok (.invokevirtual 143, 3) := by decide +kernel
theorem dX11_readsMan_51 : decode cX11_readsMan 51 = .ok (.ifCond .eq 13, 3) := by decide +kernel
theorem dX11_readsMan_54 : decode cX11_readsMan 54 = .ok (.aload_n 0, 1) := by decide +kernel
theorem dX11_readsMan_55 : decode cX11_readsMan 55 = .ok (.dup, 1) := by decide +kernel
theorem dX11_readsMan_56 : decode cX11_readsMan 56 = .ok (.getfield 200, 3) := by decide +kernel
theorem dX11_readsMan_59 : decode cX11_readsMan 59 = .ok (.iconst 1, 1) := by decide +kernel
theorem dX11_readsMan_60 : decode cX11_readsMan 60 = .ok (.iadd, 1) := by decide +kernel
theorem dX11_readsMan_61 : decode cX11_readsMan 61 = .ok (.putfield 200, 3) := by decide +kernel
theorem dX11_readsMan_64 : decode cX11_readsMan 64 = .ok (.return_, 1) := by decide +kernel
theorem dX11_isPlaced_0 : decode cX11_isPlaced 0 = .ok (.iconst 0, 1) := by decide +kernel
theorem dX11_isPlaced_1 : decode cX11_isPlaced 1 = .ok (.istore_n 2, 1) := by decide +kernel
theorem dX11_isPlaced_2 : decode cX11_isPlaced 2 = .ok (.iload_n 2, 1) := by decide +kernel
theorem dX11_isPlaced_3 : decode cX11_isPlaced 3 = .ok (.aload_n 0, 1) := by decide +kernel
theorem dX11_isPlaced_4 : decode cX11_isPlaced 4 = .ok (.getfield 207, 3) := by decide +kernel
theorem dX11_isPlaced_7 : decode cX11_isPlaced 7 = .ok (.if_icmp .gt 34, 3) := by decide +kernel
theorem dX11_isPlaced_10 : decode cX11_isPlaced 10 = .ok (.iload_n 2, 1) := by decide +kernel
theorem dX11_isPlaced_11 : decode cX11_isPlaced 11 = .ok (.bipush 8, 2) := by decide +kernel
theorem dX11_isPlaced_13 : decode cX11_isPlaced 13 = .ok (.if_icmp .ge 28, 3) := by decide +kernel
theorem dX11_isPlaced_16 : decode cX11_isPlaced 16 = .ok (.aload_n 0, 1) := by decide +kernel
theorem dX11_isPlaced_17 : decode cX11_isPlaced 17 = .ok (.getfield 38, 3) := by decide +kernel
theorem dX11_isPlaced_20 : decode cX11_isPlaced 20 = .ok (.bipush 25, 2) := by decide +kernel
theorem dX11_isPlaced_22 : decode cX11_isPlaced 22 = .ok (.iload_n 2, 1) := by decide +kernel
theorem dX11_isPlaced_23 : decode cX11_isPlaced 23 = .ok (.iadd, 1) := by decide +kernel
theorem dX11_isPlaced_24 : decode cX11_isPlaced 24 = .ok (.iaload, 1) := by decide +kernel
theorem dX11_isPlaced_25 : decode cX11_isPlaced 25 = .ok (.iload_n 1, 1) := by decide +kernel
theorem dX11_isPlaced_26 : decode cX11_isPlaced 26 = .ok (.ishr, 1) := by decide +kernel
theorem dX11_isPlaced_27 : decode cX11_isPlaced 27 = .ok (.iconst 1, 1) := by decide +kernel
theorem dX11_isPlaced_28 : decode cX11_isPlaced 28 = .ok (.iand, 1) := by decide +kernel
theorem dX11_isPlaced_29 : decode cX11_isPlaced 29 = .ok (.iconst 1, 1) := by decide +kernel
theorem dX11_isPlaced_30 : decode cX11_isPlaced 30 = .ok (.if_icmp .ne 5, 3) := by decide +kernel
theorem dX11_isPlaced_33 : decode cX11_isPlaced 33 = .ok (.iconst 1, 1) := by decide +kernel
theorem dX11_isPlaced_34 : decode cX11_isPlaced 34 = .ok (.ireturn, 1) := by decide +kernel
theorem dX11_isPlaced_35 : decode cX11_isPlaced 35 = .ok (.iinc 2 1, 3) := by decide +kernel
theorem dX11_isPlaced_38 : decode cX11_isPlaced 38 = .ok (.goto (-36), 3) := by decide +kernel
theorem dX11_isPlaced_41 : decode cX11_isPlaced 41 = .ok (.iconst 0, 1) := by decide +kernel
theorem dX11_isPlaced_42 : decode cX11_isPlaced 42 = .ok (.ireturn, 1) := by decide +kernel
theorem dX11_readsRow_0 : decode cX11_readsRow 0 = .ok (.aload_n 0, 1) := by decide +kernel
theorem dX11_readsRow_1 : decode cX11_readsRow 1 = .ok (.getfield 38, 3) := by decide +kernel
theorem dX11_readsRow_4 : decode cX11_readsRow 4 = .ok (.bipush 25, 2) := by decide +kernel
theorem dX11_readsRow_6 : decode cX11_readsRow 6 = .ok (.aload_n 0, 1) := by decide +kernel
theorem dX11_readsRow_7 : decode cX11_readsRow 7 = .ok (.getfield 207, 3) := by decide +kernel
theorem dX11_readsRow_10 : decode cX11_readsRow 10 = .ok (.iadd, 1) := by decide +kernel
theorem dX11_readsRow_11 : decode cX11_readsRow 11 = .ok (.iconst 0, 1) := by decide +kernel
theorem dX11_readsRow_12 : decode cX11_readsRow 12 = .ok (.iastore, 1) := by decide +kernel
theorem dX11_readsRow_13 : decode cX11_readsRow 13 = .ok (.iconst 0, 1) := by decide +kernel
theorem dX11_readsRow_14 : decode cX11_readsRow 14 = .ok (.istore_n 1, 1) := by decide +kernel
theorem dX11_readsRow_15 : decode cX11_readsRow 15 = .ok (.iconst 1, 1) := by decide +kernel
theorem dX11_readsRow_16 : decode cX11_readsRow 16 = .ok (.istore_n 2, 1) := by decide +kernel
theorem dX11_readsRow_17 : decode cX11_readsRow 17 = .ok (.iload_n 2, 1) := by decide +kernel
theorem dX11_readsRow_18 : decode cX11_readsRow 18 = .ok (.ifCond .eq 135, 3) := by decide +kernel
theorem dX11_readsRow_21 : decode cX11_readsRow 21 = .ok (.aload_n 0, 1) := by decide +kernel
theorem dX11_readsRow_22 : decode cX11_readsRow 22 = .ok (.invokevirtual 143, 3) := by decide +kernel
theorem dX11_readsRow_25 : decode cX11_readsRow 25 = .ok (.ifCond .eq 128, 3) := by decide +kernel
theorem dX11_readsRow_28 : decode cX11_readsRow 28 = .ok (.aload_n 0, 1) := by decide +kernel
theorem dX11_readsRow_29 : decode cX11_readsRow 29 = .ok (.getfield 117, 3) := by decide +kernel
theorem dX11_readsRow_32 : decode cX11_readsRow 32 = .ok (.iconst 2, 1) := by decide +kernel
theorem dX11_readsRow_33 : decode cX11_readsRow 33 = .ok (.if_icmp .eq 11, 3) := by decide +kernel
theorem dX11_readsRow_36 : decode cX11_readsRow 36 = .ok (.aload_n 0, 1) := by decide +kernel
theorem dX11_readsRow_37 : decode cX11_readsRow 37 = .ok (.iconst 1, 1) := by decide +kernel
theorem dX11_readsRow_38 : decode cX11_readsRow 38 = .ok (.invokevirtual 150, 3) := by decide +kernel
theorem dX11_readsRow_41 : decode cX11_readsRow 41 = .ok (.goto 59, 3) := by decide +kernel
theorem dX11_readsRow_44 : decode cX11_readsRow 44 = .ok (.iload_n 1, 1) := by decide +kernel
theorem dX11_readsRow_45 : decode cX11_readsRow 45 = .ok (.iconst 4, 1) := by decide +kernel
theorem dX11_readsRow_46 : decode cX11_readsRow 46 = .ok (.if_icmp .eq 11, 3) := by decide +kernel
theorem dX11_readsRow_49 : decode cX11_readsRow 49 = .ok (.aload_n 0, 1) := by decide +kernel
