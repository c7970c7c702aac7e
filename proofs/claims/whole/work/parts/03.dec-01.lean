theorem dX5_readProduct_66 : decode cX5_readProduct 66 = .ok (.iload_n 3, 1) := by decide +kernel
theorem dX5_readProduct_67 : decode cX5_readProduct 67 = .ok (.invokevirtual 176, 3) := by decide +kernel
theorem dX5_readProduct_70 : decode cX5_readProduct 70 = .ok (.iinc 2 1, 3) := by decide +kernel
theorem dX5_readProduct_73 : decode cX5_readProduct 73 = .ok (.goto (-66), 3) := by decide +kernel
theorem dX5_readProduct_76 : decode cX5_readProduct 76 = .ok (.return_, 1) := by decide +kernel
theorem dX5_readPart_0 : decode cX5_readPart 0 = .ok (.aload_n 0, 1) := by decide +kernel
theorem dX5_readPart_1 : decode cX5_readPart 1 = .ok (.getfield 27, 3) := by decide +kernel
theorem dX5_readPart_4 : decode cX5_readPart 4 = .ok (.ifCond .eq 4, 3) := by decide +kernel
theorem dX5_readPart_7 : decode cX5_readPart 7 = .ok (.return_, 1) := by decide +kernel
theorem dX5_readPart_8 : decode cX5_readPart 8 = .ok (.aload_n 0, 1) := by decide +kernel
theorem dX5_readPart_9 : decode cX5_readPart 9 = .ok (.bipush 40, 2) := by decide +kernel
theorem dX5_readPart_11 : decode cX5_readPart 11 = .ok (.invokevirtual 162, 3) := by decide +kernel
theorem dX5_readPart_14 : decode cX5_readPart 14 = .ok (.ifCond .eq 23, 3) := by decide +kernel
theorem dX5_readPart_17 : decode cX5_readPart 17 = .ok (.aload_n 0, 1) := by decide +kernel
theorem dX5_readPart_18 : decode cX5_readPart 18 = .ok (.invokevirtual 63, 3) := by decide +kernel
theorem dX5_readPart_21 : decode cX5_readPart 21 = .ok (.aload_n 0, 1) := by decide +kernel
theorem dX5_readPart_22 : decode cX5_readPart 22 = .ok (.iload_n 1, 1) := by decide +kernel
theorem dX5_readPart_23 : decode cX5_readPart 23 = .ok (.iconst 1, 1) := by decide +kernel
theorem dX5_readPart_24 : decode cX5_readPart 24 = .ok (.iadd, 1) := by decide +kernel
theorem dX5_readPart_25 : decode cX5_readPart 25 = .ok (.invokevirtual 126, 3) := by decide +kernel
theorem dX5_readPart_28 : decode cX5_readPart 28 = .ok (.aload_n 0, 1) := by decide +kernel
theorem dX5_readPart_29 : decode cX5_readPart 29 = .ok (.bipush 41, 2) := by decide +kernel
theorem dX5_readPart_31 : decode cX5_readPart 31 = .ok (.invokevirtual 132, 3) := by decide +kernel
theorem dX5_readPart_34 : decode cX5_readPart 34 = .ok (.goto 36, 3) := by decide +kernel
theorem dX5_readPart_37 : decode cX5_readPart 37 = .ok (.aload_n 0, 1) := by decide +kernel
theorem dX5_readPart_38 : decode cX5_readPart 38 = .ok (.getfield 40, 3) := by decide +kernel
theorem dX5_readPart_41 : decode cX5_readPart 41 = .ok (.iconst 2, 1) := by decide +kernel
theorem dX5_readPart_42 : decode cX5_readPart 42 = .ok (.if_icmp .ne 10, 3) := by decide +kernel
theorem dX5_readPart_45 : decode cX5_readPart 45 = .ok (.aload_n 0, 1) := by decide +kernel
theorem dX5_readPart_46 : decode cX5_readPart 46 = .ok (.invokevirtual 198, 3) := by decide +kernel
theorem dX5_readPart_49 : decode cX5_readPart 49 = .ok (.goto 21, 3) := by decide +kernel
theorem dX5_readPart_52 : decode cX5_readPart 52 = .ok (.aload_n 0, 1) := by decide +kernel
theorem dX5_readPart_53 : decode cX5_readPart 53 = .ok (.getfield 12, 3) := by decide +kernel
theorem dX5_readPart_56 : decode cX5_readPart 56 = .ok (.getfield 170, 3) := by decide +kernel
theorem dX5_readPart_59 : decode cX5_readPart 59 = .ok (.aload_n 0, 1) := by decide +kernel
theorem dX5_readPart_60 : decode cX5_readPart 60 = .ok (.iconst 0, 1) := by decide +kernel
theorem dX5_readPart_61 : decode cX5_readPart 61 = .ok (.sipush 9999, 3) := by decide +kernel
theorem dX5_readPart_64 : decode cX5_readPart 64 = .ok (.invokevirtual 109, 3) := by decide +kernel
theorem dX5_readPart_67 : decode cX5_readPart 67 = .ok (.invokevirtual 176, 3) := by decide +kernel
theorem dX5_readPart_70 : decode cX5_readPart 70 = .ok (.return_, 1) := by decide +kernel
theorem dX5_readValue_0 : decode cX5_readValue 0 = .ok (.aload_n 0, 1) := by decide +kernel
theorem dX5_readValue_1 : decode cX5_readValue 1 = .ok (.invokevirtual 201, 3) := by decide +kernel
theorem dX5_readValue_4 : decode cX5_readValue 4 = .ok (.istore_n 1, 1) := by decide +kernel
theorem dX5_readValue_5 : decode cX5_readValue 5 = .ok (.iload_n 1, 1) := by decide +kernel
theorem dX5_readValue_6 : decode cX5_readValue 6 = .ok (.ifCond .ne 9, 3) := by decide +kernel
theorem dX5_readValue_9 : decode cX5_readValue 9 = .ok (.aload_n 0, 1) := by decide +kernel
theorem dX5_readValue_10 : decode cX5_readValue 10 = .ok (.iconst 3, 1) := by decide +kernel
theorem dX5_readValue_11 : decode cX5_readValue 11 = .ok (.invokevirtual 129, 3) := by decide +kernel
theorem dX5_readValue_14 : decode cX5_readValue 14 = .ok (.return_, 1) := by decide +kernel
theorem dX5_readValue_15 : decode cX5_readValue 15 = .ok (.aload_n 0, 1) := by decide +kernel
theorem dX5_readValue_16 : decode cX5_readValue 16 = .ok (.getfield 12, 3) := by decide +kernel
theorem dX5_readValue_19 : decode cX5_readValue 19 = .ok (.getfield 170, 3) := by decide +kernel
theorem dX5_readValue_22 : decode cX5_readValue 22 = .ok (.iload_n 1, 1) := by decide +kernel
theorem dX5_readValue_23 : decode cX5_readValue 23 = .ok (.invokevirtual 176, 3) := by decide +kernel
theorem dX5_readValue_26 : decode cX5_readValue 26 = .ok (.aload_n 0, 1) := by decide +kernel
theorem dX5_readValue_27 : decode cX5_readValue 27 = .ok (.invokevirtual 63, 3) := by decide +kernel
theorem dX5_readValue_30 : decode cX5_readValue 30 = .ok (.return_, 1) := by decide +kernel
theorem dX5_valueHere_0 : decode cX5_valueHere 0 = .ok (.aload_n 0, 1) := by decide +kernel
theorem dX5_valueHere_1 : decode cX5_valueHere 1 = .ok (.ldc 204, 2) := by decide +kernel
theorem dX5_valueHere_3 : decode cX5_valueHere 3 = .ok (.invokevirtual 91, 3) := by decide +kernel
theorem dX5_valueHere_6 : decode cX5_valueHere 6 = .ok (.ifCond .eq 5, 3) := by decide +kernel
theorem dX5_valueHere_9 : decode cX5_valueHere 9 = .ok (.iconst (-1), 1) := by decide +kernel
theorem dX5_valueHere_10 : decode cX5_valueHere 10 = .ok (.ireturn, 1) := by decide +kernel
theorem dX5_valueHere_11 : decode cX5_valueHere 11 = .ok (.aload_n 0, 1) := by decide +kernel
theorem dX5_valueHere_12 : decode cX5_valueHere 12 = .ok (.ldc 206, 2) := by decide +kernel
theorem dX5_valueHere_14 : decode cX5_valueHere 14 = .ok (.invokevirtual 91, 3) := by decide +kernel
theorem dX5_valueHere_17 : decode cX5_valueHere 17 = .ok (.ifCond .eq 6, 3) := by decide +kernel
theorem dX5_valueHere_20 : decode cX5_valueHere 20 = .ok (.bipush (-2), 2) := by decide +kernel
theorem dX5_valueHere_22 : decode cX5_valueHere 22 = .ok (.ireturn, 1) := by decide +kernel
theorem dX5_valueHere_23 : decode cX5_valueHere 23 = .ok (.aload_n 0, 1) := by decide +kernel
theorem dX5_valueHere_24 : decode cX5_valueHere 24 = .ok (.ldc 119, 2) := by decide +kernel
theorem dX5_valueHere_26 : decode cX5_valueHere 26 = .ok (.invokevirtual 91, 3) := by decide +kernel
theorem dX5_valueHere_29 : decode cX5_valueHere 29 = .ok (.ifCond .eq 6, 3) := by decide +kernel
theorem dX5_valueHere_32 : decode cX5_valueHere 32 = .ok (.bipush (-3), 2) := by decide +kernel
theorem dX5_valueHere_34 : decode cX5_valueHere 34 = .ok (.ireturn, 1) := by decide +kernel
theorem dX5_valueHere_35 : decode cX5_valueHere 35 = .ok (.aload_n 0, 1) := by decide +kernel
theorem dX5_valueHere_36 : decode cX5_valueHere 36 = .ok (.ldc 208, 2) := by decide +kernel
theorem dX5_valueHere_38 : decode cX5_valueHere 38 = .ok (.invokevirtual 91, 3) := by decide +kernel
theorem dX5_valueHere_41 : decode cX5_valueHere 41 = .ok (.ifCond .eq 6, 3) := by decide +kernel
theorem dX5_valueHere_44 : decode cX5_valueHere 44 = .ok (.bipush (-4), 2) := by decide +kernel
theorem dX5_valueHere_46 : decode cX5_valueHere 46 = .ok (.ireturn, 1) := by decide +kernel
theorem dX5_valueHere_47 : decode cX5_valueHere 47 = .ok (.aload_n 0, 1) := by decide +kernel
theorem dX5_valueHere_48 : decode cX5_valueHere 48 = .ok (.ldc 210, 2) := by decide +kernel
theorem dX5_valueHere_50 : decode cX5_valueHere 50 = .ok (.invokevirtual 91, 3) := by decide +kernel
theorem dX5_valueHere_53 : decode cX5_valueHere 53 = .ok (.ifCond .eq 6, 3) := by decide +kernel
theorem dX5_valueHere_56 : decode cX5_valueHere 56 = .ok (.bipush (-5), 2) := by decide +kernel
theorem dX5_valueHere_58 : decode cX5_valueHere 58 = .ok (.ireturn, 1) := by decide +kernel
theorem dX5_valueHere_59 : decode cX5_valueHere 59 = .ok (.aload_n 0, 1) := by decide +kernel
theorem dX5_valueHere_60 : decode cX5_valueHere 60 = .ok (.ldc 212, 2) := by decide +kernel
theorem dX5_valueHere_62 : decode cX5_valueHere 62 = .ok (.invokevirtual 91, 3) := by decide +kernel
theorem dX5_valueHere_65 : decode cX5_valueHere 65 = .ok (.ifCond .eq 8, 3) := by decide +kernel
theorem dX5_valueHere_68 : decode cX5_valueHere 68 = .ok (.bipush (-6), 2) := by decide +kernel
theorem dX5_valueHere_70 : decode cX5_valueHere 70 = .ok (.goto 4, 3) := by decide +kernel
theorem dX5_valueHere_73 : decode cX5_valueHere 73 = .ok (.iconst 0, 1) := by decide +kernel
theorem dX5_valueHere_74 : decode cX5_valueHere 74 = .ok (.ireturn, 1) := by decide +kernel
theorem dX5_peek_0 : decode cX5_peek 0 = .ok (.aload_n 0, 1) := by decide +kernel
theorem dX5_peek_1 : decode cX5_peek 1 = .ok (.getfield 40, 3) := by decide +kernel
theorem dX5_peek_4 : decode cX5_peek 4 = .ok (.iconst 1, 1) := by decide +kernel
theorem dX5_peek_5 : decode cX5_peek 5 = .ok (.if_icmp .eq 10, 3) := by decide +kernel
theorem dX5_peek_8 : decode cX5_peek 8 = .ok (.aload_n 0, 1) := by decide +kernel
theorem dX5_peek_9 : decode cX5_peek 9 = .ok (.iconst 1, 1) := by decide +kernel
theorem dX5_peek_10 : decode cX5_peek 10 = .ok (.invokevirtual 129, 3) := by decide +kernel
theorem dX5_peek_13 : decode cX5_peek 13 = .ok (.iconst 0, 1) := by decide +kernel
theorem dX5_peek_14 : decode cX5_peek 14 = .ok (.ireturn, 1) := by decide +kernel
theorem dX5_peek_15 : decode cX5_peek 15 = .ok (.aload_n 0, 1) := by decide +kernel
theorem dX5_peek_16 : decode cX5_peek 16 = .ok (.getfield 37, 3) := by decide +kernel
theorem dX5_peek_19 : decode cX5_peek 19 = .ok (.aload_n 0, 1) := by decide +kernel
theorem dX5_peek_20 : decode cX5_peek 20 = .ok (.getfield 43, 3) := by decide +kernel
theorem dX5_peek_23 : decode cX5_peek 23 = .ok (.isub, 1) := by decide +kernel
theorem dX5_peek_24 : decode cX5_peek 24 = .ok (.iconst 4, 1) := by decide +kernel
theorem dX5_peek_25 : decode cX5_peek 25 = .ok (.if_icmp .gt 19, 3) := by decide +kernel
theorem dX5_peek_28 : decode cX5_peek 28 = .ok (.aload_n 0, 1) := by decide +kernel
theorem dX5_peek_29 : decode cX5_peek 29 = .ok (.getfield 46, 3) := by decide +kernel
theorem dX5_peek_32 : decode cX5_peek 32 = .ok (.iload_n 1, 1) := by decide +kernel
theorem dX5_peek_33 : decode cX5_peek 33 = .ok (.if_icmp .lt 11, 3) := by decide +kernel
theorem dX5_peek_36 : decode cX5_peek 36 = .ok (.aload_n 0, 1) := by decide +kernel
theorem dX5_peek_37 : decode cX5_peek 37 = .ok (.getfield 46, 3) := by decide +kernel
theorem dX5_peek_40 : decode cX5_peek 40 = .ok (.iload_n 2, 1) := by decide +kernel
theorem dX5_peek_41 : decode cX5_peek 41 = .ok (.if_icmp .le 10, 3) := by decide +kernel
theorem dX5_peek_44 : decode cX5_peek 44 = .ok (.aload_n 0, 1) := by decide +kernel
theorem dX5_peek_45 : decode cX5_peek 45 = .ok (.iconst 2, 1) := by decide +kernel
theorem dX5_peek_46 : decode cX5_peek 46 = .ok (.invokevirtual 129, 3) := by decide +kernel
theorem dX5_peek_49 : decode cX5_peek 49 = .ok (.iconst 0, 1) := by decide +kernel
theorem dX5_peek_50 : decode cX5_peek 50 = .ok (.ireturn, 1) := by decide +kernel
theorem dX5_peek_51 : decode cX5_peek 51 = .ok (.aload_n 0, 1) := by decide +kernel
theorem dX5_peek_52 : decode cX5_peek 52 = .ok (.getfield 46, 3) := by decide +kernel
theorem dX5_peek_55 : decode cX5_peek 55 = .ok (.ireturn, 1) := by decide +kernel
theorem dX5_take_0 : decode cX5_take 0 = .ok (.aload_n 0, 1) := by decide +kernel
theorem dX5_take_1 : decode cX5_take 1 = .ok (.iload_n 1, 1) := by decide +kernel
theorem dX5_take_2 : decode cX5_take 2 = .ok (.iload_n 2, 1) := by decide +kernel
theorem dX5_take_3 : decode cX5_take 3 = .ok (.invokevirtual 150, 3) := by decide +kernel
theorem dX5_take_6 : decode cX5_take 6 = .ok (.istore_n 3, 1) := by decide +kernel
theorem dX5_take_7 : decode cX5_take 7 = .ok (.aload_n 0, 1) := by decide +kernel
theorem dX5_take_8 : decode cX5_take 8 = .ok (.invokevirtual 63, 3) := by decide +kernel
theorem dX5_take_11 : decode cX5_take 11 = .ok (.iload_n 3, 1) := by decide +kernel
theorem dX5_take_12 : decode cX5_take 12 = .ok (.ireturn, 1) := by decide +kernel
theorem dX5_pass_0 : decode cX5_pass 0 = .ok (.aload_n 0, 1) := by decide +kernel
theorem dX5_pass_1 : decode cX5_pass 1 = .ok (.iload_n 1, 1) := by decide +kernel
theorem dX5_pass_2 : decode cX5_pass 2 = .ok (.invokevirtual 162, 3) := by decide +kernel
theorem dX5_pass_5 : decode cX5_pass 5 = .ok (.ifCond .ne 8, 3) := by decide +kernel
theorem dX5_pass_8 : decode cX5_pass 8 = .ok (.aload_n 0, 1) := by decide +kernel
theorem dX5_pass_9 : decode cX5_pass 9 = .ok (.iconst 1, 1) := by decide +kernel
theorem dX5_pass_10 : decode cX5_pass 10 = .ok (.invokevirtual 129, 3) := by decide +kernel
theorem dX5_pass_13 : decode cX5_pass 13 = .ok (.aload_n 0, 1) := by decide +kernel
theorem dX5_pass_14 : decode cX5_pass 14 = .ok (.invokevirtual 63, 3) := by decide +kernel
theorem dX5_pass_17 : decode cX5_pass 17 = .ok (.return_, 1) := by decide +kernel
theorem dX5_fail_0 : decode cX5_fail 0 = .ok (.aload_n 0, 1) := by decide +kernel
theorem dX5_fail_1 : decode cX5_fail 1 = .ok (.getfield 27, 3) := by decide +kernel
theorem dX5_fail_4 : decode cX5_fail 4 = .ok (.ifCond .ne 16, 3) := by decide +kernel
theorem dX5_fail_7 : decode cX5_fail 7 = .ok (.aload_n 0, 1) := by decide +kernel
theorem dX5_fail_8 : decode cX5_fail 8 = .ok (.iload_n 1, 1) := by decide +kernel
theorem dX5_fail_9 : decode cX5_fail 9 = .ok (.putfield 27, 3) := by decide +kernel
theorem dX5_fail_12 : decode cX5_fail 12 = .ok (.aload_n 0, 1) := by decide +kernel
theorem dX5_fail_13 : decode cX5_fail 13 = .ok (.aload_n 0, 1) := by decide +kernel
theorem dX5_fail_14 : decode cX5_fail 14 = .ok (.getfield 43, 3) := by decide +kernel
theorem dX5_fail_17 : decode cX5_fail 17 = .ok (.putfield 31, 3) := by decide +kernel
theorem dX5_fail_20 : decode cX5_fail 20 = .ok (.return_, 1) := by decide +kernel
theorem dX5_isSign_0 : decode cX5_isSign 0 = .ok (.aload_n 0, 1) := by decide +kernel
theorem dX5_isSign_1 : decode cX5_isSign 1 = .ok (.getfield 27, 3) := by decide +kernel
theorem dX5_isSign_4 : decode cX5_isSign 4 = .ok (.ifCond .ne 30, 3) := by decide +kernel
theorem dX5_isSign_7 : decode cX5_isSign 7 = .ok (.aload_n 0, 1) := by decide +kernel
theorem dX5_isSign_8 : decode cX5_isSign 8 = .ok (.getfield 40, 3) := by decide +kernel
theorem dX5_isSign_11 : decode cX5_isSign 11 = .ok (.iconst 3, 1) := by decide +kernel
theorem dX5_isSign_12 : decode cX5_isSign 12 = .ok (.if_icmp .ne 22, 3) := by decide +kernel
theorem dX5_isSign_15 : decode cX5_isSign 15 = .ok (.aload_n 0, 1) := by decide +kernel
theorem dX5_isSign_16 : decode cX5_isSign 16 = .ok (.getfield 55, 3) := by decide +kernel
theorem dX5_isSign_19 : decode cX5_isSign 19 = .ok (.aload_n 0, 1) := by decide +kernel
theorem dX5_isSign_20 : decode cX5_isSign 20 = .ok (.getfield 43, 3) := by decide +kernel
theorem dX5_isSign_23 : decode cX5_isSign 23 = .ok (.invokevirtual 75, 3) := by decide +kernel
theorem dX5_isSign_26 : decode cX5_isSign 26 = .ok (.iload_n 1, 1) := by decide +kernel
theorem dX5_isSign_27 : decode cX5_isSign 27 = .ok (.if_icmp .ne 7, 3) := by decide +kernel
theorem dX5_isSign_30 : decode cX5_isSign 30 = .ok (.iconst 1, 1) := by decide +kernel
theorem dX5_isSign_31 : decode cX5_isSign 31 = .ok (.goto 4, 3) := by decide +kernel
theorem dX5_isSign_34 : decode cX5_isSign 34 = .ok (.iconst 0, 1) := by decide +kernel
theorem dX5_isSign_35 : decode cX5_isSign 35 = .ok (.ireturn, 1) := by decide +kernel
theorem dX5_isWord_0 : decode cX5_isWord 0 = .ok (.aload_n 0, 1) := by decide +kernel
theorem dX5_isWord_1 : decode cX5_isWord 1 = .ok (.getfield 27, 3) := by decide +kernel
theorem dX5_isWord_4 : decode cX5_isWord 4 = .ok (.ifCond .ne 27, 3) := by decide +kernel
theorem dX5_isWord_7 : decode cX5_isWord 7 = .ok (.aload_n 0, 1) := by decide +kernel
theorem dX5_isWord_8 : decode cX5_isWord 8 = .ok (.getfield 40, 3) := by decide +kernel
theorem dX5_isWord_11 : decode cX5_isWord 11 = .ok (.iconst 2, 1) := by decide +kernel
theorem dX5_isWord_12 : decode cX5_isWord 12 = .ok (.if_icmp .ne 19, 3) := by decide +kernel
theorem dX5_isWord_15 : decode cX5_isWord 15 = .ok (.aload_n 0, 1) := by decide +kernel
theorem dX5_isWord_16 : decode cX5_isWord 16 = .ok (.getfield 37, 3) := by decide +kernel
theorem dX5_isWord_19 : decode cX5_isWord 19 = .ok (.aload_n 0, 1) := by decide +kernel
theorem dX5_isWord_20 : decode cX5_isWord 20 = .ok (.getfield 43, 3) := by decide +kernel
theorem dX5_isWord_23 : decode cX5_isWord 23 = .ok (.isub, 1) := by decide +kernel
theorem dX5_isWord_24 : decode cX5_isWord 24 = .ok (.aload_n 1, 1) := by decide +kernel
theorem dX5_isWord_25 : decode cX5_isWord 25 = .ok (.invokevirtual 214, 3) := by decide +kernel
theorem dX5_isWord_28 : decode cX5_isWord 28 = .ok (.if_icmp .eq 5, 3) := by decide +kernel
theorem dX5_isWord_31 : decode cX5_isWord 31 = .ok (.iconst 0, 1) := by decide +kernel
theorem dX5_isWord_32 : decode cX5_isWord 32 = .ok (.ireturn, 1) := by decide +kernel
theorem dX5_isWord_33 : decode cX5_isWord 33 = .ok (.iconst 0, 1) := by decide +kernel
theorem dX5_isWord_34 : decode cX5_isWord 34 = .ok (.istore_n 2, 1) := by decide +kernel
theorem dX5_isWord_35 : decode cX5_isWord 35 = .ok (.iload_n 2, 1) := by decide +kernel
theorem dX5_isWord_36 : decode cX5_isWord 36 = .ok (.aload_n 1, 1) := by decide +kernel
theorem dX5_isWord_37 : decode cX5_isWord 37 = .ok (.invokevirtual 214, 3) := by decide +kernel
theorem dX5_isWord_40 : decode cX5_isWord 40 = .ok (.if_icmp .ge 32, 3) := by decide +kernel
theorem dX5_isWord_43 : decode cX5_isWord 43 = .ok (.aload_n 0, 1) := by decide +kernel
theorem dX5_isWord_44 : decode cX5_isWord 44 = .ok (.getfield 55, 3) := by decide +kernel
theorem dX5_isWord_47 : decode cX5_isWord 47 = .ok (.aload_n 0, 1) := by decide +kernel
theorem dX5_isWord_48 : decode cX5_isWord 48 = .ok (.getfield 43, 3) := by decide +kernel
theorem dX5_isWord_51 : decode cX5_isWord 51 = .ok (.iload_n 2, 1) := by decide +kernel
theorem dX5_isWord_52 : decode cX5_isWord 52 = .ok (.iadd, 1) := by decide +kernel
theorem dX5_isWord_53 : decode cX5_isWord 53 = .ok (.invokevirtual 75, 3) := by decide +kernel
theorem dX5_isWord_56 : decode cX5_isWord 56 = .ok (.aload_n 1, 1) := by decide +kernel
theorem dX5_isWord_57 : decode cX5_isWord 57 = .ok (.iload_n 2, 1) := by decide +kernel
theorem dX5_isWord_58 : decode cX5_isWord 58 = .ok (.invokevirtual 218, 3) := by decide +kernel
theorem dX5_isWord_61 : decode cX5_isWord 61 = .ok (.if_icmp .eq 5, 3) := by decide +kernel
theorem dX5_isWord_64 : decode cX5_isWord 64 = .ok (.iconst 0, 1) := by decide +kernel
theorem dX5_isWord_65 : decode cX5_isWord 65 = .ok (.ireturn, 1) := by decide +kernel
theorem dX5_isWord_66 : decode cX5_isWord 66 = .ok (.iinc 2 1, 3) := by decide +kernel
theorem dX5_isWord_69 : decode cX5_isWord 69 = .ok (.goto (-34), 3) := by decide +kernel
theorem dX5_isWord_72 : decode cX5_isWord 72 = .ok (.iconst 1, 1) := by decide +kernel
theorem dX5_isWord_73 : decode cX5_isWord 73 = .ok (.ireturn, 1) := by decide +kernel
theorem dX5_advance_0 : decode cX5_advance 0 = .ok (.aload_n 0, 1) := by decide +kernel
theorem dX5_advance_1 : decode cX5_advance 1 = .ok (.getfield 27, 3) := by decide +kernel
theorem dX5_advance_4 : decode cX5_advance 4 = .ok (.ifCond .eq 4, 3) := by decide +kernel
theorem dX5_advance_7 : decode cX5_advance 7 = .ok (.return_, 1) := by decide +kernel
theorem dX5_advance_8 : decode cX5_advance 8 = .ok (.aload_n 0, 1) := by decide +kernel
theorem dX5_advance_9 : decode cX5_advance 9 = .ok (.getfield 37, 3) := by decide +kernel
theorem dX5_advance_12 : decode cX5_advance 12 = .ok (.aload_n 0, 1) := by decide +kernel
theorem dX5_advance_13 : decode cX5_advance 13 = .ok (.getfield 34, 3) := by decide +kernel
theorem dX5_advance_16 : decode cX5_advance 16 = .ok (.if_icmp .ge 33, 3) := by decide +kernel
theorem dX5_advance_19 : decode cX5_advance 19 = .ok (.aload_n 0, 1) := by decide +kernel
theorem dX5_advance_20 : decode cX5_advance 20 = .ok (.getfield 55, 3) := by decide +kernel
theorem dX5_advance_23 : decode cX5_advance 23 = .ok (.aload_n 0, 1) := by decide +kernel
theorem dX5_advance_24 : decode cX5_advance 24 = .ok (.getfield 37, 3) := by decide +kernel
theorem dX5_advance_27 : decode cX5_advance 27 = .ok (.invokevirtual 75, 3) := by decide +kernel
theorem dX5_advance_30 : decode cX5_advance 30 = .ok (.invokestatic 222, 3) := by decide +kernel
theorem dX5_advance_33 : decode cX5_advance 33 = .ok (.ifCond .eq 16, 3) := by decide +kernel
theorem dX5_advance_36 : decode cX5_advance 36 = .ok (.aload_n 0, 1) := by decide +kernel
theorem dX5_advance_37 : decode cX5_advance 37 = .ok (.dup, 1) := by decide +kernel
theorem dX5_advance_38 : decode cX5_advance 38 = .ok (.getfield 37, 3) := by decide +kernel
theorem dX5_advance_41 : decode cX5_advance 41 = .ok (.iconst 1, 1) := by decide +kernel
theorem dX5_advance_42 : decode cX5_advance 42 = .ok (.iadd, 1) := by decide +kernel
theorem dX5_advance_43 : decode cX5_advance 43 = .ok (.putfield 37, 3) := by decide +kernel
theorem dX5_advance_46 : decode cX5_advance 46 = .ok (.goto (-38), 3) := by decide +kernel
theorem dX5_advance_49 : decode cX5_advance 49 = .ok (.aload_n 0, 1) := by decide +kernel
theorem dX5_advance_50 : decode cX5_advance 50 = .ok (.aload_n 0, 1) := by decide +kernel
theorem dX5_advance_51 : decode cX5_advance 51 = .ok (.getfield 37, 3) := by decide +kernel
theorem dX5_advance_54 : decode cX5_advance 54 = .ok (.putfield 43, 3) := by decide +kernel
theorem dX5_advance_57 : decode cX5_advance 57 = .ok (.aload_n 0, 1) := by decide +kernel
theorem dX5_advance_58 : decode cX5_advance 58 = .ok (.iconst 0, 1) := by decide +kernel
theorem dX5_advance_59 : decode cX5_advance 59 = .ok (.putfield 46, 3) := by decide +kernel
theorem dX5_advance_62 : decode cX5_advance 62 = .ok (.aload_n 0, 1) := by decide +kernel
theorem dX5_advance_63 : decode cX5_advance 63 = .ok (.getfield 55, 3) := by decide +kernel
theorem dX5_advance_66 : decode cX5_advance 66 = .ok (.aload_n 0, 1) := by decide +kernel
theorem dX5_advance_67 : decode cX5_advance 67 = .ok (.getfield 37, 3) := by decide +kernel
theorem dX5_advance_70 : decode cX5_advance 70 = .ok (.invokevirtual 75, 3) := by decide +kernel
theorem dX5_advance_73 : decode cX5_advance 73 = .ok (.istore_n 1, 1) := by decide +kernel
theorem dX5_advance_74 : decode cX5_advance 74 = .ok (.aload_n 0, 1) := by decide +kernel
theorem dX5_advance_75 : decode cX5_advance 75 = .ok (.getfield 37, 3) := by decide +kernel
theorem dX5_advance_78 : decode cX5_advance 78 = .ok (.aload_n 0, 1) := by decide +kernel
theorem dX5_advance_79 : decode cX5_advance 79 = .ok (.getfield 34, 3) := by decide +kernel
theorem dX5_advance_82 : decode cX5_advance 82 = .ok (.if_icmp .lt 11, 3) := by decide +kernel
theorem dX5_advance_85 : decode cX5_advance 85 = .ok (.aload_n 0, 1) := by decide +kernel
theorem dX5_advance_86 : decode cX5_advance 86 = .ok (.iconst 0, 1) := by decide +kernel
theorem dX5_advance_87 : decode cX5_advance 87 = .ok (.putfield 40, 3) := by decide +kernel
theorem dX5_advance_90 : decode cX5_advance 90 = .ok (.goto 170, 3) := by decide +kernel
theorem dX5_advance_93 : decode cX5_advance 93 = .ok (.iload_n 1, 1) := by decide +kernel
theorem dX5_advance_94 : decode cX5_advance 94 = .ok (.invokestatic 225, 3) := by decide +kernel
theorem dX5_advance_97 : decode cX5_advance 97 = .ok (.ifCond .eq 81, 3) := by decide +kernel
theorem dX5_advance_100 : decode cX5_advance 100 = .ok (.aload_n 0, 1) := by decide +kernel
theorem dX5_advance_101 : decode cX5_advance 101 = .ok (.iconst 1, 1) := by decide +kernel
theorem dX5_advance_102 : decode cX5_advance 102 = .ok (.putfield 40, 3) := by decide +kernel
theorem dX5_advance_105 : decode cX5_advance 105 = .ok (.aload_n 0, 1) := by decide +kernel
theorem dX5_advance_106 : decode cX5_advance 106 = .ok (.getfield 37, 3) := by decide +kernel
theorem dX5_advance_109 : decode cX5_advance 109 = .ok (.aload_n 0, 1) := by decide +kernel
theorem dX5_advance_110 : decode cX5_advance 110 = .ok (.getfield 34, 3) := by decide +kernel
theorem dX5_advance_113 : decode cX5_advance 113 = .ok (.if_icmp .ge 147, 3) := by decide +kernel
theorem dX5_advance_116 : decode cX5_advance 116 = .ok (.aload_n 0, 1) := by decide +kernel
theorem dX5_advance_117 : decode cX5_advance 117 = .ok (.getfield 55, 3) := by decide +kernel
theorem dX5_advance_120 : decode cX5_advance 120 = .ok (.aload_n 0, 1) := by decide +kernel
theorem dX5_advance_121 : decode cX5_advance 121 = .ok (.getfield 37, 3) := by decide +kernel
theorem dX5_advance_124 : decode cX5_advance 124 = .ok (.invokevirtual 75, 3) := by decide +kernel
theorem dX5_advance_127 : decode cX5_advance 127 = .ok (.invokestatic 225, 3) := by decide +kernel
theorem dX5_advance_130 : decode cX5_advance 130 = .ok (.ifCond .eq 130, 3) := by decide +kernel
theorem dX5_advance_133 : decode cX5_advance 133 = .ok (.aload_n 0, 1) := by decide +kernel
theorem dX5_advance_134 : decode cX5_advance 134 = .ok (.bipush 10, 2) := by decide +kernel
theorem dX5_advance_136 : decode cX5_advance 136 = .ok (.aload_n 0, 1) := by decide +kernel
theorem dX5_advance_137 : decode cX5_advance 137 = .ok (.getfield 46, 3) := by decide +kernel
theorem dX5_advance_140 : decode cX5_advance 140 = .ok (.imul, 1) := by decide +kernel
theorem dX5_advance_141 : decode cX5_advance 141 = .ok (.aload_n 0, 1) := by decide +kernel
theorem dX5_advance_142 : decode cX5_advance 142 = .ok (.getfield 55, 3) := by decide +kernel
theorem dX5_advance_145 : decode cX5_advance 145 = .ok (.aload_n 0, 1) := by decide +kernel
theorem dX5_advance_146 : decode cX5_advance 146 = .ok (.getfield 37, 3) := by decide +kernel
theorem dX5_advance_149 : decode cX5_advance 149 = .ok (.invokevirtual 75, 3) := by decide +kernel
theorem dX5_advance_152 : decode cX5_advance 152 = .ok (.iadd, 1) := by decide +kernel
theorem dX5_advance_153 : decode cX5_advance 153 = .ok (.bipush 48, 2) := by decide +kernel
theorem dX5_advance_155 : decode cX5_advance 155 = .ok (.isub, 1) := by decide +kernel
theorem dX5_advance_156 : decode cX5_advance 156 = .ok (.sipush 10000, 3) := by decide +kernel
theorem dX5_advance_159 : decode cX5_advance 159 = .ok (.invokestatic 228, 3) := by decide +kernel
theorem dX5_advance_162 : decode cX5_advance 162 = .ok (.putfield 46, 3) := by decide +kernel
theorem dX5_advance_165 : decode cX5_advance 165 = .ok (.aload_n 0, 1) := by decide +kernel
theorem dX5_advance_166 : decode cX5_advance 166 = .ok (.dup, 1) := by decide +kernel
theorem dX5_advance_167 : decode cX5_advance 167 = .ok (.getfield 37, 3) := by decide +kernel
theorem dX5_advance_170 : decode cX5_advance 170 = .ok (.iconst 1, 1) := by decide +kernel
theorem dX5_advance_171 : decode cX5_advance 171 = .ok (.iadd, 1) := by decide +kernel
theorem dX5_advance_172 : decode cX5_advance 172 = .ok (.putfield 37, 3) := by decide +kernel
theorem dX5_advance_175 : decode cX5_advance 175 = .ok (.goto (-70), 3) := by decide +kernel
theorem dX5_advance_178 : decode cX5_advance 178 = .ok (.iload_n 1, 1) := by decide +kernel
theorem dX5_advance_179 : decode cX5_advance 179 = .ok (.invokestatic 233, 3) := by decide +kernel
theorem dX5_advance_182 : decode cX5_advance 182 = .ok (.ifCond .eq 49, 3) := by decide +kernel
theorem dX5_advance_185 : decode cX5_advance 185 = .ok (.aload_n 0, 1) := by decide +kernel
theorem dX5_advance_186 : decode cX5_advance 186 = .ok (.iconst 2, 1) := by decide +kernel
theorem dX5_advance_187 : decode cX5_advance 187 = .ok (.putfield 40, 3) := by decide +kernel
theorem dX5_advance_190 : decode cX5_advance 190 = .ok (.aload_n 0, 1) := by decide +kernel
theorem dX5_advance_191 : decode cX5_advance 191 = .ok (.getfield 37, 3) := by decide +kernel
theorem dX5_advance_194 : decode cX5_advance 194 = .ok (.aload_n 0, 1) := by decide +kernel
theorem dX5_advance_195 : decode cX5_advance 195 = .ok (.getfield 34, 3) := by decide +kernel
theorem dX5_advance_198 : decode cX5_advance 198 = .ok (.if_icmp .ge 62, 3) := by decide +kernel
theorem dX5_advance_201 : decode cX5_advance 201 = .ok (.aload_n 0, 1) := by decide +kernel
theorem dX5_advance_202 : decode cX5_advance 202 = .ok (.getfield 55, 3) := by decide +kernel
theorem dX5_advance_205 : decode cX5_advance 205 = .ok (.aload_n 0, 1) := by decide +kernel
theorem dX5_advance_206 : decode cX5_advance 206 = .ok (.getfield 37, 3) := by decide +kernel
theorem dX5_advance_209 : decode cX5_advance 209 = .ok (.invokevirtual 75, 3) := by decide +kernel
theorem dX5_advance_212 : decode cX5_advance 212 = .ok (.invokestatic 233, 3) := by decide +kernel
theorem dX5_advance_215 : decode cX5_advance 215 = .ok (.ifCond .eq 45, 3) := by decide +kernel
theorem dX5_advance_218 : decode cX5_advance 218 = .ok (.aload_n 0, 1) := by decide +kernel
theorem dX5_advance_219 : decode cX5_advance 219 = .ok (.dup, 1) := by decide +kernel
theorem dX5_advance_220 : decode cX5_advance 220 = .ok (.getfield 37, 3) := by decide +kernel
theorem dX5_advance_223 : decode cX5_advance 223 = .ok (.iconst 1, 1) := by decide +kernel
theorem dX5_advance_224 : decode cX5_advance 224 = .ok (.iadd, 1) := by decide +kernel
theorem dX5_advance_225 : decode cX5_advance 225 = .ok (.putfield 37, 3) := by decide +kernel
theorem dX5_advance_228 : decode cX5_advance 228 = .ok (.goto (-38), 3) := by decide +kernel
theorem dX5_advance_231 : decode cX5_advance 231 = .ok (.aload_n 0, 1) := by decide +kernel
theorem dX5_advance_232 : decode cX5_advance 232 = .ok (.ldc 236, 2) := by decide +kernel
theorem dX5_advance_234 : decode cX5_advance 234 = .ok (.iload_n 1, 1) := by decide +kernel
theorem dX5_advance_235 : decode cX5_advance 235 = .ok (.i2c, 1) := by decide +kernel
theorem dX5_advance_236 : decode cX5_advance 236 = .ok (.invokevirtual 238, 3) := by decide +kernel
theorem dX5_advance_239 : decode cX5_advance 239 = .ok (.ifCond .lt 7, 3) := by decide +kernel
theorem dX5_advance_242 : decode cX5_advance 242 = .ok (.iconst 3, 1) := by decide +kernel
theorem dX5_advance_243 : decode cX5_advance 243 = .ok (.goto 4, 3) := by decide +kernel
theorem dX5_advance_246 : decode cX5_advance 246 = .ok (.iconst 4, 1) := by decide +kernel
theorem dX5_advance_247 : decode cX5_advance 247 = .ok (.putfield 40, 3) := by decide +kernel
theorem dX5_advance_250 : decode cX5_advance 250 = .ok (.aload_n 0, 1) := by decide +kernel
theorem dX5_advance_251 : decode cX5_advance 251 = .ok (.dup, 1) := by decide +kernel
theorem dX5_advance_252 : decode cX5_advance 252 = .ok (.getfield 37, 3) := by decide +kernel
theorem dX5_advance_255 : decode cX5_advance 255 = .ok (.iconst 1, 1) := by decide +kernel
theorem dX5_advance_256 : decode cX5_advance 256 = .ok (.iadd, 1) := by decide +kernel
theorem dX5_advance_257 : decode cX5_advance 257 = .ok (.putfield 37, 3) := by decide +kernel
theorem dX5_advance_260 : decode cX5_advance 260 = .ok (.return_, 1) := by decide +kernel
theorem dX5_isBlank_0 : decode cX5_isBlank 0 = .ok (.iload_n 0, 1) := by decide +kernel
theorem dX5_isBlank_1 : decode cX5_isBlank 1 = .ok (.bipush 32, 2) := by decide +kernel
theorem dX5_isBlank_3 : decode cX5_isBlank 3 = .ok (.if_icmp .eq 9, 3) := by decide +kernel
theorem dX5_isBlank_6 : decode cX5_isBlank 6 = .ok (.iload_n 0, 1) := by decide +kernel
theorem dX5_isBlank_7 : decode cX5_isBlank 7 = .ok (.bipush 10, 2) := by decide +kernel
theorem dX5_isBlank_9 : decode cX5_isBlank 9 = .ok (.if_icmp .ne 7, 3) := by decide +kernel
theorem dX5_isBlank_12 : decode cX5_isBlank 12 = .ok (.iconst 1, 1) := by decide +kernel
theorem dX5_isBlank_13 : decode cX5_isBlank 13 = .ok (.goto 4, 3) := by decide +kernel
theorem dX5_isBlank_16 : decode cX5_isBlank 16 = .ok (.iconst 0, 1) := by decide +kernel
theorem dX5_isBlank_17 : decode cX5_isBlank 17 = .ok (.ireturn, 1) := by decide +kernel
theorem dX5_isDigit_0 : decode cX5_isDigit 0 = .ok (.iload_n 0, 1) := by decide +kernel
theorem dX5_isDigit_1 : decode cX5_isDigit 1 = .ok (.bipush 48, 2) := by decide +kernel
theorem dX5_isDigit_3 : decode cX5_isDigit 3 = .ok (.if_icmp .lt 13, 3) := by decide +kernel
theorem dX5_isDigit_6 : decode cX5_isDigit 6 = .ok (.iload_n 0, 1) := by decide +kernel
theorem dX5_isDigit_7 : decode cX5_isDigit 7 = .ok (.bipush 57, 2) := by decide +kernel
theorem dX5_isDigit_9 : decode cX5_isDigit 9 = .ok (.if_icmp .gt 7, 3) := by decide +kernel
theorem dX5_isDigit_12 : decode cX5_isDigit 12 = .ok (.iconst 1, 1) := by decide +kernel
theorem dX5_isDigit_13 : decode cX5_isDigit 13 = .ok (.goto 4, 3) := by decide +kernel
theorem dX5_isDigit_16 : decode cX5_isDigit 16 = .ok (.iconst 0, 1) := by decide +kernel
theorem dX5_isDigit_17 : decode cX5_isDigit 17 = .ok (.ireturn, 1) := by decide +kernel
theorem dX5_isLetter_0 : decode cX5_isLetter 0 = .ok (.iload_n 0, 1) := by decide +kernel
theorem dX5_isLetter_1 : decode cX5_isLetter 1 = .ok (.bipush 97, 2) := by decide +kernel
theorem dX5_isLetter_3 : decode cX5_isLetter 3 = .ok (.if_icmp .lt 13, 3) := by decide +kernel
theorem dX5_isLetter_6 : decode cX5_isLetter 6 = .ok (.iload_n 0, 1) := by decide +kernel
theorem dX5_isLetter_7 : decode cX5_isLetter 7 = .ok (.bipush 122, 2) := by decide +kernel
theorem dX5_isLetter_9 : decode cX5_isLetter 9 = .ok (.if_icmp .gt 7, 3) := by decide +kernel
theorem dX5_isLetter_12 : decode cX5_isLetter 12 = .ok (.iconst 1, 1) := by decide +kernel
theorem dX5_isLetter_13 : decode cX5_isLetter 13 = .ok (.goto 4, 3) := by decide +kernel
theorem dX5_isLetter_16 : decode cX5_isLetter 16 = .ok (.iconst 0, 1) := by decide +kernel
theorem dX5_isLetter_17 : decode cX5_isLetter 17 = .ok (.ireturn, 1) := by decide +kernel
theorem dX6_init_0 : decode cX6_init 0 = .ok (.aload_n 0, 1) := by decide +kernel
theorem dX6_init_1 : decode cX6_init 1 = .ok (.invokespecial 3, 3) := by decide +kernel
theorem dX6_init_4 : decode cX6_init 4 = .ok (.aload_n 0, 1) := by decide +kernel
theorem dX6_init_5 : decode cX6_init 5 = .ok (.new 9, 3) := by decide +kernel
theorem dX6_init_8 : decode cX6_init 8 = .ok (.dup, 1) := by decide +kernel
theorem dX6_init_9 : decode cX6_init 9 = .ok (.bipush 64, 2) := by decide +kernel
theorem dX6_init_11 : decode cX6_init 11 = .ok (.invokespecial 11, 3) := by decide +kernel
theorem dX6_init_14 : decode cX6_init 14 = .ok (.putfield 14, 3) := by decide +kernel
theorem dX6_init_17 : decode cX6_init 17 = .ok (.aload_n 0, 1) := by decide +kernel
theorem dX6_init_18 : decode cX6_init 18 = .ok (.new 9, 3) := by decide +kernel
theorem dX6_init_21 : decode cX6_init 21 = .ok (.dup, 1) := by decide +kernel
theorem dX6_init_22 : decode cX6_init 22 = .ok (.sipush 700, 3) := by decide +kernel
theorem dX6_init_25 : decode cX6_init 25 = .ok (.invokespecial 11, 3) := by decide +kernel
theorem dX6_init_28 : decode cX6_init 28 = .ok (.putfield 20, 3) := by decide +kernel
theorem dX6_init_31 : decode cX6_init 31 = .ok (.aload_n 0, 1) := by decide +kernel
theorem dX6_init_32 : decode cX6_init 32 = .ok (.new 9, 3) := by decide +kernel
theorem dX6_init_35 : decode cX6_init 35 = .ok (.dup, 1) := by decide +kernel
theorem dX6_init_36 : decode cX6_init 36 = .ok (.bipush 6, 2) := by decide +kernel
theorem dX6_init_38 : decode cX6_init 38 = .ok (.invokespecial 11, 3) := by decide +kernel
theorem dX6_init_41 : decode cX6_init 41 = .ok (.putfield 23, 3) := by decide +kernel
theorem dX6_init_44 : decode cX6_init 44 = .ok (.aload_n 0, 1) := by decide +kernel
theorem dX6_init_45 : decode cX6_init 45 = .ok (.iconst 0, 1) := by decide +kernel
theorem dX6_init_46 : decode cX6_init 46 = .ok (.putfield 26, 3) := by decide +kernel
theorem dX6_init_49 : decode cX6_init 49 = .ok (.return_, 1) := by decide +kernel
theorem dX6_add_0 : decode cX6_add 0 = .ok (.aload_n 0, 1) := by decide +kernel
theorem dX6_add_1 : decode cX6_add 1 = .ok (.getfield 20, 3) := by decide +kernel
theorem dX6_add_4 : decode cX6_add 4 = .ok (.aload_n 0, 1) := by decide +kernel
theorem dX6_add_5 : decode cX6_add 5 = .ok (.getfield 26, 3) := by decide +kernel
theorem dX6_add_8 : decode cX6_add 8 = .ok (.iload_n 1, 1) := by decide +kernel
theorem dX6_add_9 : decode cX6_add 9 = .ok (.invokevirtual 30, 3) := by decide +kernel
theorem dX6_add_12 : decode cX6_add 12 = .ok (.aload_n 0, 1) := by decide +kernel
theorem dX6_add_13 : decode cX6_add 13 = .ok (.dup, 1) := by decide +kernel
theorem dX6_add_14 : decode cX6_add 14 = .ok (.getfield 26, 3) := by decide +kernel
theorem dX6_add_17 : decode cX6_add 17 = .ok (.iconst 1, 1) := by decide +kernel
theorem dX6_add_18 : decode cX6_add 18 = .ok (.iadd, 1) := by decide +kernel
theorem dX6_add_19 : decode cX6_add 19 = .ok (.putfield 26, 3) := by decide +kernel
theorem dX6_add_22 : decode cX6_add 22 = .ok (.return_, 1) := by decide +kernel
theorem dX6_give_0 : decode cX6_give 0 = .ok (.aload_n 0, 1) := by decide +kernel
theorem dX6_give_1 : decode cX6_give 1 = .ok (.getfield 23, 3) := by decide +kernel
theorem dX6_give_4 : decode cX6_give 4 = .ok (.iconst (-1), 1) := by decide +kernel
theorem dX6_give_5 : decode cX6_give 5 = .ok (.iload_n 1, 1) := by decide +kernel
theorem dX6_give_6 : decode cX6_give 6 = .ok (.isub, 1) := by decide +kernel
theorem dX6_give_7 : decode cX6_give 7 = .ok (.iload_n 2, 1) := by decide +kernel
theorem dX6_give_8 : decode cX6_give 8 = .ok (.invokevirtual 30, 3) := by decide +kernel
theorem dX6_give_11 : decode cX6_give 11 = .ok (.return_, 1) := by decide +kernel
theorem dX6_answer_0 : decode cX6_answer 0 = .ok (.iconst 0, 1) := by decide +kernel
theorem dX6_answer_1 : decode cX6_answer 1 = .ok (.istore_n 1, 1) := by decide +kernel
theorem dX6_answer_2 : decode cX6_answer 2 = .ok (.iconst 0, 1) := by decide +kernel
theorem dX6_answer_3 : decode cX6_answer 3 = .ok (.istore_n 2, 1) := by decide +kernel
theorem dX6_answer_4 : decode cX6_answer 4 = .ok (.iload_n 2, 1) := by decide +kernel
theorem dX6_answer_5 : decode cX6_answer 5 = .ok (.aload_n 0, 1) := by decide +kernel
theorem dX6_answer_6 : decode cX6_answer 6 = .ok (.getfield 26, 3) := by decide +kernel
theorem dX6_answer_9 : decode cX6_answer 9 = .ok (.if_icmp .ge 128, 3) := by decide +kernel
theorem dX6_answer_12 : decode cX6_answer 12 = .ok (.aload_n 0, 1) := by decide +kernel
theorem dX6_answer_13 : decode cX6_answer 13 = .ok (.getfield 20, 3) := by decide +kernel
theorem dX6_answer_16 : decode cX6_answer 16 = .ok (.iload_n 2, 1) := by decide +kernel
theorem dX6_answer_17 : decode cX6_answer 17 = .ok (.invokevirtual 34, 3) := by decide +kernel
theorem dX6_answer_20 : decode cX6_answer 20 = .ok (.istore_n 3, 1) := by decide +kernel
theorem dX6_answer_21 : decode cX6_answer 21 = .ok (.iload_n 3, 1) := by decide +kernel
theorem dX6_answer_22 : decode cX6_answer 22 = .ok (.bipush (-7), 2) := by decide +kernel
theorem dX6_answer_24 : decode cX6_answer 24 = .ok (.if_icmp .le 35, 3) := by decide +kernel
theorem dX6_answer_27 : decode cX6_answer 27 = .ok (.aload_n 0, 1) := by decide +kernel
theorem dX6_answer_28 : decode cX6_answer 28 = .ok (.getfield 14, 3) := by decide +kernel
theorem dX6_answer_31 : decode cX6_answer 31 = .ok (.iload_n 1, 1) := by decide +kernel
theorem dX6_answer_32 : decode cX6_answer 32 = .ok (.iload_n 3, 1) := by decide +kernel
theorem dX6_answer_33 : decode cX6_answer 33 = .ok (.ifCond .lt 7, 3) := by decide +kernel
theorem dX6_answer_36 : decode cX6_answer 36 = .ok (.iload_n 3, 1) := by decide +kernel
theorem dX6_answer_37 : decode cX6_answer 37 = .ok (.goto 13, 3) := by decide +kernel
theorem dX6_answer_40 : decode cX6_answer 40 = .ok (.aload_n 0, 1) := by decide +kernel
theorem dX6_answer_41 : decode cX6_answer 41 = .ok (.getfield 23, 3) := by decide +kernel
theorem dX6_answer_44 : decode cX6_answer 44 = .ok (.iconst (-1), 1) := by decide +kernel
theorem dX6_answer_45 : decode cX6_answer 45 = .ok (.iload_n 3, 1) := by decide +kernel
theorem dX6_answer_46 : decode cX6_answer 46 = .ok (.isub, 1) := by decide +kernel
theorem dX6_answer_47 : decode cX6_answer 47 = .ok (.invokevirtual 34, 3) := by decide +kernel
theorem dX6_answer_50 : decode cX6_answer 50 = .ok (.invokevirtual 30, 3) := by decide +kernel
theorem dX6_answer_53 : decode cX6_answer 53 = .ok (.iinc 1 1, 3) := by decide +kernel
theorem dX6_answer_56 : decode cX6_answer 56 = .ok (.goto 75, 3) := by decide +kernel
theorem dX6_answer_59 : decode cX6_answer 59 = .ok (.iload_n 3, 1) := by decide +kernel
theorem dX6_answer_60 : decode cX6_answer 60 = .ok (.bipush (-7), 2) := by decide +kernel
theorem dX6_answer_62 : decode cX6_answer 62 = .ok (.if_icmp .ne 34, 3) := by decide +kernel
theorem dX6_answer_65 : decode cX6_answer 65 = .ok (.aload_n 0, 1) := by decide +kernel
theorem dX6_answer_66 : decode cX6_answer 66 = .ok (.getfield 14, 3) := by decide +kernel
theorem dX6_answer_69 : decode cX6_answer 69 = .ok (.iload_n 1, 1) := by decide +kernel
theorem dX6_answer_70 : decode cX6_answer 70 = .ok (.iconst 1, 1) := by decide +kernel
theorem dX6_answer_71 : decode cX6_answer 71 = .ok (.isub, 1) := by decide +kernel
theorem dX6_answer_72 : decode cX6_answer 72 = .ok (.aload_n 0, 1) := by decide +kernel
theorem dX6_answer_73 : decode cX6_answer 73 = .ok (.getfield 14, 3) := by decide +kernel
theorem dX6_answer_76 : decode cX6_answer 76 = .ok (.iload_n 1, 1) := by decide +kernel
theorem dX6_answer_77 : decode cX6_answer 77 = .ok (.iconst 1, 1) := by decide +kernel
theorem dX6_answer_78 : decode cX6_answer 78 = .ok (.isub, 1) := by decide +kernel
theorem dX6_answer_79 : decode cX6_answer 79 = .ok (.invokevirtual 34, 3) := by decide +kernel
theorem dX6_answer_82 : decode cX6_answer 82 = .ok (.ifCond .ne 7, 3) := by decide +kernel
theorem dX6_answer_85 : decode cX6_answer 85 = .ok (.iconst 1, 1) := by decide +kernel
theorem dX6_answer_86 : decode cX6_answer 86 = .ok (.goto 4, 3) := by decide +kernel
theorem dX6_answer_89 : decode cX6_answer 89 = .ok (.iconst 0, 1) := by decide +kernel
theorem dX6_answer_90 : decode cX6_answer 90 = .ok (.invokevirtual 30, 3) := by decide +kernel
theorem dX6_answer_93 : decode cX6_answer 93 = .ok (.goto 38, 3) := by decide +kernel
theorem dX6_answer_96 : decode cX6_answer 96 = .ok (.iinc 1 (-1), 3) := by decide +kernel
theorem dX6_answer_99 : decode cX6_answer 99 = .ok (.aload_n 0, 1) := by decide +kernel
theorem dX6_answer_100 : decode cX6_answer 100 = .ok (.getfield 14, 3) := by decide +kernel
theorem dX6_answer_103 : decode cX6_answer 103 = .ok (.iload_n 1, 1) := by decide +kernel
theorem dX6_answer_104 : decode cX6_answer 104 = .ok (.iconst 1, 1) := by decide +kernel
theorem dX6_answer_105 : decode cX6_answer 105 = .ok (.isub, 1) := by decide +kernel
theorem dX6_answer_106 : decode cX6_answer 106 = .ok (.iload_n 3, 1) := by decide +kernel
theorem dX6_answer_107 : decode cX6_answer 107 = .ok (.aload_n 0, 1) := by decide +kernel
theorem dX6_answer_108 : decode cX6_answer 108 = .ok (.getfield 14, 3) := by decide +kernel
theorem dX6_answer_111 : decode cX6_answer 111 = .ok (.iload_n 1, 1) := by decide +kernel
theorem dX6_answer_112 : decode cX6_answer 112 = .ok (.iconst 1, 1) := by decide +kernel
theorem dX6_answer_113 : decode cX6_answer 113 = .ok (.isub, 1) := by decide +kernel
theorem dX6_answer_114 : decode cX6_answer 114 = .ok (.invokevirtual 34, 3) := by decide +kernel
theorem dX6_answer_117 : decode cX6_answer 117 = .ok (.aload_n 0, 1) := by decide +kernel
theorem dX6_answer_118 : decode cX6_answer 118 = .ok (.getfield 14, 3) := by decide +kernel
theorem dX6_answer_121 : decode cX6_answer 121 = .ok (.iload_n 1, 1) := by decide +kernel
theorem dX6_answer_122 : decode cX6_answer 122 = .ok (.invokevirtual 34, 3) := by decide +kernel
theorem dX6_answer_125 : decode cX6_answer 125 = .ok (.invokestatic 38, 3) := by decide +kernel
theorem dX6_answer_128 : decode cX6_answer 128 = .ok (.invokevirtual 30, 3) := by decide +kernel
theorem dX6_answer_131 : decode cX6_answer 131 = .ok (.iinc 2 1, 3) := by decide +kernel
theorem dX6_answer_134 : decode cX6_answer 134 = .ok (.goto (-130), 3) := by decide +kernel
theorem dX6_answer_137 : decode cX6_answer 137 = .ok (.aload_n 0, 1) := by decide +kernel
theorem dX6_answer_138 : decode cX6_answer 138 = .ok (.getfield 14, 3) := by decide +kernel
theorem dX6_answer_141 : decode cX6_answer 141 = .ok (.iconst 0, 1) := by decide +kernel
theorem dX6_answer_142 : decode cX6_answer 142 = .ok (.invokevirtual 34, 3) := by decide +kernel
theorem dX6_answer_145 : decode cX6_answer 145 = .ok (.ireturn, 1) := by decide +kernel
theorem dX6_joined_0 : decode cX6_joined 0 = .ok (.iload_n 0, 1) := by decide +kernel
theorem dX6_joined_1 : decode cX6_joined 1 = .ok (.tableswitch 103 (-14) (-8) #[89, 78, 67, 55, 51, 47, 43], 43) := by decide +kernel
theorem dX6_joined_44 : decode cX6_joined 44 = .ok (.iload_n 1, 1) := by decide +kernel
theorem dX6_joined_45 : decode cX6_joined 45 = .ok (.iload_n 2, 1) := by decide +kernel
theorem dX6_joined_46 : decode cX6_joined 46 = .ok (.iadd, 1) := by decide +kernel
theorem dX6_joined_47 : decode cX6_joined 47 = .ok (.ireturn, 1) := by decide +kernel
theorem dX6_joined_48 : decode cX6_joined 48 = .ok (.iload_n 1, 1) := by decide +kernel
theorem dX6_joined_49 : decode cX6_joined 49 = .ok (.iload_n 2, 1) := by decide +kernel
theorem dX6_joined_50 : decode cX6_joined 50 = .ok (.isub, 1) := by decide +kernel
theorem dX6_joined_51 : decode cX6_joined 51 = .ok (.ireturn, 1) := by decide +kernel
theorem dX6_joined_52 : decode cX6_joined 52 = .ok (.iload_n 1, 1) := by decide +kernel
theorem dX6_joined_53 : decode cX6_joined 53 = .ok (.iload_n 2, 1) := by decide +kernel
theorem dX6_joined_54 : decode cX6_joined 54 = .ok (.imul, 1) := by decide +kernel
theorem dX6_joined_55 : decode cX6_joined 55 = .ok (.ireturn, 1) := by decide +kernel
theorem dX6_joined_56 : decode cX6_joined 56 = .ok (.iload_n 2, 1) := by decide +kernel
theorem dX6_joined_57 : decode cX6_joined 57 = .ok (.ifCond .ne 7, 3) := by decide +kernel
theorem dX6_joined_60 : decode cX6_joined 60 = .ok (.iconst 0, 1) := by decide +kernel
theorem dX6_joined_61 : decode cX6_joined 61 = .ok (.goto 6, 3) := by decide +kernel
theorem dX6_joined_64 : decode cX6_joined 64 = .ok (.iload_n 1, 1) := by decide +kernel
theorem dX6_joined_65 : decode cX6_joined 65 = .ok (.iload_n 2, 1) := by decide +kernel
theorem dX6_joined_66 : decode cX6_joined 66 = .ok (.idiv, 1) := by decide +kernel
theorem dX6_joined_67 : decode cX6_joined 67 = .ok (.ireturn, 1) := by decide +kernel
theorem dX6_joined_68 : decode cX6_joined 68 = .ok (.iload_n 1, 1) := by decide +kernel
theorem dX6_joined_69 : decode cX6_joined 69 = .ok (.iload_n 2, 1) := by decide +kernel
theorem dX6_joined_70 : decode cX6_joined 70 = .ok (.if_icmp .ge 7, 3) := by decide +kernel
theorem dX6_joined_73 : decode cX6_joined 73 = .ok (.iconst 1, 1) := by decide +kernel
theorem dX6_joined_74 : decode cX6_joined 74 = .ok (.goto 4, 3) := by decide +kernel
theorem dX6_joined_77 : decode cX6_joined 77 = .ok (.iconst 0, 1) := by decide +kernel
theorem dX6_joined_78 : decode cX6_joined 78 = .ok (.ireturn, 1) := by decide +kernel
theorem dX6_joined_79 : decode cX6_joined 79 = .ok (.iload_n 1, 1) := by decide +kernel
theorem dX6_joined_80 : decode cX6_joined 80 = .ok (.iload_n 2, 1) := by decide +kernel
theorem dX6_joined_81 : decode cX6_joined 81 = .ok (.if_icmp .ne 7, 3) := by decide +kernel
theorem dX6_joined_84 : decode cX6_joined 84 = .ok (.iconst 1, 1) := by decide +kernel
theorem dX6_joined_85 : decode cX6_joined 85 = .ok (.goto 4, 3) := by decide +kernel
theorem dX6_joined_88 : decode cX6_joined 88 = .ok (.iconst 0, 1) := by decide +kernel
theorem dX6_joined_89 : decode cX6_joined 89 = .ok (.ireturn, 1) := by decide +kernel
theorem dX6_joined_90 : decode cX6_joined 90 = .ok (.iload_n 1, 1) := by decide +kernel
theorem dX6_joined_91 : decode cX6_joined 91 = .ok (.ifCond .eq 11, 3) := by decide +kernel
theorem dX6_joined_94 : decode cX6_joined 94 = .ok (.iload_n 2, 1) := by decide +kernel
theorem dX6_joined_95 : decode cX6_joined 95 = .ok (.ifCond .eq 7, 3) := by decide +kernel
theorem dX6_joined_98 : decode cX6_joined 98 = .ok (.iconst 1, 1) := by decide +kernel
theorem dX6_joined_99 : decode cX6_joined 99 = .ok (.goto 4, 3) := by decide +kernel
theorem dX6_joined_102 : decode cX6_joined 102 = .ok (.iconst 0, 1) := by decide +kernel
theorem dX6_joined_103 : decode cX6_joined 103 = .ok (.ireturn, 1) := by decide +kernel
theorem dX6_joined_104 : decode cX6_joined 104 = .ok (.iload_n 1, 1) := by decide +kernel
theorem dX6_joined_105 : decode cX6_joined 105 = .ok (.ifCond .ne 7, 3) := by decide +kernel
theorem dX6_joined_108 : decode cX6_joined 108 = .ok (.iload_n 2, 1) := by decide +kernel
theorem dX6_joined_109 : decode cX6_joined 109 = .ok (.ifCond .eq 7, 3) := by decide +kernel
theorem dX6_joined_112 : decode cX6_joined 112 = .ok (.iconst 1, 1) := by decide +kernel
theorem dX6_joined_113 : decode cX6_joined 113 = .ok (.goto 4, 3) := by decide +kernel
theorem dX6_joined_116 : decode cX6_joined 116 = .ok (.iconst 0, 1) := by decide +kernel
theorem dX6_joined_117 : decode cX6_joined 117 = .ok (.ireturn, 1) := by decide +kernel
theorem dX6_copyFrom_0 : decode cX6_copyFrom 0 = .ok (.aload_n 0, 1) := by decide +kernel
theorem dX6_copyFrom_1 : decode cX6_copyFrom 1 = .ok (.getfield 20, 3) := by decide +kernel
theorem dX6_copyFrom_4 : decode cX6_copyFrom 4 = .ok (.aload_n 1, 1) := by decide +kernel
theorem dX6_copyFrom_5 : decode cX6_copyFrom 5 = .ok (.getfield 20, 3) := by decide +kernel
theorem dX6_copyFrom_8 : decode cX6_copyFrom 8 = .ok (.invokevirtual 42, 3) := by decide +kernel
theorem dX6_copyFrom_11 : decode cX6_copyFrom 11 = .ok (.aload_n 0, 1) := by decide +kernel
theorem dX6_copyFrom_12 : decode cX6_copyFrom 12 = .ok (.aload_n 1, 1) := by decide +kernel
theorem dX6_copyFrom_13 : decode cX6_copyFrom 13 = .ok (.getfield 26, 3) := by decide +kernel
theorem dX6_copyFrom_16 : decode cX6_copyFrom 16 = .ok (.putfield 26, 3) := by decide +kernel
theorem dX6_copyFrom_19 : decode cX6_copyFrom 19 = .ok (.return_, 1) := by decide +kernel
theorem dX7_init_0 : decode cX7_init 0 = .ok (.aload_n 0, 1) := by decide +kernel
theorem dX7_init_1 : decode cX7_init 1 = .ok (.invokespecial 3, 3) := by decide +kernel
theorem dX7_init_4 : decode cX7_init 4 = .ok (.aload_n 0, 1) := by decide +kernel
theorem dX7_init_5 : decode cX7_init 5 = .ok (.new 9, 3) := by decide +kernel
theorem dX7_init_8 : decode cX7_init 8 = .ok (.dup, 1) := by decide +kernel
theorem dX7_init_9 : decode cX7_init 9 = .ok (.bipush 8, 2) := by decide +kernel
theorem dX7_init_11 : decode cX7_init 11 = .ok (.invokespecial 11, 3) := by decide +kernel
theorem dX7_init_14 : decode cX7_init 14 = .ok (.putfield 14, 3) := by decide +kernel
theorem dX7_init_17 : decode cX7_init 17 = .ok (.aload_n 0, 1) := by decide +kernel
theorem dX7_init_18 : decode cX7_init 18 = .ok (.new 9, 3) := by decide +kernel
theorem dX7_init_21 : decode cX7_init 21 = .ok (.dup, 1) := by decide +kernel
theorem dX7_init_22 : decode cX7_init 22 = .ok (.bipush 8, 2) := by decide +kernel
theorem dX7_init_24 : decode cX7_init 24 = .ok (.invokespecial 11, 3) := by decide +kernel
theorem dX7_init_27 : decode cX7_init 27 = .ok (.putfield 20, 3) := by decide +kernel
theorem dX7_init_30 : decode cX7_init 30 = .ok (.aload_n 0, 1) := by decide +kernel
theorem dX7_init_31 : decode cX7_init 31 = .ok (.new 9, 3) := by decide +kernel
theorem dX7_init_34 : decode cX7_init 34 = .ok (.dup, 1) := by decide +kernel
theorem dX7_init_35 : decode cX7_init 35 = .ok (.bipush 8, 2) := by decide +kernel
theorem dX7_init_37 : decode cX7_init 37 = .ok (.invokespecial 11, 3) := by decide +kernel
theorem dX7_init_40 : decode cX7_init 40 = .ok (.putfield 23, 3) := by decide +kernel
theorem dX7_init_43 : decode cX7_init 43 = .ok (.aload_n 0, 1) := by decide +kernel
theorem dX7_init_44 : decode cX7_init 44 = .ok (.new 9, 3) := by decide +kernel
theorem dX7_init_47 : decode cX7_init 47 = .ok (.dup, 1) := by decide +kernel
theorem dX7_init_48 : decode cX7_init 48 = .ok (.bipush 8, 2) := by decide +kernel
theorem dX7_init_50 : decode cX7_init 50 = .ok (.invokespecial 11, 3) := by decide +kernel
theorem dX7_init_53 : decode cX7_init 53 = .ok (.putfield 26, 3) := by decide +kernel
theorem dX7_init_56 : decode cX7_init 56 = .ok (.aload_n 0, 1) := by decide +kernel
theorem dX7_init_57 : decode cX7_init 57 = .ok (.iconst 0, 1) := by decide +kernel
theorem dX7_init_58 : decode cX7_init 58 = .ok (.putfield 29, 3) := by decide +kernel
theorem dX7_init_61 : decode cX7_init 61 = .ok (.return_, 1) := by decide +kernel
theorem dX7_keep_0 : decode cX7_keep 0 = .ok (.aload_n 0, 1) := by decide +kernel
theorem dX7_keep_1 : decode cX7_keep 1 = .ok (.getfield 14, 3) := by decide +kernel
theorem dX7_keep_4 : decode cX7_keep 4 = .ok (.aload_n 0, 1) := by decide +kernel
theorem dX7_keep_5 : decode cX7_keep 5 = .ok (.getfield 29, 3) := by decide +kernel
theorem dX7_keep_8 : decode cX7_keep 8 = .ok (.iload_n 1, 1) := by decide +kernel
theorem dX7_keep_9 : decode cX7_keep 9 = .ok (.invokevirtual 33, 3) := by decide +kernel
theorem dX7_keep_12 : decode cX7_keep 12 = .ok (.aload_n 0, 1) := by decide +kernel
theorem dX7_keep_13 : decode cX7_keep 13 = .ok (.getfield 20, 3) := by decide +kernel
theorem dX7_keep_16 : decode cX7_keep 16 = .ok (.aload_n 0, 1) := by decide +kernel
theorem dX7_keep_17 : decode cX7_keep 17 = .ok (.getfield 29, 3) := by decide +kernel
theorem dX7_keep_20 : decode cX7_keep 20 = .ok (.iload_n 2, 1) := by decide +kernel
theorem dX7_keep_21 : decode cX7_keep 21 = .ok (.iconst 1, 1) := by decide +kernel
theorem dX7_keep_22 : decode cX7_keep 22 = .ok (.isub, 1) := by decide +kernel
theorem dX7_keep_23 : decode cX7_keep 23 = .ok (.invokevirtual 33, 3) := by decide +kernel
theorem dX7_keep_26 : decode cX7_keep 26 = .ok (.aload_n 0, 1) := by decide +kernel
theorem dX7_keep_27 : decode cX7_keep 27 = .ok (.getfield 23, 3) := by decide +kernel
theorem dX7_keep_30 : decode cX7_keep 30 = .ok (.aload_n 0, 1) := by decide +kernel
theorem dX7_keep_31 : decode cX7_keep 31 = .ok (.getfield 29, 3) := by decide +kernel
theorem dX7_keep_34 : decode cX7_keep 34 = .ok (.iload_n 3, 1) := by decide +kernel
theorem dX7_keep_35 : decode cX7_keep 35 = .ok (.invokevirtual 33, 3) := by decide +kernel
theorem dX7_keep_38 : decode cX7_keep 38 = .ok (.aload_n 0, 1) := by decide +kernel
theorem dX7_keep_39 : decode cX7_keep 39 = .ok (.getfield 26, 3) := by decide +kernel
theorem dX7_keep_42 : decode cX7_keep 42 = .ok (.aload_n 0, 1) := by decide +kernel
theorem dX7_keep_43 : decode cX7_keep 43 = .ok (.getfield 29, 3) := by decide +kernel
theorem dX7_keep_46 : decode cX7_keep 46 = .ok (.iload 4, 2) := by decide +kernel
theorem dX7_keep_48 : decode cX7_keep 48 = .ok (.invokevirtual 33, 3) := by decide +kernel
theorem dX7_keep_51 : decode cX7_keep 51 = .ok (.aload_n 0, 1) := by decide +kernel
theorem dX7_keep_52 : decode cX7_keep 52 = .ok (.dup, 1) := by decide +kernel
theorem dX7_keep_53 : decode cX7_keep 53 = .ok (.getfield 29, 3) := by decide +kernel
theorem dX7_keep_56 : decode cX7_keep 56 = .ok (.iconst 1, 1) := by decide +kernel
theorem dX7_keep_57 : decode cX7_keep 57 = .ok (.iadd, 1) := by decide +kernel
theorem dX7_keep_58 : decode cX7_keep 58 = .ok (.putfield 29, 3) := by decide +kernel
theorem dX7_keep_61 : decode cX7_keep 61 = .ok (.aload_n 0, 1) := by decide +kernel
theorem dX7_keep_62 : decode cX7_keep 62 = .ok (.getfield 29, 3) := by decide +kernel
theorem dX7_keep_65 : decode cX7_keep 65 = .ok (.ireturn, 1) := by decide +kernel
theorem dX7_allHold_0 : decode cX7_allHold 0 = .ok (.iconst 0, 1) := by decide +kernel
theorem dX7_allHold_1 : decode cX7_allHold 1 = .ok (.istore_n 2, 1) := by decide +kernel
theorem dX7_allHold_2 : decode cX7_allHold 2 = .ok (.iload_n 2, 1) := by decide +kernel
theorem dX7_allHold_3 : decode cX7_allHold 3 = .ok (.aload_n 0, 1) := by decide +kernel
theorem dX7_allHold_4 : decode cX7_allHold 4 = .ok (.getfield 29, 3) := by decide +kernel
theorem dX7_allHold_7 : decode cX7_allHold 7 = .ok (.if_icmp .ge 55, 3) := by decide +kernel
theorem dX7_allHold_10 : decode cX7_allHold 10 = .ok (.aload_n 1, 1) := by decide +kernel
theorem dX7_allHold_11 : decode cX7_allHold 11 = .ok (.aload_n 0, 1) := by decide +kernel
theorem dX7_allHold_12 : decode cX7_allHold 12 = .ok (.getfield 14, 3) := by decide +kernel
theorem dX7_allHold_15 : decode cX7_allHold 15 = .ok (.iload_n 2, 1) := by decide +kernel
theorem dX7_allHold_16 : decode cX7_allHold 16 = .ok (.invokevirtual 37, 3) := by decide +kernel
theorem dX7_allHold_19 : decode cX7_allHold 19 = .ok (.aload_n 0, 1) := by decide +kernel
theorem dX7_allHold_20 : decode cX7_allHold 20 = .ok (.getfield 20, 3) := by decide +kernel
theorem dX7_allHold_23 : decode cX7_allHold 23 = .ok (.iload_n 2, 1) := by decide +kernel
theorem dX7_allHold_24 : decode cX7_allHold 24 = .ok (.invokevirtual 37, 3) := by decide +kernel
theorem dX7_allHold_27 : decode cX7_allHold 27 = .ok (.invokevirtual 41, 3) := by decide +kernel
theorem dX7_allHold_30 : decode cX7_allHold 30 = .ok (.istore_n 3, 1) := by decide +kernel
theorem dX7_allHold_31 : decode cX7_allHold 31 = .ok (.iload_n 3, 1) := by decide +kernel
theorem dX7_allHold_32 : decode cX7_allHold 32 = .ok (.aload_n 0, 1) := by decide +kernel
theorem dX7_allHold_33 : decode cX7_allHold 33 = .ok (.getfield 23, 3) := by decide +kernel
theorem dX7_allHold_36 : decode cX7_allHold 36 = .ok (.iload_n 2, 1) := by decide +kernel
theorem dX7_allHold_37 : decode cX7_allHold 37 = .ok (.invokevirtual 37, 3) := by decide +kernel
theorem dX7_allHold_40 : decode cX7_allHold 40 = .ok (.ishr, 1) := by decide +kernel
theorem dX7_allHold_41 : decode cX7_allHold 41 = .ok (.iconst 1, 1) := by decide +kernel
theorem dX7_allHold_42 : decode cX7_allHold 42 = .ok (.iand, 1) := by decide +kernel
theorem dX7_allHold_43 : decode cX7_allHold 43 = .ok (.aload_n 0, 1) := by decide +kernel
theorem dX7_allHold_44 : decode cX7_allHold 44 = .ok (.getfield 26, 3) := by decide +kernel
theorem dX7_allHold_47 : decode cX7_allHold 47 = .ok (.iload_n 2, 1) := by decide +kernel
theorem dX7_allHold_48 : decode cX7_allHold 48 = .ok (.invokevirtual 37, 3) := by decide +kernel
theorem dX7_allHold_51 : decode cX7_allHold 51 = .ok (.if_icmp .eq 5, 3) := by decide +kernel
theorem dX7_allHold_54 : decode cX7_allHold 54 = .ok (.iconst 0, 1) := by decide +kernel
theorem dX7_allHold_55 : decode cX7_allHold 55 = .ok (.ireturn, 1) := by decide +kernel
theorem dX7_allHold_56 : decode cX7_allHold 56 = .ok (.iinc 2 1, 3) := by decide +kernel
theorem dX7_allHold_59 : decode cX7_allHold 59 = .ok (.goto (-57), 3) := by decide +kernel
theorem dX7_allHold_62 : decode cX7_allHold 62 = .ok (.iconst 1, 1) := by decide +kernel
theorem dX7_allHold_63 : decode cX7_allHold 63 = .ok (.ireturn, 1) := by decide +kernel
theorem dX7_copyFrom_0 : decode cX7_copyFrom 0 = .ok (.aload_n 0, 1) := by decide +kernel
theorem dX7_copyFrom_1 : decode cX7_copyFrom 1 = .ok (.getfield 14, 3) := by decide +kernel
theorem dX7_copyFrom_4 : decode cX7_copyFrom 4 = .ok (.aload_n 1, 1) := by decide +kernel
theorem dX7_copyFrom_5 : decode cX7_copyFrom 5 = .ok (.getfield 14, 3) := by decide +kernel
theorem dX7_copyFrom_8 : decode cX7_copyFrom 8 = .ok (.invokevirtual 47, 3) := by decide +kernel
theorem dX7_copyFrom_11 : decode cX7_copyFrom 11 = .ok (.aload_n 0, 1) := by decide +kernel
theorem dX7_copyFrom_12 : decode cX7_copyFrom 12 = .ok (.getfield 20, 3) := by decide +kernel
theorem dX7_copyFrom_15 : decode cX7_copyFrom 15 = .ok (.aload_n 1, 1) := by decide +kernel
theorem dX7_copyFrom_16 : decode cX7_copyFrom 16 = .ok (.getfield 20, 3) := by decide +kernel
theorem dX7_copyFrom_19 : decode cX7_copyFrom 19 = .ok (.invokevirtual 47, 3) := by decide +kernel
theorem dX7_copyFrom_22 : decode cX7_copyFrom 22 = .ok (.aload_n 0, 1) := by decide +kernel
theorem dX7_copyFrom_23 : decode cX7_copyFrom 23 = .ok (.getfield 23, 3) := by decide +kernel
theorem dX7_copyFrom_26 : decode cX7_copyFrom 26 = .ok (.aload_n 1, 1) := by decide +kernel
theorem dX7_copyFrom_27 : decode cX7_copyFrom 27 = .ok (.getfield 23, 3) := by decide +kernel
theorem dX7_copyFrom_30 : decode cX7_copyFrom 30 = .ok (.invokevirtual 47, 3) := by decide +kernel
theorem dX7_copyFrom_33 : decode cX7_copyFrom 33 = .ok (.aload_n 0, 1) := by decide +kernel
theorem dX7_copyFrom_34 : decode cX7_copyFrom 34 = .ok (.getfield 26, 3) := by decide +kernel
theorem dX7_copyFrom_37 : decode cX7_copyFrom 37 = .ok (.aload_n 1, 1) := by decide +kernel
theorem dX7_copyFrom_38 : decode cX7_copyFrom 38 = .ok (.getfield 26, 3) := by decide +kernel
theorem dX7_copyFrom_41 : decode cX7_copyFrom 41 = .ok (.invokevirtual 47, 3) := by decide +kernel
theorem dX7_copyFrom_44 : decode cX7_copyFrom 44 = .ok (.aload_n 0, 1) := by decide +kernel
theorem dX7_copyFrom_45 : decode cX7_copyFrom 45 = .ok (.aload_n 1, 1) := by decide +kernel
theorem dX7_copyFrom_46 : decode cX7_copyFrom 46 = .ok (.getfield 29, 3) := by decide +kernel
theorem dX7_copyFrom_49 : decode cX7_copyFrom 49 = .ok (.putfield 29, 3) := by decide +kernel
theorem dX7_copyFrom_52 : decode cX7_copyFrom 52 = .ok (.return_, 1) := by decide +kernel
theorem dX8_init_0 : decode cX8_init 0 = .ok (.aload_n 0, 1) := by decide +kernel
theorem dX8_init_1 : decode cX8_init 1 = .ok (.invokespecial 1, 3) := by decide +kernel
theorem dX8_init_4 : decode cX8_init 4 = .ok (.aload_n 0, 1) := by decide +kernel
theorem dX8_init_5 : decode cX8_init 5 = .ok (.new 7, 3) := by decide +kernel
theorem dX8_init_8 : decode cX8_init 8 = .ok (.dup, 1) := by decide +kernel
theorem dX8_init_9 : decode cX8_init 9 = .ok (.invokespecial 9, 3) := by decide +kernel
theorem dX8_init_12 : decode cX8_init 12 = .ok (.putfield 10, 3) := by decide +kernel
theorem dX8_init_15 : decode cX8_init 15 = .ok (.aload_n 0, 1) := by decide +kernel
theorem dX8_init_16 : decode cX8_init 16 = .ok (.new 16, 3) := by decide +kernel
theorem dX8_init_19 : decode cX8_init 19 = .ok (.dup, 1) := by decide +kernel
theorem dX8_init_20 : decode cX8_init 20 = .ok (.invokespecial 18, 3) := by decide +kernel
theorem dX8_init_23 : decode cX8_init 23 = .ok (.putfield 19, 3) := by decide +kernel
theorem dX8_init_26 : decode cX8_init 26 = .ok (.aload_n 0, 1) := by decide +kernel
theorem dX8_init_27 : decode cX8_init 27 = .ok (.new 23, 3) := by decide +kernel
theorem dX8_init_30 : decode cX8_init 30 = .ok (.dup, 1) := by decide +kernel
theorem dX8_init_31 : decode cX8_init 31 = .ok (.aload_n 1, 1) := by decide +kernel
theorem dX8_init_32 : decode cX8_init 32 = .ok (.invokespecial 25, 3) := by decide +kernel
theorem dX8_init_35 : decode cX8_init 35 = .ok (.putfield 28, 3) := by decide +kernel
theorem dX8_init_38 : decode cX8_init 38 = .ok (.return_, 1) := by decide +kernel
theorem dX8_copyFrom_0 : decode cX8_copyFrom 0 = .ok (.aload_n 0, 1) := by decide +kernel
theorem dX8_copyFrom_1 : decode cX8_copyFrom 1 = .ok (.getfield 28, 3) := by decide +kernel
theorem dX8_copyFrom_4 : decode cX8_copyFrom 4 = .ok (.aload_n 1, 1) := by decide +kernel
theorem dX8_copyFrom_5 : decode cX8_copyFrom 5 = .ok (.getfield 28, 3) := by decide +kernel
theorem dX8_copyFrom_8 : decode cX8_copyFrom 8 = .ok (.invokevirtual 32, 3) := by decide +kernel
theorem dX8_copyFrom_11 : decode cX8_copyFrom 11 = .ok (.aload_n 0, 1) := by decide +kernel
theorem dX8_copyFrom_12 : decode cX8_copyFrom 12 = .ok (.getfield 10, 3) := by decide +kernel
theorem dX8_copyFrom_15 : decode cX8_copyFrom 15 = .ok (.aload_n 1, 1) := by decide +kernel
theorem dX8_copyFrom_16 : decode cX8_copyFrom 16 = .ok (.getfield 10, 3) := by decide +kernel
theorem dX8_copyFrom_19 : decode cX8_copyFrom 19 = .ok (.invokevirtual 36, 3) := by decide +kernel
theorem dX8_copyFrom_22 : decode cX8_copyFrom 22 = .ok (.aload_n 0, 1) := by decide +kernel
theorem dX8_copyFrom_23 : decode cX8_copyFrom 23 = .ok (.getfield 19, 3) := by decide +kernel
theorem dX8_copyFrom_26 : decode cX8_copyFrom 26 = .ok (.aload_n 1, 1) := by decide +kernel
theorem dX8_copyFrom_27 : decode cX8_copyFrom 27 = .ok (.getfield 19, 3) := by decide +kernel
theorem dX8_copyFrom_30 : decode cX8_copyFrom 30 = .ok (.invokevirtual 39, 3) := by decide +kernel
theorem dX8_copyFrom_33 : decode cX8_copyFrom 33 = .ok (.return_, 1) := by decide +kernel
theorem dX9_init_0 : decode cX9_init 0 = .ok (.aload_n 0, 1) := by decide +kernel
theorem dX9_init_1 : decode cX9_init 1 = .ok (.invokespecial 3, 3) := by decide +kernel
theorem dX9_init_4 : decode cX9_init 4 = .ok (.aload_n 0, 1) := by decide +kernel
theorem dX9_init_5 : decode cX9_init 5 = .ok (.new 9, 3) := by decide +kernel
theorem dX9_init_8 : decode cX9_init 8 = .ok (.dup, 1) := by decide +kernel
theorem dX9_init_9 : decode cX9_init 9 = .ok (.bipush 96, 2) := by decide +kernel
theorem dX9_init_11 : decode cX9_init 11 = .ok (.invokespecial 11, 3) := by decide +kernel
theorem dX9_init_14 : decode cX9_init 14 = .ok (.putfield 14, 3) := by decide +kernel
theorem dX9_init_17 : decode cX9_init 17 = .ok (.aload_n 0, 1) := by decide +kernel
theorem dX9_init_18 : decode cX9_init 18 = .ok (.new 9, 3) := by decide +kernel
theorem dX9_init_21 : decode cX9_init 21 = .ok (.dup, 1) := by decide +kernel
theorem dX9_init_22 : decode cX9_init 22 = .ok (.bipush 96, 2) := by decide +kernel
theorem dX9_init_24 : decode cX9_init 24 = .ok (.invokespecial 11, 3) := by decide +kernel
theorem dX9_init_27 : decode cX9_init 27 = .ok (.putfield 20, 3) := by decide +kernel
theorem dX9_init_30 : decode cX9_init 30 = .ok (.aload_n 0, 1) := by decide +kernel
theorem dX9_init_31 : decode cX9_init 31 = .ok (.new 9, 3) := by decide +kernel
theorem dX9_init_34 : decode cX9_init 34 = .ok (.dup, 1) := by decide +kernel
theorem dX9_init_35 : decode cX9_init 35 = .ok (.bipush 96, 2) := by decide +kernel
theorem dX9_init_37 : decode cX9_init 37 = .ok (.invokespecial 11, 3) := by decide +kernel
theorem dX9_init_40 : decode cX9_init 40 = .ok (.putfield 23, 3) := by decide +kernel
theorem dX9_init_43 : decode cX9_init 43 = .ok (.aload_n 0, 1) := by decide +kernel
theorem dX9_init_44 : decode cX9_init 44 = .ok (.iconst 0, 1) := by decide +kernel
theorem dX9_init_45 : decode cX9_init 45 = .ok (.putfield 26, 3) := by decide +kernel
theorem dX9_init_48 : decode cX9_init 48 = .ok (.return_, 1) := by decide +kernel
theorem dX9_gather_0 : decode cX9_gather 0 = .ok (.aload_n 0, 1) := by decide +kernel
theorem dX9_gather_1 : decode cX9_gather 1 = .ok (.iconst 0, 1) := by decide +kernel
theorem dX9_gather_2 : decode cX9_gather 2 = .ok (.putfield 26, 3) := by decide +kernel
theorem dX9_gather_5 : decode cX9_gather 5 = .ok (.iconst 0, 1) := by decide +kernel
theorem dX9_gather_6 : decode cX9_gather 6 = .ok (.istore_n 3, 1) := by decide +kernel
theorem dX9_gather_7 : decode cX9_gather 7 = .ok (.iload_n 3, 1) := by decide +kernel
theorem dX9_gather_8 : decode cX9_gather 8 = .ok (.aload_n 1, 1) := by decide +kernel
theorem dX9_gather_9 : decode cX9_gather 9 = .ok (.getfield 30, 3) := by decide +kernel
theorem dX9_gather_12 : decode cX9_gather 12 = .ok (.getfield 36, 3) := by decide +kernel
theorem dX9_gather_15 : decode cX9_gather 15 = .ok (.if_icmp .ge 87, 3) := by decide +kernel
theorem dX9_gather_18 : decode cX9_gather 18 = .ok (.iconst 0, 1) := by decide +kernel
theorem dX9_gather_19 : decode cX9_gather 19 = .ok (.istore 4, 2) := by decide +kernel
theorem dX9_gather_21 : decode cX9_gather 21 = .ok (.iload 4, 2) := by decide +kernel
theorem dX9_gather_23 : decode cX9_gather 23 = .ok (.aload_n 1, 1) := by decide +kernel
theorem dX9_gather_24 : decode cX9_gather 24 = .ok (.getfield 30, 3) := by decide +kernel
theorem dX9_gather_27 : decode cX9_gather 27 = .ok (.getfield 40, 3) := by decide +kernel
theorem dX9_gather_30 : decode cX9_gather 30 = .ok (.if_icmp .ge 66, 3) := by decide +kernel
theorem dX9_gather_33 : decode cX9_gather 33 = .ok (.aload_n 1, 1) := by decide +kernel
theorem dX9_gather_34 : decode cX9_gather 34 = .ok (.iload_n 3, 1) := by decide +kernel
theorem dX9_gather_35 : decode cX9_gather 35 = .ok (.iload 4, 2) := by decide +kernel
theorem dX9_gather_37 : decode cX9_gather 37 = .ok (.invokevirtual 42, 3) := by decide +kernel
theorem dX9_gather_40 : decode cX9_gather 40 = .ok (.aload_n 2, 1) := by decide +kernel
theorem dX9_gather_41 : decode cX9_gather 41 = .ok (.aload_n 1, 1) := by decide +kernel
theorem dX9_gather_42 : decode cX9_gather 42 = .ok (.invokevirtual 46, 3) := by decide +kernel
theorem dX9_gather_45 : decode cX9_gather 45 = .ok (.ifCond .eq 38, 3) := by decide +kernel
theorem dX9_gather_48 : decode cX9_gather 48 = .ok (.aload_n 0, 1) := by decide +kernel
theorem dX9_gather_49 : decode cX9_gather 49 = .ok (.getfield 14, 3) := by decide +kernel
theorem dX9_gather_52 : decode cX9_gather 52 = .ok (.aload_n 0, 1) := by decide +kernel
theorem dX9_gather_53 : decode cX9_gather 53 = .ok (.getfield 26, 3) := by decide +kernel
theorem dX9_gather_56 : decode cX9_gather 56 = .ok (.iload_n 3, 1) := by decide +kernel
theorem dX9_gather_57 : decode cX9_gather 57 = .ok (.invokevirtual 52, 3) := by decide +kernel
theorem dX9_gather_60 : decode cX9_gather 60 = .ok (.aload_n 0, 1) := by decide +kernel
theorem dX9_gather_61 : decode cX9_gather 61 = .ok (.getfield 20, 3) := by decide +kernel
theorem dX9_gather_64 : decode cX9_gather 64 = .ok (.aload_n 0, 1) := by decide +kernel
theorem dX9_gather_65 : decode cX9_gather 65 = .ok (.getfield 26, 3) := by decide +kernel
theorem dX9_gather_68 : decode cX9_gather 68 = .ok (.iload 4, 2) := by decide +kernel
theorem dX9_gather_70 : decode cX9_gather 70 = .ok (.invokevirtual 52, 3) := by decide +kernel
theorem dX9_gather_73 : decode cX9_gather 73 = .ok (.aload_n 0, 1) := by decide +kernel
theorem dX9_gather_74 : decode cX9_gather 74 = .ok (.dup, 1) := by decide +kernel
theorem dX9_gather_75 : decode cX9_gather 75 = .ok (.getfield 26, 3) := by decide +kernel
theorem dX9_gather_78 : decode cX9_gather 78 = .ok (.iconst 1, 1) := by decide +kernel
theorem dX9_gather_79 : decode cX9_gather 79 = .ok (.iadd, 1) := by decide +kernel
theorem dX9_gather_80 : decode cX9_gather 80 = .ok (.putfield 26, 3) := by decide +kernel
theorem dX9_gather_83 : decode cX9_gather 83 = .ok (.aload_n 1, 1) := by decide +kernel
theorem dX9_gather_84 : decode cX9_gather 84 = .ok (.iload_n 3, 1) := by decide +kernel
theorem dX9_gather_85 : decode cX9_gather 85 = .ok (.iload 4, 2) := by decide +kernel
theorem dX9_gather_87 : decode cX9_gather 87 = .ok (.invokevirtual 42, 3) := by decide +kernel
theorem dX9_gather_90 : decode cX9_gather 90 = .ok (.iinc 4 1, 3) := by decide +kernel
theorem dX9_gather_93 : decode cX9_gather 93 = .ok (.goto (-72), 3) := by decide +kernel
theorem dX9_gather_96 : decode cX9_gather 96 = .ok (.iinc 3 1, 3) := by decide +kernel
theorem dX9_gather_99 : decode cX9_gather 99 = .ok (.goto (-92), 3) := by decide +kernel
theorem dX9_gather_102 : decode cX9_gather 102 = .ok (.return_, 1) := by decide +kernel
theorem dX9_unlikeSounds_0 : decode cX9_unlikeSounds 0 = .ok (.iconst 0, 1) := by decide +kernel
theorem dX9_unlikeSounds_1 : decode cX9_unlikeSounds 1 = .ok (.istore_n 3, 1) := by decide +kernel
theorem dX9_unlikeSounds_2 : decode cX9_unlikeSounds 2 = .ok (.iconst 0, 1) := by decide +kernel
theorem dX9_unlikeSounds_3 : decode cX9_unlikeSounds 3 = .ok (.istore 4, 2) := by decide +kernel
theorem dX9_unlikeSounds_5 : decode cX9_unlikeSounds 5 = .ok (.iload 4, 2) := by decide +kernel
theorem dX9_unlikeSounds_7 : decode cX9_unlikeSounds 7 = .ok (.aload_n 0, 1) := by decide +kernel
theorem dX9_unlikeSounds_8 : decode cX9_unlikeSounds 8 = .ok (.getfield 26, 3) := by decide +kernel
theorem dX9_unlikeSounds_11 : decode cX9_unlikeSounds 11 = .ok (.if_icmp .ge 84, 3) := by decide +kernel
theorem dX9_unlikeSounds_14 : decode cX9_unlikeSounds 14 = .ok (.aload_n 1, 1) := by decide +kernel
theorem dX9_unlikeSounds_15 : decode cX9_unlikeSounds 15 = .ok (.aload_n 0, 1) := by decide +kernel
theorem dX9_unlikeSounds_16 : decode cX9_unlikeSounds 16 = .ok (.getfield 14, 3) := by decide +kernel
theorem dX9_unlikeSounds_19 : decode cX9_unlikeSounds 19 = .ok (.iload 4, 2) := by decide +kernel
theorem dX9_unlikeSounds_21 : decode cX9_unlikeSounds 21 = .ok (.invokevirtual 55, 3) := by decide +kernel
theorem dX9_unlikeSounds_24 : decode cX9_unlikeSounds 24 = .ok (.aload_n 0, 1) := by decide +kernel
theorem dX9_unlikeSounds_25 : decode cX9_unlikeSounds 25 = .ok (.getfield 20, 3) := by decide +kernel
theorem dX9_unlikeSounds_28 : decode cX9_unlikeSounds 28 = .ok (.iload 4, 2) := by decide +kernel
theorem dX9_unlikeSounds_30 : decode cX9_unlikeSounds 30 = .ok (.invokevirtual 55, 3) := by decide +kernel
theorem dX9_unlikeSounds_33 : decode cX9_unlikeSounds 33 = .ok (.invokevirtual 42, 3) := by decide +kernel
theorem dX9_unlikeSounds_36 : decode cX9_unlikeSounds 36 = .ok (.aload_n 1, 1) := by decide +kernel
theorem dX9_unlikeSounds_37 : decode cX9_unlikeSounds 37 = .ok (.iload_n 2, 1) := by decide +kernel
theorem dX9_unlikeSounds_38 : decode cX9_unlikeSounds 38 = .ok (.iconst 0, 1) := by decide +kernel
theorem dX9_unlikeSounds_39 : decode cX9_unlikeSounds 39 = .ok (.invokevirtual 59, 3) := by decide +kernel
theorem dX9_unlikeSounds_42 : decode cX9_unlikeSounds 42 = .ok (.istore 5, 2) := by decide +kernel
theorem dX9_unlikeSounds_44 : decode cX9_unlikeSounds 44 = .ok (.aload_n 1, 1) := by decide +kernel
theorem dX9_unlikeSounds_45 : decode cX9_unlikeSounds 45 = .ok (.aload_n 0, 1) := by decide +kernel
theorem dX9_unlikeSounds_46 : decode cX9_unlikeSounds 46 = .ok (.getfield 14, 3) := by decide +kernel
theorem dX9_unlikeSounds_49 : decode cX9_unlikeSounds 49 = .ok (.iload 4, 2) := by decide +kernel
theorem dX9_unlikeSounds_51 : decode cX9_unlikeSounds 51 = .ok (.invokevirtual 55, 3) := by decide +kernel
theorem dX9_unlikeSounds_54 : decode cX9_unlikeSounds 54 = .ok (.aload_n 0, 1) := by decide +kernel
theorem dX9_unlikeSounds_55 : decode cX9_unlikeSounds 55 = .ok (.getfield 20, 3) := by decide +kernel
theorem dX9_unlikeSounds_58 : decode cX9_unlikeSounds 58 = .ok (.iload 4, 2) := by decide +kernel
theorem dX9_unlikeSounds_60 : decode cX9_unlikeSounds 60 = .ok (.invokevirtual 55, 3) := by decide +kernel
theorem dX9_unlikeSounds_63 : decode cX9_unlikeSounds 63 = .ok (.invokevirtual 42, 3) := by decide +kernel
theorem dX9_unlikeSounds_66 : decode cX9_unlikeSounds 66 = .ok (.aload_n 0, 1) := by decide +kernel
theorem dX9_unlikeSounds_67 : decode cX9_unlikeSounds 67 = .ok (.iload 5, 2) := by decide +kernel
theorem dX9_unlikeSounds_69 : decode cX9_unlikeSounds 69 = .ok (.iload_n 3, 1) := by decide +kernel
theorem dX9_unlikeSounds_70 : decode cX9_unlikeSounds 70 = .ok (.invokevirtual 63, 3) := by decide +kernel
theorem dX9_unlikeSounds_73 : decode cX9_unlikeSounds 73 = .ok (.ifCond .ne 16, 3) := by decide +kernel
theorem dX9_unlikeSounds_76 : decode cX9_unlikeSounds 76 = .ok (.aload_n 0, 1) := by decide +kernel
theorem dX9_unlikeSounds_77 : decode cX9_unlikeSounds 77 = .ok (.getfield 23, 3) := by decide +kernel
theorem dX9_unlikeSounds_80 : decode cX9_unlikeSounds 80 = .ok (.iload_n 3, 1) := by decide +kernel
theorem dX9_unlikeSounds_81 : decode cX9_unlikeSounds 81 = .ok (.iload 5, 2) := by decide +kernel
theorem dX9_unlikeSounds_83 : decode cX9_unlikeSounds 83 = .ok (.invokevirtual 52, 3) := by decide +kernel
theorem dX9_unlikeSounds_86 : decode cX9_unlikeSounds 86 = .ok (.iinc 3 1, 3) := by decide +kernel
theorem dX9_unlikeSounds_89 : decode cX9_unlikeSounds 89 = .ok (.iinc 4 1, 3) := by decide +kernel
theorem dX9_unlikeSounds_92 : decode cX9_unlikeSounds 92 = .ok (.goto (-87), 3) := by decide +kernel
theorem dX9_unlikeSounds_95 : decode cX9_unlikeSounds 95 = .ok (.iload_n 3, 1) := by decide +kernel
theorem dX9_unlikeSounds_96 : decode cX9_unlikeSounds 96 = .ok (.ireturn, 1) := by decide +kernel
theorem dX9_isAmong_0 : decode cX9_isAmong 0 = .ok (.iconst 0, 1) := by decide +kernel
theorem dX9_isAmong_1 : decode cX9_isAmong 1 = .ok (.istore_n 3, 1) := by decide +kernel
theorem dX9_isAmong_2 : decode cX9_isAmong 2 = .ok (.iload_n 3, 1) := by decide +kernel
theorem dX9_isAmong_3 : decode cX9_isAmong 3 = .ok (.iload_n 2, 1) := by decide +kernel
theorem dX9_isAmong_4 : decode cX9_isAmong 4 = .ok (.if_icmp .ge 23, 3) := by decide +kernel
theorem dX9_isAmong_7 : decode cX9_isAmong 7 = .ok (.aload_n 0, 1) := by decide +kernel
theorem dX9_isAmong_8 : decode cX9_isAmong 8 = .ok (.getfield 23, 3) := by decide +kernel
theorem dX9_isAmong_11 : decode cX9_isAmong 11 = .ok (.iload_n 3, 1) := by decide +kernel
theorem dX9_isAmong_12 : decode cX9_isAmong 12 = .ok (.invokevirtual 55, 3) := by decide +kernel
theorem dX9_isAmong_15 : decode cX9_isAmong 15 = .ok (.iload_n 1, 1) := by decide +kernel
theorem dX9_isAmong_16 : decode cX9_isAmong 16 = .ok (.if_icmp .ne 5, 3) := by decide +kernel
theorem dX9_isAmong_19 : decode cX9_isAmong 19 = .ok (.iconst 1, 1) := by decide +kernel
theorem dX9_isAmong_20 : decode cX9_isAmong 20 = .ok (.ireturn, 1) := by decide +kernel
theorem dX9_isAmong_21 : decode cX9_isAmong 21 = .ok (.iinc 3 1, 3) := by decide +kernel
theorem dX9_isAmong_24 : decode cX9_isAmong 24 = .ok (.goto (-22), 3) := by decide +kernel
theorem dX9_isAmong_27 : decode cX9_isAmong 27 = .ok (.iconst 0, 1) := by decide +kernel
theorem dX9_isAmong_28 : decode cX9_isAmong 28 = .ok (.ireturn, 1) := by decide +kernel
theorem dX10_init_0 : decode cX10_init 0 = .ok (.aload_n 0, 1) := by decide +kernel
theorem dX10_init_1 : decode cX10_init 1 = .ok (.invokespecial 1, 3) := by decide +kernel
theorem dX10_init_4 : decode cX10_init 4 = .ok (.aload_n 0, 1) := by decide +kernel
theorem dX10_init_5 : decode cX10_init 5 = .ok (.new 7, 3) := by decide +kernel
theorem dX10_init_8 : decode cX10_init 8 = .ok (.dup, 1) := by decide +kernel
theorem dX10_init_9 : decode cX10_init 9 = .ok (.sipush 700, 3) := by decide +kernel
theorem dX10_init_12 : decode cX10_init 12 = .ok (.invokespecial 11, 3) := by decide +kernel
theorem dX10_init_15 : decode cX10_init 15 = .ok (.putfield 14, 3) := by decide +kernel
theorem dX10_init_18 : decode cX10_init 18 = .ok (.aload_n 0, 1) := by decide +kernel
theorem dX10_init_19 : decode cX10_init 19 = .ok (.iconst 0, 1) := by decide +kernel
theorem dX10_init_20 : decode cX10_init 20 = .ok (.putfield 18, 3) := by decide +kernel
theorem dX10_init_23 : decode cX10_init 23 = .ok (.aload_n 0, 1) := by decide +kernel
theorem dX10_init_24 : decode cX10_init 24 = .ok (.iconst (-1), 1) := by decide +kernel
theorem dX10_init_25 : decode cX10_init 25 = .ok (.putfield 22, 3) := by decide +kernel
theorem dX10_init_28 : decode cX10_init 28 = .ok (.aload_n 0, 1) := by decide +kernel
theorem dX10_init_29 : decode cX10_init 29 = .ok (.new 7, 3) := by decide +kernel
theorem dX10_init_32 : decode cX10_init 32 = .ok (.dup, 1) := by decide +kernel
theorem dX10_init_33 : decode cX10_init 33 = .ok (.iconst 3, 1) := by decide +kernel
theorem dX10_init_34 : decode cX10_init 34 = .ok (.invokespecial 11, 3) := by decide +kernel
theorem dX10_init_37 : decode cX10_init 37 = .ok (.putfield 25, 3) := by decide +kernel
theorem dX10_init_40 : decode cX10_init 40 = .ok (.aload_n 0, 1) := by decide +kernel
theorem dX10_init_41 : decode cX10_init 41 = .ok (.new 28, 3) := by decide +kernel
theorem dX10_init_44 : decode cX10_init 44 = .ok (.dup, 1) := by decide +kernel
theorem dX10_init_45 : decode cX10_init 45 = .ok (.invokespecial 30, 3) := by decide +kernel
theorem dX10_init_48 : decode cX10_init 48 = .ok (.putfield 31, 3) := by decide +kernel
theorem dX10_init_51 : decode cX10_init 51 = .ok (.aload_n 0, 1) := by decide +kernel
theorem dX10_init_52 : decode cX10_init 52 = .ok (.new 35, 3) := by decide +kernel
theorem dX10_init_55 : decode cX10_init 55 = .ok (.dup, 1) := by decide +kernel
theorem dX10_init_56 : decode cX10_init 56 = .ok (.aload_n 0, 1) := by decide +kernel
theorem dX10_init_57 : decode cX10_init 57 = .ok (.getfield 31, 3) := by decide +kernel
theorem dX10_init_60 : decode cX10_init 60 = .ok (.invokespecial 37, 3) := by decide +kernel
theorem dX10_init_63 : decode cX10_init 63 = .ok (.putfield 40, 3) := by decide +kernel
theorem dX10_init_66 : decode cX10_init 66 = .ok (.aload_n 0, 1) := by decide +kernel
theorem dX10_init_67 : decode cX10_init 67 = .ok (.new 35, 3) := by decide +kernel
theorem dX10_init_70 : decode cX10_init 70 = .ok (.dup, 1) := by decide +kernel
theorem dX10_init_71 : decode cX10_init 71 = .ok (.aload_n 0, 1) := by decide +kernel
theorem dX10_init_72 : decode cX10_init 72 = .ok (.getfield 31, 3) := by decide +kernel
theorem dX10_init_75 : decode cX10_init 75 = .ok (.invokespecial 37, 3) := by decide +kernel
theorem dX10_init_78 : decode cX10_init 78 = .ok (.putfield 44, 3) := by decide +kernel
theorem dX10_init_81 : decode cX10_init 81 = .ok (.aload_n 0, 1) := by decide +kernel
theorem dX10_init_82 : decode cX10_init 82 = .ok (.iconst 0, 1) := by decide +kernel
theorem dX10_init_83 : decode cX10_init 83 = .ok (.putfield 47, 3) := by decide +kernel
theorem dX10_init_86 : decode cX10_init 86 = .ok (.aload_n 0, 1) := by decide +kernel
theorem dX10_init_87 : decode cX10_init 87 = .ok (.aload_n 0, 1) := by decide +kernel
theorem dX10_init_88 : decode cX10_init 88 = .ok (.getfield 40, 3) := by decide +kernel
theorem dX10_init_91 : decode cX10_init 91 = .ok (.getfield 51, 3) := by decide +kernel
theorem dX10_init_94 : decode cX10_init 94 = .ok (.putfield 55, 3) := by decide +kernel
theorem dX10_init_97 : decode cX10_init 97 = .ok (.aload_n 0, 1) := by decide +kernel
theorem dX10_init_98 : decode cX10_init 98 = .ok (.new 56, 3) := by decide +kernel
theorem dX10_init_101 : decode cX10_init 101 = .ok (.dup, 1) := by decide +kernel
theorem dX10_init_102 : decode cX10_init 102 = .ok (.aload_n 0, 1) := by decide +kernel
theorem dX10_init_103 : decode cX10_init 103 = .ok (.getfield 31, 3) := by decide +kernel
theorem dX10_init_106 : decode cX10_init 106 = .ok (.invokespecial 58, 3) := by decide +kernel
theorem dX10_init_109 : decode cX10_init 109 = .ok (.putfield 59, 3) := by decide +kernel
theorem dX10_init_112 : decode cX10_init 112 = .ok (.aload_n 0, 1) := by decide +kernel
theorem dX10_init_113 : decode cX10_init 113 = .ok (.new 62, 3) := by decide +kernel
theorem dX10_init_116 : decode cX10_init 116 = .ok (.dup, 1) := by decide +kernel
theorem dX10_init_117 : decode cX10_init 117 = .ok (.aload_n 0, 1) := by decide +kernel
theorem dX10_init_118 : decode cX10_init 118 = .ok (.getfield 14, 3) := by decide +kernel
theorem dX10_init_121 : decode cX10_init 121 = .ok (.invokespecial 64, 3) := by decide +kernel
theorem dX10_init_124 : decode cX10_init 124 = .ok (.putfield 67, 3) := by decide +kernel
theorem dX10_init_127 : decode cX10_init 127 = .ok (.aload_n 0, 1) := by decide +kernel
theorem dX10_init_128 : decode cX10_init 128 = .ok (.new 71, 3) := by decide +kernel
theorem dX10_init_131 : decode cX10_init 131 = .ok (.dup, 1) := by decide +kernel
theorem dX10_init_132 : decode cX10_init 132 = .ok (.invokespecial 73, 3) := by decide +kernel
theorem dX10_init_135 : decode cX10_init 135 = .ok (.putfield 74, 3) := by decide +kernel
theorem dX10_init_138 : decode cX10_init 138 = .ok (.aload_n 0, 1) := by decide +kernel
theorem dX10_init_139 : decode cX10_init 139 = .ok (.new 78, 3) := by decide +kernel
theorem dX10_init_142 : decode cX10_init 142 = .ok (.dup, 1) := by decide +kernel
theorem dX10_init_143 : decode cX10_init 143 = .ok (.invokespecial 80, 3) := by decide +kernel
theorem dX10_init_146 : decode cX10_init 146 = .ok (.putfield 81, 3) := by decide +kernel
theorem dX10_init_149 : decode cX10_init 149 = .ok (.aload_n 0, 1) := by decide +kernel
theorem dX10_init_150 : decode cX10_init 150 = .ok (.new 7, 3) := by decide +kernel
theorem dX10_init_153 : decode cX10_init 153 = .ok (.dup, 1) := by decide +kernel
theorem dX10_init_154 : decode cX10_init 154 = .ok (.bipush 8, 2) := by decide +kernel
theorem dX10_init_156 : decode cX10_init 156 = .ok (.invokespecial 11, 3) := by decide +kernel
theorem dX10_init_159 : decode cX10_init 159 = .ok (.putfield 85, 3) := by decide +kernel
theorem dX10_init_162 : decode cX10_init 162 = .ok (.aload_n 0, 1) := by decide +kernel
theorem dX10_init_163 : decode cX10_init 163 = .ok (.new 7, 3) := by decide +kernel
theorem dX10_init_166 : decode cX10_init 166 = .ok (.dup, 1) := by decide +kernel
theorem dX10_init_167 : decode cX10_init 167 = .ok (.bipush 48, 2) := by decide +kernel
theorem dX10_init_169 : decode cX10_init 169 = .ok (.invokespecial 11, 3) := by decide +kernel
theorem dX10_init_172 : decode cX10_init 172 = .ok (.putfield 88, 3) := by decide +kernel
theorem dX10_init_175 : decode cX10_init 175 = .ok (.return_, 1) := by decide +kernel
theorem dX10_feed_0 : decode cX10_feed 0 = .ok (.aload_n 0, 1) := by decide +kernel
theorem dX10_feed_1 : decode cX10_feed 1 = .ok (.getfield 18, 3) := by decide +kernel
theorem dX10_feed_4 : decode cX10_feed 4 = .ok (.bipush 20, 2) := by decide +kernel
theorem dX10_feed_6 : decode cX10_feed 6 = .ok (.iadd, 1) := by decide +kernel
theorem dX10_feed_7 : decode cX10_feed 7 = .ok (.sipush 700, 3) := by decide +kernel
theorem dX10_feed_10 : decode cX10_feed 10 = .ok (.if_icmp .le 5, 3) := by decide +kernel
theorem dX10_feed_13 : decode cX10_feed 13 = .ok (.iconst (-1), 1) := by decide +kernel
theorem dX10_feed_14 : decode cX10_feed 14 = .ok (.ireturn, 1) := by decide +kernel
theorem dX10_feed_15 : decode cX10_feed 15 = .ok (.aload_n 0, 1) := by decide +kernel
theorem dX10_feed_16 : decode cX10_feed 16 = .ok (.iload_n 1, 1) := by decide +kernel
theorem dX10_feed_17 : decode cX10_feed 17 = .ok (.invokevirtual 91, 3) := by decide +kernel
theorem dX10_feed_20 : decode cX10_feed 20 = .ok (.aload_n 0, 1) := by decide +kernel
theorem dX10_feed_21 : decode cX10_feed 21 = .ok (.iload_n 2, 1) := by decide +kernel
theorem dX10_feed_22 : decode cX10_feed 22 = .ok (.invokevirtual 91, 3) := by decide +kernel
theorem dX10_feed_25 : decode cX10_feed 25 = .ok (.aload_n 0, 1) := by decide +kernel
theorem dX10_feed_26 : decode cX10_feed 26 = .ok (.iload_n 3, 1) := by decide +kernel
theorem dX10_feed_27 : decode cX10_feed 27 = .ok (.invokevirtual 91, 3) := by decide +kernel
theorem dX10_feed_30 : decode cX10_feed 30 = .ok (.aload_n 0, 1) := by decide +kernel
theorem dX10_feed_31 : decode cX10_feed 31 = .ok (.iload 4, 2) := by decide +kernel
theorem dX10_feed_33 : decode cX10_feed 33 = .ok (.invokevirtual 91, 3) := by decide +kernel
theorem dX10_feed_36 : decode cX10_feed 36 = .ok (.aload_n 0, 1) := by decide +kernel
theorem dX10_feed_37 : decode cX10_feed 37 = .ok (.iload 5, 2) := by decide +kernel
theorem dX10_feed_39 : decode cX10_feed 39 = .ok (.invokevirtual 91, 3) := by decide +kernel
theorem dX10_feed_42 : decode cX10_feed 42 = .ok (.aload_n 0, 1) := by decide +kernel
theorem dX10_feed_43 : decode cX10_feed 43 = .ok (.getfield 18, 3) := by decide +kernel
theorem dX10_feed_46 : decode cX10_feed 46 = .ok (.ireturn, 1) := by decide +kernel
theorem dX10_army_0 : decode cX10_army 0 = .ok (.iload_n 1, 1) := by decide +kernel
theorem dX10_army_1 : decode cX10_army 1 = .ok (.ifCond .lt 11, 3) := by decide +kernel
theorem dX10_army_4 : decode cX10_army 4 = .ok (.iload_n 1, 1) := by decide +kernel
theorem dX10_army_5 : decode cX10_army 5 = .ok (.aload_n 0, 1) := by decide +kernel
theorem dX10_army_6 : decode cX10_army 6 = .ok (.getfield 18, 3) := by decide +kernel
theorem dX10_army_9 : decode cX10_army 9 = .ok (.if_icmp .le 13, 3) := by decide +kernel
theorem dX10_army_12 : decode cX10_army 12 = .ok (.new 94, 3) := by decide +kernel
theorem dX10_army_15 : decode cX10_army 15 = .ok (.dup, 1) := by decide +kernel
theorem dX10_army_16 : decode cX10_army 16 = .ok (.ldc 96, 2) := by decide +kernel
theorem dX10_army_18 : decode cX10_army 18 = .ok (.invokespecial 98, 3) := by decide +kernel
theorem dX10_army_21 : decode cX10_army 21 = .ok (.athrow, 1) := by decide +kernel
theorem dX10_army_22 : decode cX10_army 22 = .ok (.aload_n 0, 1) := by decide +kernel
theorem dX10_army_23 : decode cX10_army 23 = .ok (.getfield 67, 3) := by decide +kernel
theorem dX10_army_26 : decode cX10_army 26 = .ok (.iload_n 1, 1) := by decide +kernel
theorem dX10_army_27 : decode cX10_army 27 = .ok (.invokevirtual 101, 3) := by decide +kernel
theorem dX10_army_30 : decode cX10_army 30 = .ok (.istore_n 2, 1) := by decide +kernel
theorem dX10_army_31 : decode cX10_army 31 = .ok (.aload_n 0, 1) := by decide +kernel
theorem dX10_army_32 : decode cX10_army 32 = .ok (.iconst 0, 1) := by decide +kernel
theorem dX10_army_33 : decode cX10_army 33 = .ok (.putfield 18, 3) := by decide +kernel
theorem dX10_army_36 : decode cX10_army 36 = .ok (.aload_n 0, 1) := by decide +kernel
theorem dX10_army_37 : decode cX10_army 37 = .ok (.aload_n 0, 1) := by decide +kernel
theorem dX10_army_38 : decode cX10_army 38 = .ok (.getfield 67, 3) := by decide +kernel
theorem dX10_army_41 : decode cX10_army 41 = .ok (.getfield 105, 3) := by decide +kernel
theorem dX10_army_44 : decode cX10_army 44 = .ok (.putfield 22, 3) := by decide +kernel
theorem dX10_army_47 : decode cX10_army 47 = .ok (.iload_n 2, 1) := by decide +kernel
theorem dX10_army_48 : decode cX10_army 48 = .ok (.ifCond .eq 10, 3) := by decide +kernel
theorem dX10_army_51 : decode cX10_army 51 = .ok (.aload_n 0, 1) := by decide +kernel
theorem dX10_army_52 : decode cX10_army 52 = .ok (.iconst 0, 1) := by decide +kernel
theorem dX10_army_53 : decode cX10_army 53 = .ok (.invokevirtual 106, 3) := by decide +kernel
theorem dX10_army_56 : decode cX10_army 56 = .ok (.iload_n 2, 1) := by decide +kernel
theorem dX10_army_57 : decode cX10_army 57 = .ok (.ireturn, 1) := by decide +kernel
theorem dX10_army_58 : decode cX10_army 58 = .ok (.aload_n 0, 1) := by decide +kernel
theorem dX10_army_59 : decode cX10_army 59 = .ok (.getfield 31, 3) := by decide +kernel
theorem dX10_army_62 : decode cX10_army 62 = .ok (.aload_n 0, 1) := by decide +kernel
theorem dX10_army_63 : decode cX10_army 63 = .ok (.getfield 67, 3) := by decide +kernel
theorem dX10_army_66 : decode cX10_army 66 = .ok (.getfield 109, 3) := by decide +kernel
theorem dX10_army_69 : decode cX10_army 69 = .ok (.invokevirtual 112, 3) := by decide +kernel
theorem dX10_army_72 : decode cX10_army 72 = .ok (.aload_n 0, 1) := by decide +kernel
theorem dX10_army_73 : decode cX10_army 73 = .ok (.getfield 55, 3) := by decide +kernel
theorem dX10_army_76 : decode cX10_army 76 = .ok (.aload_n 0, 1) := by decide +kernel
theorem dX10_army_77 : decode cX10_army 77 = .ok (.getfield 67, 3) := by decide +kernel
theorem dX10_army_80 : decode cX10_army 80 = .ok (.getfield 115, 3) := by decide +kernel
theorem dX10_army_83 : decode cX10_army 83 = .ok (.invokevirtual 116, 3) := by decide +kernel
theorem dX10_army_86 : decode cX10_army 86 = .ok (.aload_n 0, 1) := by decide +kernel
theorem dX10_army_87 : decode cX10_army 87 = .ok (.getfield 40, 3) := by decide +kernel
theorem dX10_army_90 : decode cX10_army 90 = .ok (.getfield 119, 3) := by decide +kernel
theorem dX10_army_93 : decode cX10_army 93 = .ok (.iconst 0, 1) := by decide +kernel
theorem dX10_army_94 : decode cX10_army 94 = .ok (.putfield 123, 3) := by decide +kernel
theorem dX10_army_97 : decode cX10_army 97 = .ok (.aload_n 0, 1) := by decide +kernel
theorem dX10_army_98 : decode cX10_army 98 = .ok (.getfield 40, 3) := by decide +kernel
theorem dX10_army_101 : decode cX10_army 101 = .ok (.getfield 128, 3) := by decide +kernel
theorem dX10_army_104 : decode cX10_army 104 = .ok (.iconst 0, 1) := by decide +kernel
theorem dX10_army_105 : decode cX10_army 105 = .ok (.putfield 132, 3) := by decide +kernel
theorem dX10_army_108 : decode cX10_army 108 = .ok (.aload_n 0, 1) := by decide +kernel
theorem dX10_army_109 : decode cX10_army 109 = .ok (.iconst 0, 1) := by decide +kernel
theorem dX10_army_110 : decode cX10_army 110 = .ok (.putfield 47, 3) := by decide +kernel
theorem dX10_army_113 : decode cX10_army 113 = .ok (.iconst 0, 1) := by decide +kernel
theorem dX10_army_114 : decode cX10_army 114 = .ok (.ireturn, 1) := by decide +kernel
theorem dX10_fault_0 : decode cX10_fault 0 = .ok (.aload_n 0, 1) := by decide +kernel
theorem dX10_fault_1 : decode cX10_fault 1 = .ok (.getfield 22, 3) := by decide +kernel
theorem dX10_fault_4 : decode cX10_fault 4 = .ok (.ireturn, 1) := by decide +kernel
theorem dX10_count_0 : decode cX10_count 0 = .ok (.iload_n 1, 1) := by decide +kernel
theorem dX10_count_1 : decode cX10_count 1 = .ok (.tableswitch 202 0 14 #[75, 83, 91, 99, 107, 115, 124, 132, 140, 148, 159, 170, 175, 184, 193], 75) := by decide +kernel
theorem dX10_count_76 : decode cX10_count 76 = .ok (.aload_n 0, 1) := by decide +kernel
theorem dX10_count_77 : decode cX10_count 77 = .ok (.getfield 31, 3) := by decide +kernel
theorem dX10_count_80 : decode cX10_count 80 = .ok (.getfield 135, 3) := by decide +kernel
theorem dX10_count_83 : decode cX10_count 83 = .ok (.ireturn, 1) := by decide +kernel
theorem dX10_count_84 : decode cX10_count 84 = .ok (.aload_n 0, 1) := by decide +kernel
theorem dX10_count_85 : decode cX10_count 85 = .ok (.getfield 31, 3) := by decide +kernel
theorem dX10_count_88 : decode cX10_count 88 = .ok (.getfield 138, 3) := by decide +kernel
theorem dX10_count_91 : decode cX10_count 91 = .ok (.ireturn, 1) := by decide +kernel
theorem dX10_count_92 : decode cX10_count 92 = .ok (.aload_n 0, 1) := by decide +kernel
theorem dX10_count_93 : decode cX10_count 93 = .ok (.getfield 31, 3) := by decide +kernel
theorem dX10_count_96 : decode cX10_count 96 = .ok (.getfield 141, 3) := by decide +kernel
theorem dX10_count_99 : decode cX10_count 99 = .ok (.ireturn, 1) := by decide +kernel
theorem dX10_count_100 : decode cX10_count 100 = .ok (.aload_n 0, 1) := by decide +kernel
theorem dX10_count_101 : decode cX10_count 101 = .ok (.getfield 31, 3) := by decide +kernel
theorem dX10_count_104 : decode cX10_count 104 = .ok (.getfield 144, 3) := by decide +kernel
theorem dX10_count_107 : decode cX10_count 107 = .ok (.ireturn, 1) := by decide +kernel
theorem dX10_count_108 : decode cX10_count 108 = .ok (.aload_n 0, 1) := by decide +kernel
theorem dX10_count_109 : decode cX10_count 109 = .ok (.getfield 55, 3) := by decide +kernel
theorem dX10_count_112 : decode cX10_count 112 = .ok (.getfield 147, 3) := by decide +kernel
theorem dX10_count_115 : decode cX10_count 115 = .ok (.ireturn, 1) := by decide +kernel
theorem dX10_count_116 : decode cX10_count 116 = .ok (.aload_n 0, 1) := by decide +kernel
theorem dX10_count_117 : decode cX10_count 117 = .ok (.getfield 55, 3) := by decide +kernel
theorem dX10_count_120 : decode cX10_count 120 = .ok (.iconst 0, 1) := by decide +kernel
theorem dX10_count_121 : decode cX10_count 121 = .ok (.invokevirtual 150, 3) := by decide +kernel
theorem dX10_count_124 : decode cX10_count 124 = .ok (.ireturn, 1) := by decide +kernel
theorem dX10_count_125 : decode cX10_count 125 = .ok (.aload_n 0, 1) := by decide +kernel
theorem dX10_count_126 : decode cX10_count 126 = .ok (.getfield 55, 3) := by decide +kernel
theorem dX10_count_129 : decode cX10_count 129 = .ok (.invokevirtual 153, 3) := by decide +kernel
theorem dX10_count_132 : decode cX10_count 132 = .ok (.ireturn, 1) := by decide +kernel
theorem dX10_count_133 : decode cX10_count 133 = .ok (.aload_n 0, 1) := by decide +kernel
theorem dX10_count_134 : decode cX10_count 134 = .ok (.getfield 55, 3) := by decide +kernel
theorem dX10_count_137 : decode cX10_count 137 = .ok (.invokevirtual 157, 3) := by decide +kernel
theorem dX10_count_140 : decode cX10_count 140 = .ok (.ireturn, 1) := by decide +kernel
theorem dX10_count_141 : decode cX10_count 141 = .ok (.aload_n 0, 1) := by decide +kernel
theorem dX10_count_142 : decode cX10_count 142 = .ok (.getfield 55, 3) := by decide +kernel
theorem dX10_count_145 : decode cX10_count 145 = .ok (.invokevirtual 160, 3) := by decide +kernel
theorem dX10_count_148 : decode cX10_count 148 = .ok (.ireturn, 1) := by decide +kernel
theorem dX10_count_149 : decode cX10_count 149 = .ok (.aload_n 0, 1) := by decide +kernel
theorem dX10_count_150 : decode cX10_count 150 = .ok (.getfield 40, 3) := by decide +kernel
theorem dX10_count_153 : decode cX10_count 153 = .ok (.getfield 119, 3) := by decide +kernel
theorem dX10_count_156 : decode cX10_count 156 = .ok (.getfield 123, 3) := by decide +kernel
theorem dX10_count_159 : decode cX10_count 159 = .ok (.ireturn, 1) := by decide +kernel
theorem dX10_count_160 : decode cX10_count 160 = .ok (.aload_n 0, 1) := by decide +kernel
theorem dX10_count_161 : decode cX10_count 161 = .ok (.getfield 40, 3) := by decide +kernel
theorem dX10_count_164 : decode cX10_count 164 = .ok (.getfield 128, 3) := by decide +kernel
theorem dX10_count_167 : decode cX10_count 167 = .ok (.getfield 132, 3) := by decide +kernel
theorem dX10_count_170 : decode cX10_count 170 = .ok (.ireturn, 1) := by decide +kernel
theorem dX10_count_171 : decode cX10_count 171 = .ok (.aload_n 0, 1) := by decide +kernel
theorem dX10_count_172 : decode cX10_count 172 = .ok (.getfield 18, 3) := by decide +kernel
theorem dX10_count_175 : decode cX10_count 175 = .ok (.ireturn, 1) := by decide +kernel
theorem dX10_count_176 : decode cX10_count 176 = .ok (.aload_n 0, 1) := by decide +kernel
theorem dX10_count_177 : decode cX10_count 177 = .ok (.getfield 25, 3) := by decide +kernel
theorem dX10_count_180 : decode cX10_count 180 = .ok (.iconst 0, 1) := by decide +kernel
theorem dX10_count_181 : decode cX10_count 181 = .ok (.invokevirtual 163, 3) := by decide +kernel
theorem dX10_count_184 : decode cX10_count 184 = .ok (.ireturn, 1) := by decide +kernel
theorem dX10_count_185 : decode cX10_count 185 = .ok (.aload_n 0, 1) := by decide +kernel
theorem dX10_count_186 : decode cX10_count 186 = .ok (.getfield 25, 3) := by decide +kernel
theorem dX10_count_189 : decode cX10_count 189 = .ok (.iconst 1, 1) := by decide +kernel
theorem dX10_count_190 : decode cX10_count 190 = .ok (.invokevirtual 163, 3) := by decide +kernel
theorem dX10_count_193 : decode cX10_count 193 = .ok (.ireturn, 1) := by decide +kernel
theorem dX10_count_194 : decode cX10_count 194 = .ok (.aload_n 0, 1) := by decide +kernel
theorem dX10_count_195 : decode cX10_count 195 = .ok (.getfield 25, 3) := by decide +kernel
theorem dX10_count_198 : decode cX10_count 198 = .ok (.iconst 2, 1) := by decide +kernel
theorem dX10_count_199 : decode cX10_count 199 = .ok (.invokevirtual 163, 3) := by decide +kernel
theorem dX10_count_202 : decode cX10_count 202 = .ok (.ireturn, 1) := by decide +kernel
theorem dX10_count_203 : decode cX10_count 203 = .ok (.new 166, 3) := by decide +kernel
theorem dX10_count_206 : decode cX10_count 206 = .ok (.dup, 1) := by decide +kernel
theorem dX10_count_207 : decode cX10_count 207 = .ok (.ldc 168, 2) := by decide +kernel
theorem dX10_count_209 : decode cX10_count 209 = .ok (.invokespecial 170, 3) := by decide +kernel
theorem dX10_count_212 : decode cX10_count 212 = .ok (.athrow, 1) := by decide +kernel
theorem dX10_man_0 : decode cX10_man 0 = .ok (.aload_n 0, 1) := by decide +kernel
theorem dX10_man_1 : decode cX10_man 1 = .ok (.iload_n 1, 1) := by decide +kernel
theorem dX10_man_2 : decode cX10_man 2 = .ok (.invokevirtual 171, 3) := by decide +kernel
theorem dX10_man_5 : decode cX10_man 5 = .ok (.iload_n 2, 1) := by decide +kernel
theorem dX10_man_6 : decode cX10_man 6 = .ok (.tableswitch 75 0 3 #[30, 42, 54, 66], 30) := by decide +kernel
theorem dX10_man_36 : decode cX10_man 36 = .ok (.aload_n 0, 1) := by decide +kernel
theorem dX10_man_37 : decode cX10_man 37 = .ok (.getfield 55, 3) := by decide +kernel
theorem dX10_man_40 : decode cX10_man 40 = .ok (.getfield 174, 3) := by decide +kernel
theorem dX10_man_43 : decode cX10_man 43 = .ok (.iload_n 1, 1) := by decide +kernel
theorem dX10_man_44 : decode cX10_man 44 = .ok (.invokevirtual 163, 3) := by decide +kernel
theorem dX10_man_47 : decode cX10_man 47 = .ok (.ireturn, 1) := by decide +kernel
theorem dX10_man_48 : decode cX10_man 48 = .ok (.aload_n 0, 1) := by decide +kernel
theorem dX10_man_49 : decode cX10_man 49 = .ok (.getfield 55, 3) := by decide +kernel
theorem dX10_man_52 : decode cX10_man 52 = .ok (.getfield 177, 3) := by decide +kernel
theorem dX10_man_55 : decode cX10_man 55 = .ok (.iload_n 1, 1) := by decide +kernel
theorem dX10_man_56 : decode cX10_man 56 = .ok (.invokevirtual 163, 3) := by decide +kernel
theorem dX10_man_59 : decode cX10_man 59 = .ok (.ireturn, 1) := by decide +kernel
theorem dX10_man_60 : decode cX10_man 60 = .ok (.aload_n 0, 1) := by decide +kernel
theorem dX10_man_61 : decode cX10_man 61 = .ok (.getfield 55, 3) := by decide +kernel
theorem dX10_man_64 : decode cX10_man 64 = .ok (.getfield 180, 3) := by decide +kernel
theorem dX10_man_67 : decode cX10_man 67 = .ok (.iload_n 1, 1) := by decide +kernel
theorem dX10_man_68 : decode cX10_man 68 = .ok (.invokevirtual 163, 3) := by decide +kernel
theorem dX10_man_71 : decode cX10_man 71 = .ok (.ireturn, 1) := by decide +kernel
theorem dX10_man_72 : decode cX10_man 72 = .ok (.aload_n 0, 1) := by decide +kernel
theorem dX10_man_73 : decode cX10_man 73 = .ok (.getfield 55, 3) := by decide +kernel
theorem dX10_man_76 : decode cX10_man 76 = .ok (.iload_n 1, 1) := by decide +kernel
theorem dX10_man_77 : decode cX10_man 77 = .ok (.invokevirtual 183, 3) := by decide +kernel
theorem dX10_man_80 : decode cX10_man 80 = .ok (.ireturn, 1) := by decide +kernel
theorem dX10_man_81 : decode cX10_man 81 = .ok (.new 166, 3) := by decide +kernel
theorem dX10_man_84 : decode cX10_man 84 = .ok (.dup, 1) := by decide +kernel
theorem dX10_man_85 : decode cX10_man 85 = .ok (.ldc 186, 2) := by decide +kernel
theorem dX10_man_87 : decode cX10_man 87 = .ok (.invokespecial 170, 3) := by decide +kernel
theorem dX10_man_90 : decode cX10_man 90 = .ok (.athrow, 1) := by decide +kernel
theorem dX10_row_0 : decode cX10_row 0 = .ok (.aload_n 0, 1) := by decide +kernel
theorem dX10_row_1 : decode cX10_row 1 = .ok (.iload_n 1, 1) := by decide +kernel
theorem dX10_row_2 : decode cX10_row 2 = .ok (.invokevirtual 188, 3) := by decide +kernel
theorem dX10_row_5 : decode cX10_row 5 = .ok (.iload_n 2, 1) := by decide +kernel
theorem dX10_row_6 : decode cX10_row 6 = .ok (.tableswitch 66 0 2 #[26, 38, 48], 26) := by decide +kernel
theorem dX10_row_32 : decode cX10_row 32 = .ok (.aload_n 0, 1) := by decide +kernel
theorem dX10_row_33 : decode cX10_row 33 = .ok (.getfield 55, 3) := by decide +kernel
theorem dX10_row_36 : decode cX10_row 36 = .ok (.getfield 191, 3) := by decide +kernel
theorem dX10_row_39 : decode cX10_row 39 = .ok (.iload_n 1, 1) := by decide +kernel
theorem dX10_row_40 : decode cX10_row 40 = .ok (.invokevirtual 163, 3) := by decide +kernel
theorem dX10_row_43 : decode cX10_row 43 = .ok (.ireturn, 1) := by decide +kernel
theorem dX10_row_44 : decode cX10_row 44 = .ok (.aload_n 0, 1) := by decide +kernel
theorem dX10_row_45 : decode cX10_row 45 = .ok (.getfield 55, 3) := by decide +kernel
theorem dX10_row_48 : decode cX10_row 48 = .ok (.iload_n 1, 1) := by decide +kernel
theorem dX10_row_49 : decode cX10_row 49 = .ok (.iconst 0, 1) := by decide +kernel
theorem dX10_row_50 : decode cX10_row 50 = .ok (.invokevirtual 193, 3) := by decide +kernel
theorem dX10_row_53 : decode cX10_row 53 = .ok (.ireturn, 1) := by decide +kernel
theorem dX10_row_54 : decode cX10_row 54 = .ok (.aload_n 0, 1) := by decide +kernel
theorem dX10_row_55 : decode cX10_row 55 = .ok (.getfield 55, 3) := by decide +kernel
theorem dX10_row_58 : decode cX10_row 58 = .ok (.iload_n 1, 1) := by decide +kernel
theorem dX10_row_59 : decode cX10_row 59 = .ok (.iconst 0, 1) := by decide +kernel
theorem dX10_row_60 : decode cX10_row 60 = .ok (.aload_n 0, 1) := by decide +kernel
theorem dX10_row_61 : decode cX10_row 61 = .ok (.getfield 55, 3) := by decide +kernel
theorem dX10_row_64 : decode cX10_row 64 = .ok (.iconst 0, 1) := by decide +kernel
theorem dX10_row_65 : decode cX10_row 65 = .ok (.invokevirtual 150, 3) := by decide +kernel
theorem dX10_row_68 : decode cX10_row 68 = .ok (.invokevirtual 197, 3) := by decide +kernel
theorem dX10_row_71 : decode cX10_row 71 = .ok (.ireturn, 1) := by decide +kernel
theorem dX10_row_72 : decode cX10_row 72 = .ok (.new 166, 3) := by decide +kernel
theorem dX10_row_75 : decode cX10_row 75 = .ok (.dup, 1) := by decide +kernel
theorem dX10_row_76 : decode cX10_row 76 = .ok (.ldc 201, 2) := by decide +kernel
theorem dX10_row_78 : decode cX10_row 78 = .ok (.invokespecial 170, 3) := by decide +kernel
theorem dX10_row_81 : decode cX10_row 81 = .ok (.athrow, 1) := by decide +kernel
theorem dX10_nights_0 : decode cX10_nights 0 = .ok (.iload_n 1, 1) := by decide +kernel
theorem dX10_nights_1 : decode cX10_nights 1 = .ok (.iconst 1, 1) := by decide +kernel
theorem dX10_nights_2 : decode cX10_nights 2 = .ok (.if_icmp .lt 24, 3) := by decide +kernel
theorem dX10_nights_5 : decode cX10_nights 5 = .ok (.iload_n 1, 1) := by decide +kernel
theorem dX10_nights_6 : decode cX10_nights 6 = .ok (.bipush 20, 2) := by decide +kernel
theorem dX10_nights_8 : decode cX10_nights 8 = .ok (.if_icmp .gt 18, 3) := by decide +kernel
theorem dX10_nights_11 : decode cX10_nights 11 = .ok (.aload_n 0, 1) := by decide +kernel
theorem dX10_nights_12 : decode cX10_nights 12 = .ok (.getfield 55, 3) := by decide +kernel
theorem dX10_nights_15 : decode cX10_nights 15 = .ok (.getfield 147, 3) := by decide +kernel
theorem dX10_nights_18 : decode cX10_nights 18 = .ok (.iload_n 1, 1) := by decide +kernel
theorem dX10_nights_19 : decode cX10_nights 19 = .ok (.iadd, 1) := by decide +kernel
theorem dX10_nights_20 : decode cX10_nights 20 = .ok (.sipush 999, 3) := by decide +kernel
theorem dX10_nights_23 : decode cX10_nights 23 = .ok (.if_icmp .le 10, 3) := by decide +kernel
theorem dX10_nights_26 : decode cX10_nights 26 = .ok (.aload_n 0, 1) := by decide +kernel
theorem dX10_nights_27 : decode cX10_nights 27 = .ok (.iconst 1, 1) := by decide +kernel
theorem dX10_nights_28 : decode cX10_nights 28 = .ok (.invokevirtual 106, 3) := by decide +kernel
theorem dX10_nights_31 : decode cX10_nights 31 = .ok (.iconst (-1), 1) := by decide +kernel
theorem dX10_nights_32 : decode cX10_nights 32 = .ok (.ireturn, 1) := by decide +kernel
theorem dX10_nights_33 : decode cX10_nights 33 = .ok (.aload_n 0, 1) := by decide +kernel
theorem dX10_nights_34 : decode cX10_nights 34 = .ok (.getfield 40, 3) := by decide +kernel
theorem dX10_nights_37 : decode cX10_nights 37 = .ok (.getfield 119, 3) := by decide +kernel
theorem dX10_nights_40 : decode cX10_nights 40 = .ok (.iconst 0, 1) := by decide +kernel
theorem dX10_nights_41 : decode cX10_nights 41 = .ok (.iload_n 1, 1) := by decide +kernel
theorem dX10_nights_42 : decode cX10_nights 42 = .ok (.iconst 0, 1) := by decide +kernel
theorem dX10_nights_43 : decode cX10_nights 43 = .ok (.aload_n 0, 1) := by decide +kernel
theorem dX10_nights_44 : decode cX10_nights 44 = .ok (.getfield 55, 3) := by decide +kernel
theorem dX10_nights_47 : decode cX10_nights 47 = .ok (.invokevirtual 203, 3) := by decide +kernel
theorem dX10_nights_50 : decode cX10_nights 50 = .ok (.iconst 0, 1) := by decide +kernel
theorem dX10_nights_51 : decode cX10_nights 51 = .ok (.istore_n 2, 1) := by decide +kernel
theorem dX10_nights_52 : decode cX10_nights 52 = .ok (.iload_n 2, 1) := by decide +kernel
theorem dX10_nights_53 : decode cX10_nights 53 = .ok (.iload_n 1, 1) := by decide +kernel
theorem dX10_nights_54 : decode cX10_nights 54 = .ok (.if_icmp .ge 16, 3) := by decide +kernel
theorem dX10_nights_57 : decode cX10_nights 57 = .ok (.aload_n 0, 1) := by decide +kernel
theorem dX10_nights_58 : decode cX10_nights 58 = .ok (.getfield 55, 3) := by decide +kernel
theorem dX10_nights_61 : decode cX10_nights 61 = .ok (.invokevirtual 207, 3) := by decide +kernel
theorem dX10_nights_64 : decode cX10_nights 64 = .ok (.iinc 2 1, 3) := by decide +kernel
theorem dX10_nights_67 : decode cX10_nights 67 = .ok (.goto (-15), 3) := by decide +kernel
theorem dX10_nights_70 : decode cX10_nights 70 = .ok (.aload_n 0, 1) := by decide +kernel
theorem dX10_nights_71 : decode cX10_nights 71 = .ok (.getfield 55, 3) := by decide +kernel
theorem dX10_nights_74 : decode cX10_nights 74 = .ok (.getfield 147, 3) := by decide +kernel
theorem dX10_nights_77 : decode cX10_nights 77 = .ok (.ireturn, 1) := by decide +kernel
theorem dX10_put_0 : decode cX10_put 0 = .ok (.aload_n 0, 1) := by decide +kernel
theorem dX10_put_1 : decode cX10_put 1 = .ok (.iload_n 1, 1) := by decide +kernel
theorem dX10_put_2 : decode cX10_put 2 = .ok (.invokevirtual 171, 3) := by decide +kernel
theorem dX10_put_5 : decode cX10_put 5 = .ok (.iload_n 2, 1) := by decide +kernel
theorem dX10_put_6 : decode cX10_put 6 = .ok (.iconst (-1), 1) := by decide +kernel
theorem dX10_put_7 : decode cX10_put 7 = .ok (.if_icmp .eq 8, 3) := by decide +kernel
theorem dX10_put_10 : decode cX10_put 10 = .ok (.aload_n 0, 1) := by decide +kernel
theorem dX10_put_11 : decode cX10_put 11 = .ok (.iload_n 2, 1) := by decide +kernel
theorem dX10_put_12 : decode cX10_put 12 = .ok (.invokevirtual 188, 3) := by decide +kernel
theorem dX10_put_15 : decode cX10_put 15 = .ok (.aload_n 0, 1) := by decide +kernel
theorem dX10_put_16 : decode cX10_put 16 = .ok (.getfield 55, 3) := by decide +kernel
theorem dX10_put_19 : decode cX10_put 19 = .ok (.iload_n 1, 1) := by decide +kernel
theorem dX10_put_20 : decode cX10_put 20 = .ok (.invokevirtual 183, 3) := by decide +kernel
theorem dX10_put_23 : decode cX10_put 23 = .ok (.istore_n 3, 1) := by decide +kernel
theorem dX10_put_24 : decode cX10_put 24 = .ok (.iload_n 3, 1) := by decide +kernel
theorem dX10_put_25 : decode cX10_put 25 = .ok (.iload_n 2, 1) := by decide +kernel
theorem dX10_put_26 : decode cX10_put 26 = .ok (.if_icmp .eq 15, 3) := by decide +kernel
theorem dX10_put_29 : decode cX10_put 29 = .ok (.aload_n 0, 1) := by decide +kernel
theorem dX10_put_30 : decode cX10_put 30 = .ok (.getfield 55, 3) := by decide +kernel
theorem dX10_put_33 : decode cX10_put 33 = .ok (.iload_n 1, 1) := by decide +kernel
theorem dX10_put_34 : decode cX10_put 34 = .ok (.iload_n 2, 1) := by decide +kernel
theorem dX10_put_35 : decode cX10_put 35 = .ok (.invokevirtual 210, 3) := by decide +kernel
theorem dX10_put_38 : decode cX10_put 38 = .ok (.ifCond .eq 11, 3) := by decide +kernel
theorem dX10_put_41 : decode cX10_put 41 = .ok (.aload_n 0, 1) := by decide +kernel
theorem dX10_put_42 : decode cX10_put 42 = .ok (.iconst 1, 1) := by decide +kernel
theorem dX10_put_43 : decode cX10_put 43 = .ok (.invokevirtual 106, 3) := by decide +kernel
theorem dX10_put_46 : decode cX10_put 46 = .ok (.bipush (-2), 2) := by decide +kernel
theorem dX10_put_48 : decode cX10_put 48 = .ok (.ireturn, 1) := by decide +kernel
theorem dX10_put_49 : decode cX10_put 49 = .ok (.aload_n 0, 1) := by decide +kernel
theorem dX10_put_50 : decode cX10_put 50 = .ok (.getfield 40, 3) := by decide +kernel
theorem dX10_put_53 : decode cX10_put 53 = .ok (.getfield 119, 3) := by decide +kernel
theorem dX10_put_56 : decode cX10_put 56 = .ok (.iconst 1, 1) := by decide +kernel
theorem dX10_put_57 : decode cX10_put 57 = .ok (.iload_n 1, 1) := by decide +kernel
theorem dX10_put_58 : decode cX10_put 58 = .ok (.iload_n 3, 1) := by decide +kernel
theorem dX10_put_59 : decode cX10_put 59 = .ok (.aload_n 0, 1) := by decide +kernel
theorem dX10_put_60 : decode cX10_put 60 = .ok (.getfield 55, 3) := by decide +kernel
theorem dX10_put_63 : decode cX10_put 63 = .ok (.invokevirtual 203, 3) := by decide +kernel
theorem dX10_put_66 : decode cX10_put 66 = .ok (.aload_n 0, 1) := by decide +kernel
theorem dX10_put_67 : decode cX10_put 67 = .ok (.getfield 55, 3) := by decide +kernel
theorem dX10_put_70 : decode cX10_put 70 = .ok (.iload_n 1, 1) := by decide +kernel
theorem dX10_put_71 : decode cX10_put 71 = .ok (.iload_n 2, 1) := by decide +kernel
theorem dX10_put_72 : decode cX10_put 72 = .ok (.invokevirtual 214, 3) := by decide +kernel
theorem dX10_put_75 : decode cX10_put 75 = .ok (.iload_n 3, 1) := by decide +kernel
theorem dX10_put_76 : decode cX10_put 76 = .ok (.ireturn, 1) := by decide +kernel
theorem dX10_heel_0 : decode cX10_heel 0 = .ok (.aload_n 0, 1) := by decide +kernel
theorem dX10_heel_1 : decode cX10_heel 1 = .ok (.iload_n 1, 1) := by decide +kernel
theorem dX10_heel_2 : decode cX10_heel 2 = .ok (.invokevirtual 171, 3) := by decide +kernel
theorem dX10_heel_5 : decode cX10_heel 5 = .ok (.aload_n 0, 1) := by decide +kernel
theorem dX10_heel_6 : decode cX10_heel 6 = .ok (.iload_n 2, 1) := by decide +kernel
theorem dX10_heel_7 : decode cX10_heel 7 = .ok (.invokevirtual 218, 3) := by decide +kernel
theorem dX10_heel_10 : decode cX10_heel 10 = .ok (.aload_n 0, 1) := by decide +kernel
theorem dX10_heel_11 : decode cX10_heel 11 = .ok (.getfield 40, 3) := by decide +kernel
theorem dX10_heel_14 : decode cX10_heel 14 = .ok (.getfield 119, 3) := by decide +kernel
theorem dX10_heel_17 : decode cX10_heel 17 = .ok (.iconst 2, 1) := by decide +kernel
theorem dX10_heel_18 : decode cX10_heel 18 = .ok (.iload_n 1, 1) := by decide +kernel
theorem dX10_heel_19 : decode cX10_heel 19 = .ok (.iload_n 2, 1) := by decide +kernel
theorem dX10_heel_20 : decode cX10_heel 20 = .ok (.aload_n 0, 1) := by decide +kernel
theorem dX10_heel_21 : decode cX10_heel 21 = .ok (.getfield 55, 3) := by decide +kernel
theorem dX10_heel_24 : decode cX10_heel 24 = .ok (.invokevirtual 203, 3) := by decide +kernel
theorem dX10_heel_27 : decode cX10_heel 27 = .ok (.aload_n 0, 1) := by decide +kernel
theorem dX10_heel_28 : decode cX10_heel 28 = .ok (.getfield 55, 3) := by decide +kernel
theorem dX10_heel_31 : decode cX10_heel 31 = .ok (.iload_n 1, 1) := by decide +kernel
theorem dX10_heel_32 : decode cX10_heel 32 = .ok (.iload_n 2, 1) := by decide +kernel
theorem dX10_heel_33 : decode cX10_heel 33 = .ok (.invokevirtual 221, 3) := by decide +kernel
theorem dX10_heel_36 : decode cX10_heel 36 = .ok (.aload_n 0, 1) := by decide +kernel
theorem dX10_heel_37 : decode cX10_heel 37 = .ok (.getfield 55, 3) := by decide +kernel
theorem dX10_heel_40 : decode cX10_heel 40 = .ok (.getfield 174, 3) := by decide +kernel
theorem dX10_heel_43 : decode cX10_heel 43 = .ok (.iload_n 1, 1) := by decide +kernel
theorem dX10_heel_44 : decode cX10_heel 44 = .ok (.invokevirtual 163, 3) := by decide +kernel
theorem dX10_heel_47 : decode cX10_heel 47 = .ok (.ireturn, 1) := by decide +kernel
theorem dX10_loud_0 : decode cX10_loud 0 = .ok (.aload_n 0, 1) := by decide +kernel
theorem dX10_loud_1 : decode cX10_loud 1 = .ok (.iload_n 1, 1) := by decide +kernel
theorem dX10_loud_2 : decode cX10_loud 2 = .ok (.invokevirtual 171, 3) := by decide +kernel
theorem dX10_loud_5 : decode cX10_loud 5 = .ok (.iload_n 2, 1) := by decide +kernel
theorem dX10_loud_6 : decode cX10_loud 6 = .ok (.iconst 1, 1) := by decide +kernel
theorem dX10_loud_7 : decode cX10_loud 7 = .ok (.if_icmp .lt 9, 3) := by decide +kernel
theorem dX10_loud_10 : decode cX10_loud 10 = .ok (.iload_n 2, 1) := by decide +kernel
theorem dX10_loud_11 : decode cX10_loud 11 = .ok (.bipush 9, 2) := by decide +kernel
theorem dX10_loud_13 : decode cX10_loud 13 = .ok (.if_icmp .le 10, 3) := by decide +kernel
theorem dX10_loud_16 : decode cX10_loud 16 = .ok (.aload_n 0, 1) := by decide +kernel
theorem dX10_loud_17 : decode cX10_loud 17 = .ok (.iconst 1, 1) := by decide +kernel
theorem dX10_loud_18 : decode cX10_loud 18 = .ok (.invokevirtual 106, 3) := by decide +kernel
theorem dX10_loud_21 : decode cX10_loud 21 = .ok (.iconst (-1), 1) := by decide +kernel
theorem dX10_loud_22 : decode cX10_loud 22 = .ok (.ireturn, 1) := by decide +kernel
theorem dX10_loud_23 : decode cX10_loud 23 = .ok (.aload_n 0, 1) := by decide +kernel
theorem dX10_loud_24 : decode cX10_loud 24 = .ok (.getfield 55, 3) := by decide +kernel
theorem dX10_loud_27 : decode cX10_loud 27 = .ok (.getfield 177, 3) := by decide +kernel
theorem dX10_loud_30 : decode cX10_loud 30 = .ok (.iload_n 1, 1) := by decide +kernel
theorem dX10_loud_31 : decode cX10_loud 31 = .ok (.invokevirtual 163, 3) := by decide +kernel
theorem dX10_loud_34 : decode cX10_loud 34 = .ok (.istore_n 3, 1) := by decide +kernel
theorem dX10_loud_35 : decode cX10_loud 35 = .ok (.aload_n 0, 1) := by decide +kernel
theorem dX10_loud_36 : decode cX10_loud 36 = .ok (.getfield 40, 3) := by decide +kernel
theorem dX10_loud_39 : decode cX10_loud 39 = .ok (.getfield 119, 3) := by decide +kernel
theorem dX10_loud_42 : decode cX10_loud 42 = .ok (.iconst 3, 1) := by decide +kernel
theorem dX10_loud_43 : decode cX10_loud 43 = .ok (.iload_n 1, 1) := by decide +kernel
theorem dX10_loud_44 : decode cX10_loud 44 = .ok (.iload_n 3, 1) := by decide +kernel
theorem dX10_loud_45 : decode cX10_loud 45 = .ok (.aload_n 0, 1) := by decide +kernel
theorem dX10_loud_46 : decode cX10_loud 46 = .ok (.getfield 55, 3) := by decide +kernel
theorem dX10_loud_49 : decode cX10_loud 49 = .ok (.invokevirtual 203, 3) := by decide +kernel
theorem dX10_loud_52 : decode cX10_loud 52 = .ok (.aload_n 0, 1) := by decide +kernel
theorem dX10_loud_53 : decode cX10_loud 53 = .ok (.getfield 55, 3) := by decide +kernel
theorem dX10_loud_56 : decode cX10_loud 56 = .ok (.getfield 177, 3) := by decide +kernel
theorem dX10_loud_59 : decode cX10_loud 59 = .ok (.iload_n 1, 1) := by decide +kernel
theorem dX10_loud_60 : decode cX10_loud 60 = .ok (.iload_n 2, 1) := by decide +kernel
theorem dX10_loud_61 : decode cX10_loud 61 = .ok (.invokevirtual 224, 3) := by decide +kernel
theorem dX10_loud_64 : decode cX10_loud 64 = .ok (.iload_n 3, 1) := by decide +kernel
theorem dX10_loud_65 : decode cX10_loud 65 = .ok (.ireturn, 1) := by decide +kernel
theorem dX10_change_0 : decode cX10_change 0 = .ok (.aload_n 0, 1) := by decide +kernel
theorem dX10_change_1 : decode cX10_change 1 = .ok (.iload_n 1, 1) := by decide +kernel
theorem dX10_change_2 : decode cX10_change 2 = .ok (.invokevirtual 188, 3) := by decide +kernel
theorem dX10_change_5 : decode cX10_change 5 = .ok (.aload_n 0, 1) := by decide +kernel
theorem dX10_change_6 : decode cX10_change 6 = .ok (.iload_n 2, 1) := by decide +kernel
theorem dX10_change_7 : decode cX10_change 7 = .ok (.invokevirtual 188, 3) := by decide +kernel
theorem dX10_change_10 : decode cX10_change 10 = .ok (.iload_n 1, 1) := by decide +kernel
theorem dX10_change_11 : decode cX10_change 11 = .ok (.iload_n 2, 1) := by decide +kernel
theorem dX10_change_12 : decode cX10_change 12 = .ok (.if_icmp .ne 10, 3) := by decide +kernel
theorem dX10_change_15 : decode cX10_change 15 = .ok (.aload_n 0, 1) := by decide +kernel
theorem dX10_change_16 : decode cX10_change 16 = .ok (.iconst 1, 1) := by decide +kernel
theorem dX10_change_17 : decode cX10_change 17 = .ok (.invokevirtual 106, 3) := by decide +kernel
theorem dX10_change_20 : decode cX10_change 20 = .ok (.iconst 0, 1) := by decide +kernel
theorem dX10_change_21 : decode cX10_change 21 = .ok (.ireturn, 1) := by decide +kernel
theorem dX10_change_22 : decode cX10_change 22 = .ok (.aload_n 0, 1) := by decide +kernel
theorem dX10_change_23 : decode cX10_change 23 = .ok (.getfield 40, 3) := by decide +kernel
theorem dX10_change_26 : decode cX10_change 26 = .ok (.getfield 119, 3) := by decide +kernel
theorem dX10_change_29 : decode cX10_change 29 = .ok (.iconst 4, 1) := by decide +kernel
theorem dX10_change_30 : decode cX10_change 30 = .ok (.iload_n 1, 1) := by decide +kernel
theorem dX10_change_31 : decode cX10_change 31 = .ok (.iload_n 2, 1) := by decide +kernel
theorem dX10_change_32 : decode cX10_change 32 = .ok (.aload_n 0, 1) := by decide +kernel
theorem dX10_change_33 : decode cX10_change 33 = .ok (.getfield 55, 3) := by decide +kernel
theorem dX10_change_36 : decode cX10_change 36 = .ok (.invokevirtual 203, 3) := by decide +kernel
theorem dX10_change_39 : decode cX10_change 39 = .ok (.aload_n 0, 1) := by decide +kernel
theorem dX10_change_40 : decode cX10_change 40 = .ok (.getfield 55, 3) := by decide +kernel
theorem dX10_change_43 : decode cX10_change 43 = .ok (.iload_n 1, 1) := by decide +kernel
theorem dX10_change_44 : decode cX10_change 44 = .ok (.iload_n 2, 1) := by decide +kernel
theorem dX10_change_45 : decode cX10_change 45 = .ok (.invokevirtual 227, 3) := by decide +kernel
theorem dX10_change_48 : decode cX10_change 48 = .ok (.iconst 1, 1) := by decide +kernel
theorem dX10_change_49 : decode cX10_change 49 = .ok (.ireturn, 1) := by decide +kernel
theorem dX10_undo_0 : decode cX10_undo 0 = .ok (.aload_n 0, 1) := by decide +kernel
theorem dX10_undo_1 : decode cX10_undo 1 = .ok (.getfield 40, 3) := by decide +kernel
theorem dX10_undo_4 : decode cX10_undo 4 = .ok (.getfield 119, 3) := by decide +kernel
theorem dX10_undo_7 : decode cX10_undo 7 = .ok (.getfield 123, 3) := by decide +kernel
theorem dX10_undo_10 : decode cX10_undo 10 = .ok (.ifCond .ne 7, 3) := by decide +kernel
theorem dX10_undo_13 : decode cX10_undo 13 = .ok (.iconst (-1), 1) := by decide +kernel
theorem dX10_undo_14 : decode cX10_undo 14 = .ok (.goto 17, 3) := by decide +kernel
theorem dX10_undo_17 : decode cX10_undo 17 = .ok (.aload_n 0, 1) := by decide +kernel
theorem dX10_undo_18 : decode cX10_undo 18 = .ok (.getfield 40, 3) := by decide +kernel
theorem dX10_undo_21 : decode cX10_undo 21 = .ok (.getfield 119, 3) := by decide +kernel
theorem dX10_undo_24 : decode cX10_undo 24 = .ok (.aload_n 0, 1) := by decide +kernel
theorem dX10_undo_25 : decode cX10_undo 25 = .ok (.getfield 55, 3) := by decide +kernel
theorem dX10_undo_28 : decode cX10_undo 28 = .ok (.invokevirtual 230, 3) := by decide +kernel
theorem dX10_undo_31 : decode cX10_undo 31 = .ok (.ireturn, 1) := by decide +kernel
theorem dX10_then_0 : decode cX10_then 0 = .ok (.aload_n 0, 1) := by decide +kernel
theorem dX10_then_1 : decode cX10_then 1 = .ok (.iload_n 1, 1) := by decide +kernel
theorem dX10_then_2 : decode cX10_then 2 = .ok (.invokevirtual 188, 3) := by decide +kernel
theorem dX10_then_5 : decode cX10_then 5 = .ok (.iload_n 3, 1) := by decide +kernel
theorem dX10_then_6 : decode cX10_then 6 = .ok (.iconst 1, 1) := by decide +kernel
theorem dX10_then_7 : decode cX10_then 7 = .ok (.invokestatic 234, 3) := by decide +kernel
theorem dX10_then_10 : decode cX10_then 10 = .ok (.iload_n 2, 1) := by decide +kernel
theorem dX10_then_11 : decode cX10_then 11 = .ok (.iconst 0, 1) := by decide +kernel
theorem dX10_then_12 : decode cX10_then 12 = .ok (.bipush 40, 2) := by decide +kernel
theorem dX10_then_14 : decode cX10_then 14 = .ok (.invokestatic 237, 3) := by decide +kernel
theorem dX10_then_17 : decode cX10_then 17 = .ok (.iload_n 3, 1) := by decide +kernel
theorem dX10_then_18 : decode cX10_then 18 = .ok (.ifCond .ne 15, 3) := by decide +kernel
theorem dX10_then_21 : decode cX10_then 21 = .ok (.aload_n 0, 1) := by decide +kernel
theorem dX10_then_22 : decode cX10_then 22 = .ok (.getfield 55, 3) := by decide +kernel
theorem dX10_then_25 : decode cX10_then 25 = .ok (.iload_n 1, 1) := by decide +kernel
theorem dX10_then_26 : decode cX10_then 26 = .ok (.iload_n 2, 1) := by decide +kernel
theorem dX10_then_27 : decode cX10_then 27 = .ok (.invokevirtual 193, 3) := by decide +kernel
theorem dX10_then_30 : decode cX10_then 30 = .ok (.goto 20, 3) := by decide +kernel
theorem dX10_then_33 : decode cX10_then 33 = .ok (.aload_n 0, 1) := by decide +kernel
theorem dX10_then_34 : decode cX10_then 34 = .ok (.getfield 55, 3) := by decide +kernel
theorem dX10_then_37 : decode cX10_then 37 = .ok (.iload_n 1, 1) := by decide +kernel
theorem dX10_then_38 : decode cX10_then 38 = .ok (.iload_n 2, 1) := by decide +kernel
theorem dX10_then_39 : decode cX10_then 39 = .ok (.aload_n 0, 1) := by decide +kernel
theorem dX10_then_40 : decode cX10_then 40 = .ok (.getfield 55, 3) := by decide +kernel
theorem dX10_then_43 : decode cX10_then 43 = .ok (.iload_n 2, 1) := by decide +kernel
theorem dX10_then_44 : decode cX10_then 44 = .ok (.invokevirtual 150, 3) := by decide +kernel
theorem dX10_then_47 : decode cX10_then 47 = .ok (.invokevirtual 197, 3) := by decide +kernel
theorem dX10_then_50 : decode cX10_then 50 = .ok (.ireturn, 1) := by decide +kernel
theorem dX10_honour_0 : decode cX10_honour 0 = .ok (.aload_n 0, 1) := by decide +kernel
theorem dX10_honour_1 : decode cX10_honour 1 = .ok (.iload_n 1, 1) := by decide +kernel
theorem dX10_honour_2 : decode cX10_honour 2 = .ok (.invokevirtual 171, 3) := by decide +kernel
theorem dX10_honour_5 : decode cX10_honour 5 = .ok (.iload_n 2, 1) := by decide +kernel
theorem dX10_honour_6 : decode cX10_honour 6 = .ok (.iconst 0, 1) := by decide +kernel
theorem dX10_honour_7 : decode cX10_honour 7 = .ok (.bipush 40, 2) := by decide +kernel
theorem dX10_honour_9 : decode cX10_honour 9 = .ok (.invokestatic 237, 3) := by decide +kernel
theorem dX10_honour_12 : decode cX10_honour 12 = .ok (.aload_n 0, 1) := by decide +kernel
theorem dX10_honour_13 : decode cX10_honour 13 = .ok (.getfield 55, 3) := by decide +kernel
theorem dX10_honour_16 : decode cX10_honour 16 = .ok (.iload_n 1, 1) := by decide +kernel
theorem dX10_honour_17 : decode cX10_honour 17 = .ok (.iload_n 2, 1) := by decide +kernel
theorem dX10_honour_18 : decode cX10_honour 18 = .ok (.invokevirtual 241, 3) := by decide +kernel
theorem dX10_honour_21 : decode cX10_honour 21 = .ok (.ireturn, 1) := by decide +kernel
theorem dX10_first_0 : decode cX10_first 0 = .ok (.aload_n 0, 1) := by decide +kernel
theorem dX10_first_1 : decode cX10_first 1 = .ok (.iload_n 1, 1) := by decide +kernel
theorem dX10_first_2 : decode cX10_first 2 = .ok (.invokevirtual 171, 3) := by decide +kernel
theorem dX10_first_5 : decode cX10_first 5 = .ok (.iconst 0, 1) := by decide +kernel
theorem dX10_first_6 : decode cX10_first 6 = .ok (.istore_n 2, 1) := by decide +kernel
theorem dX10_first_7 : decode cX10_first 7 = .ok (.iload_n 2, 1) := by decide +kernel
theorem dX10_first_8 : decode cX10_first 8 = .ok (.bipush 40, 2) := by decide +kernel
theorem dX10_first_10 : decode cX10_first 10 = .ok (.if_icmp .ge 33, 3) := by decide +kernel
theorem dX10_first_13 : decode cX10_first 13 = .ok (.aload_n 0, 1) := by decide +kernel
theorem dX10_first_14 : decode cX10_first 14 = .ok (.getfield 55, 3) := by decide +kernel
theorem dX10_first_17 : decode cX10_first 17 = .ok (.iload_n 1, 1) := by decide +kernel
theorem dX10_first_18 : decode cX10_first 18 = .ok (.iload_n 2, 1) := by decide +kernel
theorem dX10_first_19 : decode cX10_first 19 = .ok (.aload_n 0, 1) := by decide +kernel
theorem dX10_first_20 : decode cX10_first 20 = .ok (.getfield 55, 3) := by decide +kernel
theorem dX10_first_23 : decode cX10_first 23 = .ok (.iload_n 2, 1) := by decide +kernel
theorem dX10_first_24 : decode cX10_first 24 = .ok (.invokevirtual 150, 3) := by decide +kernel
theorem dX10_first_27 : decode cX10_first 27 = .ok (.invokevirtual 244, 3) := by decide +kernel
theorem dX10_first_30 : decode cX10_first 30 = .ok (.ifCond .le 7, 3) := by decide +kernel
theorem dX10_first_33 : decode cX10_first 33 = .ok (.iload_n 2, 1) := by decide +kernel
theorem dX10_first_34 : decode cX10_first 34 = .ok (.iconst 1, 1) := by decide +kernel
theorem dX10_first_35 : decode cX10_first 35 = .ok (.iadd, 1) := by decide +kernel
theorem dX10_first_36 : decode cX10_first 36 = .ok (.ireturn, 1) := by decide +kernel
theorem dX10_first_37 : decode cX10_first 37 = .ok (.iinc 2 1, 3) := by decide +kernel
theorem dX10_first_40 : decode cX10_first 40 = .ok (.goto (-33), 3) := by decide +kernel
theorem dX10_first_43 : decode cX10_first 43 = .ok (.iconst (-1), 1) := by decide +kernel
theorem dX10_first_44 : decode cX10_first 44 = .ok (.ireturn, 1) := by decide +kernel
theorem dX10_mistaken_0 : decode cX10_mistaken 0 = .ok (.iload_n 1, 1) := by decide +kernel
theorem dX10_mistaken_1 : decode cX10_mistaken 1 = .ok (.iconst 1, 1) := by decide +kernel
theorem dX10_mistaken_2 : decode cX10_mistaken 2 = .ok (.bipush 40, 2) := by decide +kernel
theorem dX10_mistaken_4 : decode cX10_mistaken 4 = .ok (.invokestatic 237, 3) := by decide +kernel
theorem dX10_mistaken_7 : decode cX10_mistaken 7 = .ok (.aload_n 0, 1) := by decide +kernel
theorem dX10_mistaken_8 : decode cX10_mistaken 8 = .ok (.getfield 55, 3) := by decide +kernel
theorem dX10_mistaken_11 : decode cX10_mistaken 11 = .ok (.iload_n 1, 1) := by decide +kernel
theorem dX10_mistaken_12 : decode cX10_mistaken 12 = .ok (.iconst 1, 1) := by decide +kernel
theorem dX10_mistaken_13 : decode cX10_mistaken 13 = .ok (.isub, 1) := by decide +kernel
theorem dX10_mistaken_14 : decode cX10_mistaken 14 = .ok (.invokevirtual 150, 3) := by decide +kernel
theorem dX10_mistaken_17 : decode cX10_mistaken 17 = .ok (.istore_n 2, 1) := by decide +kernel
theorem dX10_mistaken_18 : decode cX10_mistaken 18 = .ok (.iconst 0, 1) := by decide +kernel
theorem dX10_mistaken_19 : decode cX10_mistaken 19 = .ok (.istore_n 3, 1) := by decide +kernel
theorem dX10_mistaken_20 : decode cX10_mistaken 20 = .ok (.iconst 0, 1) := by decide +kernel
theorem dX10_mistaken_21 : decode cX10_mistaken 21 = .ok (.istore 4, 2) := by decide +kernel
theorem dX10_mistaken_23 : decode cX10_mistaken 23 = .ok (.iload 4, 2) := by decide +kernel
theorem dX10_mistaken_25 : decode cX10_mistaken 25 = .ok (.aload_n 0, 1) := by decide +kernel
theorem dX10_mistaken_26 : decode cX10_mistaken 26 = .ok (.getfield 31, 3) := by decide +kernel
theorem dX10_mistaken_29 : decode cX10_mistaken 29 = .ok (.getfield 141, 3) := by decide +kernel
theorem dX10_mistaken_32 : decode cX10_mistaken 32 = .ok (.if_icmp .ge 57, 3) := by decide +kernel
theorem dX10_mistaken_35 : decode cX10_mistaken 35 = .ok (.aload_n 0, 1) := by decide +kernel
theorem dX10_mistaken_36 : decode cX10_mistaken 36 = .ok (.getfield 55, 3) := by decide +kernel
theorem dX10_mistaken_39 : decode cX10_mistaken 39 = .ok (.iload 4, 2) := by decide +kernel
theorem dX10_mistaken_41 : decode cX10_mistaken 41 = .ok (.iload_n 1, 1) := by decide +kernel
theorem dX10_mistaken_42 : decode cX10_mistaken 42 = .ok (.iconst 1, 1) := by decide +kernel
theorem dX10_mistaken_43 : decode cX10_mistaken 43 = .ok (.isub, 1) := by decide +kernel
theorem dX10_mistaken_44 : decode cX10_mistaken 44 = .ok (.iload_n 2, 1) := by decide +kernel
theorem dX10_mistaken_45 : decode cX10_mistaken 45 = .ok (.invokevirtual 197, 3) := by decide +kernel
theorem dX10_mistaken_48 : decode cX10_mistaken 48 = .ok (.istore 5, 2) := by decide +kernel
theorem dX10_mistaken_50 : decode cX10_mistaken 50 = .ok (.iload 5, 2) := by decide +kernel
theorem dX10_mistaken_52 : decode cX10_mistaken 52 = .ok (.iconst (-1), 1) := by decide +kernel
theorem dX10_mistaken_53 : decode cX10_mistaken 53 = .ok (.if_icmp .eq 30, 3) := by decide +kernel
theorem dX10_mistaken_56 : decode cX10_mistaken 56 = .ok (.aload_n 0, 1) := by decide +kernel
theorem dX10_mistaken_57 : decode cX10_mistaken 57 = .ok (.getfield 55, 3) := by decide +kernel
theorem dX10_mistaken_60 : decode cX10_mistaken 60 = .ok (.iload 4, 2) := by decide +kernel
theorem dX10_mistaken_62 : decode cX10_mistaken 62 = .ok (.iload_n 1, 1) := by decide +kernel
theorem dX10_mistaken_63 : decode cX10_mistaken 63 = .ok (.iconst 1, 1) := by decide +kernel
theorem dX10_mistaken_64 : decode cX10_mistaken 64 = .ok (.isub, 1) := by decide +kernel
theorem dX10_mistaken_65 : decode cX10_mistaken 65 = .ok (.invokevirtual 247, 3) := by decide +kernel
theorem dX10_mistaken_68 : decode cX10_mistaken 68 = .ok (.iload 5, 2) := by decide +kernel
theorem dX10_mistaken_70 : decode cX10_mistaken 70 = .ok (.invokestatic 250, 3) := by decide +kernel
theorem dX10_mistaken_73 : decode cX10_mistaken 73 = .ok (.ifCond .ne 10, 3) := by decide +kernel
theorem dX10_mistaken_76 : decode cX10_mistaken 76 = .ok (.iload_n 3, 1) := by decide +kernel
theorem dX10_mistaken_77 : decode cX10_mistaken 77 = .ok (.iconst 1, 1) := by decide +kernel
theorem dX10_mistaken_78 : decode cX10_mistaken 78 = .ok (.iload 4, 2) := by decide +kernel
theorem dX10_mistaken_80 : decode cX10_mistaken 80 = .ok (.ishl, 1) := by decide +kernel
theorem dX10_mistaken_81 : decode cX10_mistaken 81 = .ok (.ior, 1) := by decide +kernel
theorem dX10_mistaken_82 : decode cX10_mistaken 82 = .ok (.istore_n 3, 1) := by decide +kernel
theorem dX10_mistaken_83 : decode cX10_mistaken 83 = .ok (.iinc 4 1, 3) := by decide +kernel
theorem dX10_mistaken_86 : decode cX10_mistaken 86 = .ok (.goto (-63), 3) := by decide +kernel
theorem dX10_mistaken_89 : decode cX10_mistaken 89 = .ok (.iload_n 3, 1) := by decide +kernel
theorem dX10_mistaken_90 : decode cX10_mistaken 90 = .ok (.ireturn, 1) := by decide +kernel
theorem dX10_unsung_0 : decode cX10_unsung 0 = .ok (.iload_n 1, 1) := by decide +kernel
theorem dX10_unsung_1 : decode cX10_unsung 1 = .ok (.iconst 1, 1) := by decide +kernel
theorem dX10_unsung_2 : decode cX10_unsung 2 = .ok (.bipush 40, 2) := by decide +kernel
theorem dX10_unsung_4 : decode cX10_unsung 4 = .ok (.invokestatic 237, 3) := by decide +kernel
theorem dX10_unsung_7 : decode cX10_unsung 7 = .ok (.aload_n 0, 1) := by decide +kernel
theorem dX10_unsung_8 : decode cX10_unsung 8 = .ok (.getfield 31, 3) := by decide +kernel
theorem dX10_unsung_11 : decode cX10_unsung 11 = .ok (.invokevirtual 253, 3) := by decide +kernel
theorem dX10_unsung_14 : decode cX10_unsung 14 = .ok (.istore_n 2, 1) := by decide +kernel
theorem dX10_unsung_15 : decode cX10_unsung 15 = .ok (.iconst 0, 1) := by decide +kernel
theorem dX10_unsung_16 : decode cX10_unsung 16 = .ok (.istore_n 3, 1) := by decide +kernel
theorem dX10_unsung_17 : decode cX10_unsung 17 = .ok (.iload_n 3, 1) := by decide +kernel
theorem dX10_unsung_18 : decode cX10_unsung 18 = .ok (.iload_n 1, 1) := by decide +kernel
theorem dX10_unsung_19 : decode cX10_unsung 19 = .ok (.if_icmp .ge 22, 3) := by decide +kernel
theorem dX10_unsung_22 : decode cX10_unsung 22 = .ok (.iload_n 2, 1) := by decide +kernel
theorem dX10_unsung_23 : decode cX10_unsung 23 = .ok (.aload_n 0, 1) := by decide +kernel
theorem dX10_unsung_24 : decode cX10_unsung 24 = .ok (.getfield 55, 3) := by decide +kernel
theorem dX10_unsung_27 : decode cX10_unsung 27 = .ok (.iload_n 3, 1) := by decide +kernel
theorem dX10_unsung_28 : decode cX10_unsung 28 = .ok (.invokevirtual 256, 3) := by decide +kernel
theorem dX10_unsung_31 : decode cX10_unsung 31 = .ok (.iconst (-1), 1) := by decide +kernel
theorem dX10_unsung_32 : decode cX10_unsung 32 = .ok (.ixor, 1) := by decide +kernel
theorem dX10_unsung_33 : decode cX10_unsung 33 = .ok (.iand, 1) := by decide +kernel
theorem dX10_unsung_34 : decode cX10_unsung 34 = .ok (.istore_n 2, 1) := by decide +kernel
theorem dX10_unsung_35 : decode cX10_unsung 35 = .ok (.iinc 3 1, 3) := by decide +kernel
theorem dX10_unsung_38 : decode cX10_unsung 38 = .ok (.goto (-21), 3) := by decide +kernel
theorem dX10_unsung_41 : decode cX10_unsung 41 = .ok (.iload_n 2, 1) := by decide +kernel
theorem dX10_unsung_42 : decode cX10_unsung 42 = .ok (.ireturn, 1) := by decide +kernel
theorem dX10_far_0 : decode cX10_far 0 = .ok (.aload_n 0, 1) := by decide +kernel
theorem dX10_far_1 : decode cX10_far 1 = .ok (.iload_n 1, 1) := by decide +kernel
theorem dX10_far_2 : decode cX10_far 2 = .ok (.invokevirtual 171, 3) := by decide +kernel
theorem dX10_far_5 : decode cX10_far 5 = .ok (.aload_n 0, 1) := by decide +kernel
theorem dX10_far_6 : decode cX10_far 6 = .ok (.iload_n 2, 1) := by decide +kernel
theorem dX10_far_7 : decode cX10_far 7 = .ok (.invokevirtual 171, 3) := by decide +kernel
theorem dX10_far_10 : decode cX10_far 10 = .ok (.aload_n 0, 1) := by decide +kernel
theorem dX10_far_11 : decode cX10_far 11 = .ok (.getfield 55, 3) := by decide +kernel
theorem dX10_far_14 : decode cX10_far 14 = .ok (.iload_n 1, 1) := by decide +kernel
theorem dX10_far_15 : decode cX10_far 15 = .ok (.aload_n 0, 1) := by decide +kernel
theorem dX10_far_16 : decode cX10_far 16 = .ok (.getfield 55, 3) := by decide +kernel
theorem dX10_far_19 : decode cX10_far 19 = .ok (.getfield 174, 3) := by decide +kernel
theorem dX10_far_22 : decode cX10_far 22 = .ok (.iload_n 2, 1) := by decide +kernel
theorem dX10_far_23 : decode cX10_far 23 = .ok (.invokevirtual 163, 3) := by decide +kernel
theorem dX10_far_26 : decode cX10_far 26 = .ok (.invokevirtual 259, 3) := by decide +kernel
theorem dX10_far_29 : decode cX10_far 29 = .ok (.ireturn, 1) := by decide +kernel
theorem dX10_nearest_0 : decode cX10_nearest 0 = .ok (.bipush 13, 2) := by decide +kernel
theorem dX10_nearest_2 : decode cX10_nearest 2 = .ok (.istore_n 1, 1) := by decide +kernel
theorem dX10_nearest_3 : decode cX10_nearest 3 = .ok (.iconst (-1), 1) := by decide +kernel
theorem dX10_nearest_4 : decode cX10_nearest 4 = .ok (.istore_n 2, 1) := by decide +kernel
theorem dX10_nearest_5 : decode cX10_nearest 5 = .ok (.iconst 0, 1) := by decide +kernel
theorem dX10_nearest_6 : decode cX10_nearest 6 = .ok (.istore_n 3, 1) := by decide +kernel
theorem dX10_nearest_7 : decode cX10_nearest 7 = .ok (.iload_n 3, 1) := by decide +kernel
theorem dX10_nearest_8 : decode cX10_nearest 8 = .ok (.aload_n 0, 1) := by decide +kernel
theorem dX10_nearest_9 : decode cX10_nearest 9 = .ok (.getfield 31, 3) := by decide +kernel
theorem dX10_nearest_12 : decode cX10_nearest 12 = .ok (.getfield 138, 3) := by decide +kernel
theorem dX10_nearest_15 : decode cX10_nearest 15 = .ok (.if_icmp .ge 71, 3) := by decide +kernel
theorem dX10_nearest_18 : decode cX10_nearest 18 = .ok (.iload_n 3, 1) := by decide +kernel
theorem dX10_nearest_19 : decode cX10_nearest 19 = .ok (.iconst 1, 1) := by decide +kernel
theorem dX10_nearest_20 : decode cX10_nearest 20 = .ok (.iadd, 1) := by decide +kernel
theorem dX10_nearest_21 : decode cX10_nearest 21 = .ok (.istore 4, 2) := by decide +kernel
theorem dX10_nearest_23 : decode cX10_nearest 23 = .ok (.iload 4, 2) := by decide +kernel
theorem dX10_nearest_25 : decode cX10_nearest 25 = .ok (.aload_n 0, 1) := by decide +kernel
theorem dX10_nearest_26 : decode cX10_nearest 26 = .ok (.getfield 31, 3) := by decide +kernel
theorem dX10_nearest_29 : decode cX10_nearest 29 = .ok (.getfield 138, 3) := by decide +kernel
theorem dX10_nearest_32 : decode cX10_nearest 32 = .ok (.if_icmp .ge 48, 3) := by decide +kernel
theorem dX10_nearest_35 : decode cX10_nearest 35 = .ok (.aload_n 0, 1) := by decide +kernel
theorem dX10_nearest_36 : decode cX10_nearest 36 = .ok (.getfield 55, 3) := by decide +kernel
theorem dX10_nearest_39 : decode cX10_nearest 39 = .ok (.iload_n 3, 1) := by decide +kernel
theorem dX10_nearest_40 : decode cX10_nearest 40 = .ok (.aload_n 0, 1) := by decide +kernel
theorem dX10_nearest_41 : decode cX10_nearest 41 = .ok (.getfield 55, 3) := by decide +kernel
theorem dX10_nearest_44 : decode cX10_nearest 44 = .ok (.getfield 174, 3) := by decide +kernel
theorem dX10_nearest_47 : decode cX10_nearest 47 = .ok (.iload 4, 2) := by decide +kernel
theorem dX10_nearest_49 : decode cX10_nearest 49 = .ok (.invokevirtual 163, 3) := by decide +kernel
theorem dX10_nearest_52 : decode cX10_nearest 52 = .ok (.invokevirtual 259, 3) := by decide +kernel
theorem dX10_nearest_55 : decode cX10_nearest 55 = .ok (.istore 5, 2) := by decide +kernel
theorem dX10_nearest_57 : decode cX10_nearest 57 = .ok (.iload 5, 2) := by decide +kernel
theorem dX10_nearest_59 : decode cX10_nearest 59 = .ok (.iload_n 1, 1) := by decide +kernel
theorem dX10_nearest_60 : decode cX10_nearest 60 = .ok (.if_icmp .ge 14, 3) := by decide +kernel
theorem dX10_nearest_63 : decode cX10_nearest 63 = .ok (.iload 5, 2) := by decide +kernel
theorem dX10_nearest_65 : decode cX10_nearest 65 = .ok (.istore_n 1, 1) := by decide +kernel
theorem dX10_nearest_66 : decode cX10_nearest 66 = .ok (.bipush 10, 2) := by decide +kernel
theorem dX10_nearest_68 : decode cX10_nearest 68 = .ok (.iload_n 3, 1) := by decide +kernel
theorem dX10_nearest_69 : decode cX10_nearest 69 = .ok (.imul, 1) := by decide +kernel
theorem dX10_nearest_70 : decode cX10_nearest 70 = .ok (.iload 4, 2) := by decide +kernel
theorem dX10_nearest_72 : decode cX10_nearest 72 = .ok (.iadd, 1) := by decide +kernel
theorem dX10_nearest_73 : decode cX10_nearest 73 = .ok (.istore_n 2, 1) := by decide +kernel
theorem dX10_nearest_74 : decode cX10_nearest 74 = .ok (.iinc 4 1, 3) := by decide +kernel
theorem dX10_nearest_77 : decode cX10_nearest 77 = .ok (.goto (-54), 3) := by decide +kernel
theorem dX10_nearest_80 : decode cX10_nearest 80 = .ok (.iinc 3 1, 3) := by decide +kernel
theorem dX10_nearest_83 : decode cX10_nearest 83 = .ok (.goto (-76), 3) := by decide +kernel
theorem dX10_nearest_86 : decode cX10_nearest 86 = .ok (.iload_n 2, 1) := by decide +kernel
theorem dX10_nearest_87 : decode cX10_nearest 87 = .ok (.ireturn, 1) := by decide +kernel
theorem dX10_apart_0 : decode cX10_apart 0 = .ok (.iload_n 1, 1) := by decide +kernel
theorem dX10_apart_1 : decode cX10_apart 1 = .ok (.iconst 1, 1) := by decide +kernel
theorem dX10_apart_2 : decode cX10_apart 2 = .ok (.bipush 12, 2) := by decide +kernel
theorem dX10_apart_4 : decode cX10_apart 4 = .ok (.invokestatic 237, 3) := by decide +kernel
theorem dX10_apart_7 : decode cX10_apart 7 = .ok (.iconst 0, 1) := by decide +kernel
theorem dX10_apart_8 : decode cX10_apart 8 = .ok (.istore_n 2, 1) := by decide +kernel
theorem dX10_apart_9 : decode cX10_apart 9 = .ok (.iconst 1, 1) := by decide +kernel
theorem dX10_apart_10 : decode cX10_apart 10 = .ok (.istore_n 3, 1) := by decide +kernel
theorem dX10_apart_11 : decode cX10_apart 11 = .ok (.iload_n 3, 1) := by decide +kernel
theorem dX10_apart_12 : decode cX10_apart 12 = .ok (.aload_n 0, 1) := by decide +kernel
theorem dX10_apart_13 : decode cX10_apart 13 = .ok (.getfield 31, 3) := by decide +kernel
theorem dX10_apart_16 : decode cX10_apart 16 = .ok (.invokevirtual 253, 3) := by decide +kernel
theorem dX10_apart_19 : decode cX10_apart 19 = .ok (.if_icmp .gt 34, 3) := by decide +kernel
theorem dX10_apart_22 : decode cX10_apart 22 = .ok (.iload_n 3, 1) := by decide +kernel
theorem dX10_apart_23 : decode cX10_apart 23 = .ok (.invokestatic 262, 3) := by decide +kernel
theorem dX10_apart_26 : decode cX10_apart 26 = .ok (.iload_n 2, 1) := by decide +kernel
theorem dX10_apart_27 : decode cX10_apart 27 = .ok (.invokestatic 262, 3) := by decide +kernel
theorem dX10_apart_30 : decode cX10_apart 30 = .ok (.if_icmp .le 17, 3) := by decide +kernel
theorem dX10_apart_33 : decode cX10_apart 33 = .ok (.aload_n 0, 1) := by decide +kernel
theorem dX10_apart_34 : decode cX10_apart 34 = .ok (.getfield 55, 3) := by decide +kernel
theorem dX10_apart_37 : decode cX10_apart 37 = .ok (.iload_n 3, 1) := by decide +kernel
theorem dX10_apart_38 : decode cX10_apart 38 = .ok (.iload_n 1, 1) := by decide +kernel
theorem dX10_apart_39 : decode cX10_apart 39 = .ok (.invokevirtual 267, 3) := by decide +kernel
theorem dX10_apart_42 : decode cX10_apart 42 = .ok (.ifCond .eq 5, 3) := by decide +kernel
theorem dX10_apart_45 : decode cX10_apart 45 = .ok (.iload_n 3, 1) := by decide +kernel
theorem dX10_apart_46 : decode cX10_apart 46 = .ok (.istore_n 2, 1) := by decide +kernel
theorem dX10_apart_47 : decode cX10_apart 47 = .ok (.iinc 3 1, 3) := by decide +kernel
theorem dX10_apart_50 : decode cX10_apart 50 = .ok (.goto (-39), 3) := by decide +kernel
theorem dX10_apart_53 : decode cX10_apart 53 = .ok (.iload_n 2, 1) := by decide +kernel
theorem dX10_apart_54 : decode cX10_apart 54 = .ok (.ireturn, 1) := by decide +kernel
theorem dX10_tread_0 : decode cX10_tread 0 = .ok (.iload_n 1, 1) := by decide +kernel
theorem dX10_tread_1 : decode cX10_tread 1 = .ok (.iconst 1, 1) := by decide +kernel
theorem dX10_tread_2 : decode cX10_tread 2 = .ok (.invokestatic 234, 3) := by decide +kernel
theorem dX10_tread_5 : decode cX10_tread 5 = .ok (.aload_n 0, 1) := by decide +kernel
theorem dX10_tread_6 : decode cX10_tread 6 = .ok (.getfield 31, 3) := by decide +kernel
theorem dX10_tread_9 : decode cX10_tread 9 = .ok (.getfield 138, 3) := by decide +kernel
theorem dX10_tread_12 : decode cX10_tread 12 = .ok (.ifCond .ne 5, 3) := by decide +kernel
theorem dX10_tread_15 : decode cX10_tread 15 = .ok (.iconst (-1), 1) := by decide +kernel
theorem dX10_tread_16 : decode cX10_tread 16 = .ok (.ireturn, 1) := by decide +kernel
theorem dX10_tread_17 : decode cX10_tread 17 = .ok (.iconst 0, 1) := by decide +kernel
theorem dX10_tread_18 : decode cX10_tread 18 = .ok (.istore_n 2, 1) := by decide +kernel
theorem dX10_tread_19 : decode cX10_tread 19 = .ok (.aload_n 0, 1) := by decide +kernel
theorem dX10_tread_20 : decode cX10_tread 20 = .ok (.getfield 55, 3) := by decide +kernel
theorem dX10_tread_23 : decode cX10_tread 23 = .ok (.iconst 0, 1) := by decide +kernel
theorem dX10_tread_24 : decode cX10_tread 24 = .ok (.invokevirtual 270, 3) := by decide +kernel
theorem dX10_tread_27 : decode cX10_tread 27 = .ok (.istore_n 3, 1) := by decide +kernel
theorem dX10_tread_28 : decode cX10_tread 28 = .ok (.iconst 1, 1) := by decide +kernel
theorem dX10_tread_29 : decode cX10_tread 29 = .ok (.istore 4, 2) := by decide +kernel
theorem dX10_tread_31 : decode cX10_tread 31 = .ok (.iload 4, 2) := by decide +kernel
theorem dX10_tread_33 : decode cX10_tread 33 = .ok (.aload_n 0, 1) := by decide +kernel
theorem dX10_tread_34 : decode cX10_tread 34 = .ok (.getfield 31, 3) := by decide +kernel
theorem dX10_tread_37 : decode cX10_tread 37 = .ok (.invokevirtual 273, 3) := by decide +kernel
theorem dX10_tread_40 : decode cX10_tread 40 = .ok (.if_icmp .gt 32, 3) := by decide +kernel
theorem dX10_tread_43 : decode cX10_tread 43 = .ok (.aload_n 0, 1) := by decide +kernel
theorem dX10_tread_44 : decode cX10_tread 44 = .ok (.getfield 55, 3) := by decide +kernel
theorem dX10_tread_47 : decode cX10_tread 47 = .ok (.iload 4, 2) := by decide +kernel
theorem dX10_tread_49 : decode cX10_tread 49 = .ok (.invokevirtual 270, 3) := by decide +kernel
theorem dX10_tread_52 : decode cX10_tread 52 = .ok (.istore 5, 2) := by decide +kernel
theorem dX10_tread_54 : decode cX10_tread 54 = .ok (.iload 5, 2) := by decide +kernel
theorem dX10_tread_56 : decode cX10_tread 56 = .ok (.iload_n 3, 1) := by decide +kernel
theorem dX10_tread_57 : decode cX10_tread 57 = .ok (.if_icmp .le 9, 3) := by decide +kernel
theorem dX10_tread_60 : decode cX10_tread 60 = .ok (.iload 5, 2) := by decide +kernel
theorem dX10_tread_62 : decode cX10_tread 62 = .ok (.istore_n 3, 1) := by decide +kernel
theorem dX10_tread_63 : decode cX10_tread 63 = .ok (.iload 4, 2) := by decide +kernel
theorem dX10_tread_65 : decode cX10_tread 65 = .ok (.istore_n 2, 1) := by decide +kernel
theorem dX10_tread_66 : decode cX10_tread 66 = .ok (.iinc 4 1, 3) := by decide +kernel
theorem dX10_tread_69 : decode cX10_tread 69 = .ok (.goto (-38), 3) := by decide +kernel
theorem dX10_tread_72 : decode cX10_tread 72 = .ok (.iload_n 1, 1) := by decide +kernel
theorem dX10_tread_73 : decode cX10_tread 73 = .ok (.ifCond .ne 7, 3) := by decide +kernel
theorem dX10_tread_76 : decode cX10_tread 76 = .ok (.iload_n 3, 1) := by decide +kernel
theorem dX10_tread_77 : decode cX10_tread 77 = .ok (.goto 4, 3) := by decide +kernel
theorem dX10_tread_80 : decode cX10_tread 80 = .ok (.iload_n 2, 1) := by decide +kernel
theorem dX10_tread_81 : decode cX10_tread 81 = .ok (.ireturn, 1) := by decide +kernel
theorem dX10_passes_0 : decode cX10_passes 0 = .ok (.aload_n 0, 1) := by decide +kernel
theorem dX10_passes_1 : decode cX10_passes 1 = .ok (.iload_n 1, 1) := by decide +kernel
theorem dX10_passes_2 : decode cX10_passes 2 = .ok (.invokevirtual 171, 3) := by decide +kernel
theorem dX10_passes_5 : decode cX10_passes 5 = .ok (.aload_n 0, 1) := by decide +kernel
theorem dX10_passes_6 : decode cX10_passes 6 = .ok (.iload_n 2, 1) := by decide +kernel
theorem dX10_passes_7 : decode cX10_passes 7 = .ok (.invokevirtual 171, 3) := by decide +kernel
theorem dX10_passes_10 : decode cX10_passes 10 = .ok (.iload_n 1, 1) := by decide +kernel
theorem dX10_passes_11 : decode cX10_passes 11 = .ok (.iload_n 2, 1) := by decide +kernel
theorem dX10_passes_12 : decode cX10_passes 12 = .ok (.if_icmp .ne 5, 3) := by decide +kernel
theorem dX10_passes_15 : decode cX10_passes 15 = .ok (.iconst (-1), 1) := by decide +kernel
theorem dX10_passes_16 : decode cX10_passes 16 = .ok (.ireturn, 1) := by decide +kernel
theorem dX10_passes_17 : decode cX10_passes 17 = .ok (.iconst 0, 1) := by decide +kernel
theorem dX10_passes_18 : decode cX10_passes 18 = .ok (.istore_n 3, 1) := by decide +kernel
theorem dX10_passes_19 : decode cX10_passes 19 = .ok (.iload_n 3, 1) := by decide +kernel
theorem dX10_passes_20 : decode cX10_passes 20 = .ok (.aload_n 0, 1) := by decide +kernel
theorem dX10_passes_21 : decode cX10_passes 21 = .ok (.getfield 31, 3) := by decide +kernel
theorem dX10_passes_24 : decode cX10_passes 24 = .ok (.getfield 141, 3) := by decide +kernel
theorem dX10_passes_27 : decode cX10_passes 27 = .ok (.if_icmp .ge 33, 3) := by decide +kernel
theorem dX10_passes_30 : decode cX10_passes 30 = .ok (.aload_n 0, 1) := by decide +kernel
theorem dX10_passes_31 : decode cX10_passes 31 = .ok (.getfield 55, 3) := by decide +kernel
theorem dX10_passes_34 : decode cX10_passes 34 = .ok (.iload_n 1, 1) := by decide +kernel
theorem dX10_passes_35 : decode cX10_passes 35 = .ok (.iload_n 3, 1) := by decide +kernel
theorem dX10_passes_36 : decode cX10_passes 36 = .ok (.invokevirtual 210, 3) := by decide +kernel
theorem dX10_passes_39 : decode cX10_passes 39 = .ok (.ifCond .ne 15, 3) := by decide +kernel
theorem dX10_passes_42 : decode cX10_passes 42 = .ok (.aload_n 0, 1) := by decide +kernel
theorem dX10_passes_43 : decode cX10_passes 43 = .ok (.iload_n 1, 1) := by decide +kernel
theorem dX10_passes_44 : decode cX10_passes 44 = .ok (.iload_n 3, 1) := by decide +kernel
theorem dX10_passes_45 : decode cX10_passes 45 = .ok (.invokevirtual 276, 3) := by decide +kernel
theorem dX10_passes_48 : decode cX10_passes 48 = .ok (.iload_n 2, 1) := by decide +kernel
theorem dX10_passes_49 : decode cX10_passes 49 = .ok (.if_icmp .ne 5, 3) := by decide +kernel
theorem dX10_passes_52 : decode cX10_passes 52 = .ok (.iload_n 3, 1) := by decide +kernel
theorem dX10_passes_53 : decode cX10_passes 53 = .ok (.ireturn, 1) := by decide +kernel
theorem dX10_passes_54 : decode cX10_passes 54 = .ok (.iinc 3 1, 3) := by decide +kernel
theorem dX10_passes_57 : decode cX10_passes 57 = .ok (.goto (-38), 3) := by decide +kernel
theorem dX10_passes_60 : decode cX10_passes 60 = .ok (.iconst (-1), 1) := by decide +kernel
theorem dX10_passes_61 : decode cX10_passes 61 = .ok (.ireturn, 1) := by decide +kernel
theorem dX10_hidden_0 : decode cX10_hidden 0 = .ok (.aload_n 0, 1) := by decide +kernel
theorem dX10_hidden_1 : decode cX10_hidden 1 = .ok (.iload_n 1, 1) := by decide +kernel
theorem dX10_hidden_2 : decode cX10_hidden 2 = .ok (.invokevirtual 171, 3) := by decide +kernel
theorem dX10_hidden_5 : decode cX10_hidden 5 = .ok (.iconst 0, 1) := by decide +kernel
theorem dX10_hidden_6 : decode cX10_hidden 6 = .ok (.istore_n 2, 1) := by decide +kernel
theorem dX10_hidden_7 : decode cX10_hidden 7 = .ok (.iconst 0, 1) := by decide +kernel
theorem dX10_hidden_8 : decode cX10_hidden 8 = .ok (.istore_n 3, 1) := by decide +kernel
theorem dX10_hidden_9 : decode cX10_hidden 9 = .ok (.iload_n 3, 1) := by decide +kernel
theorem dX10_hidden_10 : decode cX10_hidden 10 = .ok (.aload_n 0, 1) := by decide +kernel
theorem dX10_hidden_11 : decode cX10_hidden 11 = .ok (.getfield 31, 3) := by decide +kernel
theorem dX10_hidden_14 : decode cX10_hidden 14 = .ok (.getfield 141, 3) := by decide +kernel
theorem dX10_hidden_17 : decode cX10_hidden 17 = .ok (.if_icmp .ge 37, 3) := by decide +kernel
theorem dX10_hidden_20 : decode cX10_hidden 20 = .ok (.aload_n 0, 1) := by decide +kernel
theorem dX10_hidden_21 : decode cX10_hidden 21 = .ok (.getfield 55, 3) := by decide +kernel
theorem dX10_hidden_24 : decode cX10_hidden 24 = .ok (.iload_n 1, 1) := by decide +kernel
theorem dX10_hidden_25 : decode cX10_hidden 25 = .ok (.iload_n 3, 1) := by decide +kernel
theorem dX10_hidden_26 : decode cX10_hidden 26 = .ok (.invokevirtual 210, 3) := by decide +kernel
theorem dX10_hidden_29 : decode cX10_hidden 29 = .ok (.ifCond .ne 19, 3) := by decide +kernel
theorem dX10_hidden_32 : decode cX10_hidden 32 = .ok (.aload_n 0, 1) := by decide +kernel
theorem dX10_hidden_33 : decode cX10_hidden 33 = .ok (.iload_n 1, 1) := by decide +kernel
theorem dX10_hidden_34 : decode cX10_hidden 34 = .ok (.iload_n 3, 1) := by decide +kernel
theorem dX10_hidden_35 : decode cX10_hidden 35 = .ok (.invokevirtual 276, 3) := by decide +kernel
theorem dX10_hidden_38 : decode cX10_hidden 38 = .ok (.iload_n 1, 1) := by decide +kernel
theorem dX10_hidden_39 : decode cX10_hidden 39 = .ok (.if_icmp .eq 9, 3) := by decide +kernel
theorem dX10_hidden_42 : decode cX10_hidden 42 = .ok (.iload_n 2, 1) := by decide +kernel
theorem dX10_hidden_43 : decode cX10_hidden 43 = .ok (.iconst 1, 1) := by decide +kernel
theorem dX10_hidden_44 : decode cX10_hidden 44 = .ok (.iload_n 3, 1) := by decide +kernel
theorem dX10_hidden_45 : decode cX10_hidden 45 = .ok (.ishl, 1) := by decide +kernel
theorem dX10_hidden_46 : decode cX10_hidden 46 = .ok (.ior, 1) := by decide +kernel
theorem dX10_hidden_47 : decode cX10_hidden 47 = .ok (.istore_n 2, 1) := by decide +kernel
theorem dX10_hidden_48 : decode cX10_hidden 48 = .ok (.iinc 3 1, 3) := by decide +kernel
theorem dX10_hidden_51 : decode cX10_hidden 51 = .ok (.goto (-42), 3) := by decide +kernel
theorem dX10_hidden_54 : decode cX10_hidden 54 = .ok (.iload_n 2, 1) := by decide +kernel
theorem dX10_hidden_55 : decode cX10_hidden 55 = .ok (.ireturn, 1) := by decide +kernel
theorem dX10_toSock_0 : decode cX10_toSock 0 = .ok (.aload_n 0, 1) := by decide +kernel
theorem dX10_toSock_1 : decode cX10_toSock 1 = .ok (.iload_n 1, 1) := by decide +kernel
theorem dX10_toSock_2 : decode cX10_toSock 2 = .ok (.invokevirtual 171, 3) := by decide +kernel
theorem dX10_toSock_5 : decode cX10_toSock 5 = .ok (.aload_n 0, 1) := by decide +kernel
theorem dX10_toSock_6 : decode cX10_toSock 6 = .ok (.getfield 55, 3) := by decide +kernel
theorem dX10_toSock_9 : decode cX10_toSock 9 = .ok (.iload_n 1, 1) := by decide +kernel
theorem dX10_toSock_10 : decode cX10_toSock 10 = .ok (.invokevirtual 183, 3) := by decide +kernel
theorem dX10_toSock_13 : decode cX10_toSock 13 = .ok (.iconst (-1), 1) := by decide +kernel
theorem dX10_toSock_14 : decode cX10_toSock 14 = .ok (.if_icmp .ne 5, 3) := by decide +kernel
theorem dX10_toSock_17 : decode cX10_toSock 17 = .ok (.iconst (-1), 1) := by decide +kernel
theorem dX10_toSock_18 : decode cX10_toSock 18 = .ok (.ireturn, 1) := by decide +kernel
theorem dX10_toSock_19 : decode cX10_toSock 19 = .ok (.aload_n 0, 1) := by decide +kernel
theorem dX10_toSock_20 : decode cX10_toSock 20 = .ok (.getfield 59, 3) := by decide +kernel
theorem dX10_toSock_23 : decode cX10_toSock 23 = .ok (.aload_n 0, 1) := by decide +kernel
theorem dX10_toSock_24 : decode cX10_toSock 24 = .ok (.getfield 55, 3) := by decide +kernel
theorem dX10_toSock_27 : decode cX10_toSock 27 = .ok (.invokevirtual 116, 3) := by decide +kernel
theorem dX10_toSock_30 : decode cX10_toSock 30 = .ok (.bipush 9, 2) := by decide +kernel
theorem dX10_toSock_32 : decode cX10_toSock 32 = .ok (.istore_n 2, 1) := by decide +kernel
theorem dX10_toSock_33 : decode cX10_toSock 33 = .ok (.iload_n 2, 1) := by decide +kernel
theorem dX10_toSock_34 : decode cX10_toSock 34 = .ok (.iconst 1, 1) := by decide +kernel
theorem dX10_toSock_35 : decode cX10_toSock 35 = .ok (.if_icmp .lt 43, 3) := by decide +kernel
theorem dX10_toSock_38 : decode cX10_toSock 38 = .ok (.aload_n 0, 1) := by decide +kernel
theorem dX10_toSock_39 : decode cX10_toSock 39 = .ok (.getfield 59, 3) := by decide +kernel
theorem dX10_toSock_42 : decode cX10_toSock 42 = .ok (.getfield 177, 3) := by decide +kernel
theorem dX10_toSock_45 : decode cX10_toSock 45 = .ok (.iload_n 1, 1) := by decide +kernel
theorem dX10_toSock_46 : decode cX10_toSock 46 = .ok (.iload_n 2, 1) := by decide +kernel
theorem dX10_toSock_47 : decode cX10_toSock 47 = .ok (.invokevirtual 224, 3) := by decide +kernel
theorem dX10_toSock_50 : decode cX10_toSock 50 = .ok (.aload_n 0, 1) := by decide +kernel
theorem dX10_toSock_51 : decode cX10_toSock 51 = .ok (.getfield 59, 3) := by decide +kernel
theorem dX10_toSock_54 : decode cX10_toSock 54 = .ok (.iload_n 1, 1) := by decide +kernel
theorem dX10_toSock_55 : decode cX10_toSock 55 = .ok (.iconst 0, 1) := by decide +kernel
theorem dX10_toSock_56 : decode cX10_toSock 56 = .ok (.aload_n 0, 1) := by decide +kernel
theorem dX10_toSock_57 : decode cX10_toSock 57 = .ok (.getfield 59, 3) := by decide +kernel
theorem dX10_toSock_60 : decode cX10_toSock 60 = .ok (.iconst 0, 1) := by decide +kernel
theorem dX10_toSock_61 : decode cX10_toSock 61 = .ok (.invokevirtual 150, 3) := by decide +kernel
theorem dX10_toSock_64 : decode cX10_toSock 64 = .ok (.invokevirtual 244, 3) := by decide +kernel
theorem dX10_toSock_67 : decode cX10_toSock 67 = .ok (.ifCond .ne 5, 3) := by decide +kernel
theorem dX10_toSock_70 : decode cX10_toSock 70 = .ok (.iload_n 2, 1) := by decide +kernel
theorem dX10_toSock_71 : decode cX10_toSock 71 = .ok (.ireturn, 1) := by decide +kernel
theorem dX10_toSock_72 : decode cX10_toSock 72 = .ok (.iinc 2 (-1), 3) := by decide +kernel
theorem dX10_toSock_75 : decode cX10_toSock 75 = .ok (.goto (-42), 3) := by decide +kernel
theorem dX10_toSock_78 : decode cX10_toSock 78 = .ok (.iconst (-1), 1) := by decide +kernel
theorem dX10_toSock_79 : decode cX10_toSock 79 = .ok (.ireturn, 1) := by decide +kernel
theorem dX10_review_0 : decode cX10_review 0 = .ok (.iload_n 1, 1) := by decide +kernel
theorem dX10_review_1 : decode cX10_review 1 = .ok (.iconst (-1), 1) := by decide +kernel
theorem dX10_review_2 : decode cX10_review 2 = .ok (.if_icmp .eq 8, 3) := by decide +kernel
theorem dX10_review_5 : decode cX10_review 5 = .ok (.aload_n 0, 1) := by decide +kernel
theorem dX10_review_6 : decode cX10_review 6 = .ok (.iload_n 1, 1) := by decide +kernel
theorem dX10_review_7 : decode cX10_review 7 = .ok (.invokevirtual 188, 3) := by decide +kernel
theorem dX10_review_10 : decode cX10_review 10 = .ok (.aload_n 0, 1) := by decide +kernel
theorem dX10_review_11 : decode cX10_review 11 = .ok (.getfield 31, 3) := by decide +kernel
theorem dX10_review_14 : decode cX10_review 14 = .ok (.getfield 141, 3) := by decide +kernel
theorem dX10_review_17 : decode cX10_review 17 = .ok (.bipush 6, 2) := by decide +kernel
theorem dX10_review_19 : decode cX10_review 19 = .ok (.if_icmp .le 6, 3) := by decide +kernel
theorem dX10_review_22 : decode cX10_review 22 = .ok (.bipush (-2), 2) := by decide +kernel
theorem dX10_review_24 : decode cX10_review 24 = .ok (.ireturn, 1) := by decide +kernel
theorem dX10_review_25 : decode cX10_review 25 = .ok (.aload_n 0, 1) := by decide +kernel
theorem dX10_review_26 : decode cX10_review 26 = .ok (.getfield 81, 3) := by decide +kernel
theorem dX10_review_29 : decode cX10_review 29 = .ok (.aload_n 0, 1) := by decide +kernel
theorem dX10_review_30 : decode cX10_review 30 = .ok (.getfield 55, 3) := by decide +kernel
theorem dX10_review_33 : decode cX10_review 33 = .ok (.invokevirtual 279, 3) := by decide +kernel
theorem dX10_review_36 : decode cX10_review 36 = .ok (.iload_n 1, 1) := by decide +kernel
theorem dX10_review_37 : decode cX10_review 37 = .ok (.iconst (-1), 1) := by decide +kernel
theorem dX10_review_38 : decode cX10_review 38 = .ok (.if_icmp .ne 13, 3) := by decide +kernel
theorem dX10_review_41 : decode cX10_review 41 = .ok (.aload_n 0, 1) := by decide +kernel
theorem dX10_review_42 : decode cX10_review 42 = .ok (.getfield 81, 3) := by decide +kernel
theorem dX10_review_45 : decode cX10_review 45 = .ok (.getfield 282, 3) := by decide +kernel
theorem dX10_review_48 : decode cX10_review 48 = .ok (.goto 14, 3) := by decide +kernel
theorem dX10_review_51 : decode cX10_review 51 = .ok (.aload_n 0, 1) := by decide +kernel
theorem dX10_review_52 : decode cX10_review 52 = .ok (.getfield 81, 3) := by decide +kernel
theorem dX10_review_55 : decode cX10_review 55 = .ok (.getfield 285, 3) := by decide +kernel
theorem dX10_review_58 : decode cX10_review 58 = .ok (.iload_n 1, 1) := by decide +kernel
theorem dX10_review_59 : decode cX10_review 59 = .ok (.invokevirtual 163, 3) := by decide +kernel
theorem dX10_review_62 : decode cX10_review 62 = .ok (.ireturn, 1) := by decide +kernel
theorem dX10_see_0 : decode cX10_see 0 = .ok (.aload_n 0, 1) := by decide +kernel
theorem dX10_see_1 : decode cX10_see 1 = .ok (.iload_n 1, 1) := by decide +kernel
theorem dX10_see_2 : decode cX10_see 2 = .ok (.invokevirtual 188, 3) := by decide +kernel
theorem dX10_see_5 : decode cX10_see 5 = .ok (.aload_n 0, 1) := by decide +kernel
theorem dX10_see_6 : decode cX10_see 6 = .ok (.iload_n 3, 1) := by decide +kernel
theorem dX10_see_7 : decode cX10_see 7 = .ok (.invokevirtual 218, 3) := by decide +kernel
theorem dX10_see_10 : decode cX10_see 10 = .ok (.aload_n 0, 1) := by decide +kernel
theorem dX10_see_11 : decode cX10_see 11 = .ok (.getfield 40, 3) := by decide +kernel
theorem dX10_see_14 : decode cX10_see 14 = .ok (.getfield 128, 3) := by decide +kernel
theorem dX10_see_17 : decode cX10_see 17 = .ok (.getfield 132, 3) := by decide +kernel
theorem dX10_see_20 : decode cX10_see 20 = .ok (.bipush 8, 2) := by decide +kernel
theorem dX10_see_22 : decode cX10_see 22 = .ok (.if_icmp .ge 14, 3) := by decide +kernel
theorem dX10_see_25 : decode cX10_see 25 = .ok (.iload_n 2, 1) := by decide +kernel
theorem dX10_see_26 : decode cX10_see 26 = .ok (.iconst 1, 1) := by decide +kernel
theorem dX10_see_27 : decode cX10_see 27 = .ok (.if_icmp .lt 9, 3) := by decide +kernel
theorem dX10_see_30 : decode cX10_see 30 = .ok (.iload_n 2, 1) := by decide +kernel
theorem dX10_see_31 : decode cX10_see 31 = .ok (.bipush 12, 2) := by decide +kernel
theorem dX10_see_33 : decode cX10_see 33 = .ok (.if_icmp .le 10, 3) := by decide +kernel
theorem dX10_see_36 : decode cX10_see 36 = .ok (.aload_n 0, 1) := by decide +kernel
theorem dX10_see_37 : decode cX10_see 37 = .ok (.iconst 2, 1) := by decide +kernel
theorem dX10_see_38 : decode cX10_see 38 = .ok (.invokevirtual 106, 3) := by decide +kernel
theorem dX10_see_41 : decode cX10_see 41 = .ok (.iconst (-1), 1) := by decide +kernel
theorem dX10_see_42 : decode cX10_see 42 = .ok (.ireturn, 1) := by decide +kernel
theorem dX10_see_43 : decode cX10_see 43 = .ok (.aload_n 0, 1) := by decide +kernel
theorem dX10_see_44 : decode cX10_see 44 = .ok (.getfield 40, 3) := by decide +kernel
theorem dX10_see_47 : decode cX10_see 47 = .ok (.getfield 128, 3) := by decide +kernel
theorem dX10_see_50 : decode cX10_see 50 = .ok (.iload_n 1, 1) := by decide +kernel
theorem dX10_see_51 : decode cX10_see 51 = .ok (.iload_n 2, 1) := by decide +kernel
theorem dX10_see_52 : decode cX10_see 52 = .ok (.iload_n 3, 1) := by decide +kernel
theorem dX10_see_53 : decode cX10_see 53 = .ok (.iload 4, 2) := by decide +kernel
theorem dX10_see_55 : decode cX10_see 55 = .ok (.ifCond .eq 7, 3) := by decide +kernel
theorem dX10_see_58 : decode cX10_see 58 = .ok (.iconst 1, 1) := by decide +kernel
theorem dX10_see_59 : decode cX10_see 59 = .ok (.goto 4, 3) := by decide +kernel
theorem dX10_see_62 : decode cX10_see 62 = .ok (.iconst 0, 1) := by decide +kernel
theorem dX10_see_63 : decode cX10_see 63 = .ok (.invokevirtual 288, 3) := by decide +kernel
theorem dX10_see_66 : decode cX10_see 66 = .ok (.ireturn, 1) := by decide +kernel
theorem dX10_forget_0 : decode cX10_forget 0 = .ok (.aload_n 0, 1) := by decide +kernel
theorem dX10_forget_1 : decode cX10_forget 1 = .ok (.getfield 40, 3) := by decide +kernel
theorem dX10_forget_4 : decode cX10_forget 4 = .ok (.getfield 128, 3) := by decide +kernel
theorem dX10_forget_7 : decode cX10_forget 7 = .ok (.iconst 0, 1) := by decide +kernel
theorem dX10_forget_8 : decode cX10_forget 8 = .ok (.putfield 132, 3) := by decide +kernel
theorem dX10_forget_11 : decode cX10_forget 11 = .ok (.return_, 1) := by decide +kernel
theorem dX10_limped_0 : decode cX10_limped 0 = .ok (.iload_n 1, 1) := by decide +kernel
theorem dX10_limped_1 : decode cX10_limped 1 = .ok (.iconst 2, 1) := by decide +kernel
theorem dX10_limped_2 : decode cX10_limped 2 = .ok (.invokestatic 234, 3) := by decide +kernel
theorem dX10_limped_5 : decode cX10_limped 5 = .ok (.iload_n 1, 1) := by decide +kernel
theorem dX10_limped_6 : decode cX10_limped 6 = .ok (.iconst 2, 1) := by decide +kernel
theorem dX10_limped_7 : decode cX10_limped 7 = .ok (.if_icmp .ne 26, 3) := by decide +kernel
theorem dX10_limped_10 : decode cX10_limped 10 = .ok (.aload_n 0, 1) := by decide +kernel
theorem dX10_limped_11 : decode cX10_limped 11 = .ok (.getfield 40, 3) := by decide +kernel
theorem dX10_limped_14 : decode cX10_limped 14 = .ok (.getfield 128, 3) := by decide +kernel
theorem dX10_limped_17 : decode cX10_limped 17 = .ok (.aload_n 0, 1) := by decide +kernel
theorem dX10_limped_18 : decode cX10_limped 18 = .ok (.getfield 55, 3) := by decide +kernel
theorem dX10_limped_21 : decode cX10_limped 21 = .ok (.invokevirtual 291, 3) := by decide +kernel
theorem dX10_limped_24 : decode cX10_limped 24 = .ok (.ifCond .eq 7, 3) := by decide +kernel
theorem dX10_limped_27 : decode cX10_limped 27 = .ok (.iconst 1, 1) := by decide +kernel
theorem dX10_limped_28 : decode cX10_limped 28 = .ok (.goto 4, 3) := by decide +kernel
theorem dX10_limped_31 : decode cX10_limped 31 = .ok (.iconst 0, 1) := by decide +kernel
theorem dX10_limped_32 : decode cX10_limped 32 = .ok (.ireturn, 1) := by decide +kernel
theorem dX10_limped_33 : decode cX10_limped 33 = .ok (.aload_n 0, 1) := by decide +kernel
theorem dX10_limped_34 : decode cX10_limped 34 = .ok (.getfield 59, 3) := by decide +kernel
theorem dX10_limped_37 : decode cX10_limped 37 = .ok (.aload_n 0, 1) := by decide +kernel
theorem dX10_limped_38 : decode cX10_limped 38 = .ok (.getfield 55, 3) := by decide +kernel
theorem dX10_limped_41 : decode cX10_limped 41 = .ok (.invokevirtual 116, 3) := by decide +kernel
theorem dX10_limped_44 : decode cX10_limped 44 = .ok (.aload_n 0, 1) := by decide +kernel
theorem dX10_limped_45 : decode cX10_limped 45 = .ok (.getfield 74, 3) := by decide +kernel
theorem dX10_limped_48 : decode cX10_limped 48 = .ok (.aload_n 0, 1) := by decide +kernel
theorem dX10_limped_49 : decode cX10_limped 49 = .ok (.getfield 59, 3) := by decide +kernel
theorem dX10_limped_52 : decode cX10_limped 52 = .ok (.aload_n 0, 1) := by decide +kernel
theorem dX10_limped_53 : decode cX10_limped 53 = .ok (.getfield 40, 3) := by decide +kernel
theorem dX10_limped_56 : decode cX10_limped 56 = .ok (.getfield 128, 3) := by decide +kernel
theorem dX10_limped_59 : decode cX10_limped 59 = .ok (.invokevirtual 295, 3) := by decide +kernel
theorem dX10_limped_62 : decode cX10_limped 62 = .ok (.iload_n 1, 1) := by decide +kernel
theorem dX10_limped_63 : decode cX10_limped 63 = .ok (.ifCond .ne 11, 3) := by decide +kernel
theorem dX10_limped_66 : decode cX10_limped 66 = .ok (.aload_n 0, 1) := by decide +kernel
theorem dX10_limped_67 : decode cX10_limped 67 = .ok (.getfield 74, 3) := by decide +kernel
theorem dX10_limped_70 : decode cX10_limped 70 = .ok (.getfield 299, 3) := by decide +kernel
theorem dX10_limped_73 : decode cX10_limped 73 = .ok (.ireturn, 1) := by decide +kernel
theorem dX10_limped_74 : decode cX10_limped 74 = .ok (.aload_n 0, 1) := by decide +kernel
theorem dX10_limped_75 : decode cX10_limped 75 = .ok (.getfield 74, 3) := by decide +kernel
theorem dX10_limped_78 : decode cX10_limped 78 = .ok (.getfield 299, 3) := by decide +kernel
theorem dX10_limped_81 : decode cX10_limped 81 = .ok (.ifCond .ne 7, 3) := by decide +kernel
theorem dX10_limped_84 : decode cX10_limped 84 = .ok (.iconst (-1), 1) := by decide +kernel
theorem dX10_limped_85 : decode cX10_limped 85 = .ok (.goto 29, 3) := by decide +kernel
theorem dX10_limped_88 : decode cX10_limped 88 = .ok (.bipush 100, 2) := by decide +kernel
theorem dX10_limped_90 : decode cX10_limped 90 = .ok (.aload_n 0, 1) := by decide +kernel
theorem dX10_limped_91 : decode cX10_limped 91 = .ok (.getfield 74, 3) := by decide +kernel
theorem dX10_limped_94 : decode cX10_limped 94 = .ok (.getfield 300, 3) := by decide +kernel
theorem dX10_limped_97 : decode cX10_limped 97 = .ok (.iconst 0, 1) := by decide +kernel
theorem dX10_limped_98 : decode cX10_limped 98 = .ok (.invokevirtual 163, 3) := by decide +kernel
theorem dX10_limped_101 : decode cX10_limped 101 = .ok (.imul, 1) := by decide +kernel
theorem dX10_limped_102 : decode cX10_limped 102 = .ok (.aload_n 0, 1) := by decide +kernel
theorem dX10_limped_103 : decode cX10_limped 103 = .ok (.getfield 74, 3) := by decide +kernel
theorem dX10_limped_106 : decode cX10_limped 106 = .ok (.getfield 302, 3) := by decide +kernel
theorem dX10_limped_109 : decode cX10_limped 109 = .ok (.iconst 0, 1) := by decide +kernel
theorem dX10_limped_110 : decode cX10_limped 110 = .ok (.invokevirtual 163, 3) := by decide +kernel
theorem dX10_limped_113 : decode cX10_limped 113 = .ok (.iadd, 1) := by decide +kernel
theorem dX10_limped_114 : decode cX10_limped 114 = .ok (.ireturn, 1) := by decide +kernel
theorem dX10_next_0 : decode cX10_next 0 = .ok (.iload_n 1, 1) := by decide +kernel
theorem dX10_next_1 : decode cX10_next 1 = .ok (.iconst 1, 1) := by decide +kernel
theorem dX10_next_2 : decode cX10_next 2 = .ok (.invokestatic 234, 3) := by decide +kernel
theorem dX10_next_5 : decode cX10_next 5 = .ok (.aload_n 0, 1) := by decide +kernel
theorem dX10_next_6 : decode cX10_next 6 = .ok (.getfield 59, 3) := by decide +kernel
theorem dX10_next_9 : decode cX10_next 9 = .ok (.aload_n 0, 1) := by decide +kernel
theorem dX10_next_10 : decode cX10_next 10 = .ok (.getfield 55, 3) := by decide +kernel
theorem dX10_next_13 : decode cX10_next 13 = .ok (.invokevirtual 116, 3) := by decide +kernel
theorem dX10_next_16 : decode cX10_next 16 = .ok (.aload_n 0, 1) := by decide +kernel
theorem dX10_next_17 : decode cX10_next 17 = .ok (.getfield 74, 3) := by decide +kernel
theorem dX10_next_20 : decode cX10_next 20 = .ok (.aload_n 0, 1) := by decide +kernel
theorem dX10_next_21 : decode cX10_next 21 = .ok (.getfield 59, 3) := by decide +kernel
theorem dX10_next_24 : decode cX10_next 24 = .ok (.aload_n 0, 1) := by decide +kernel
theorem dX10_next_25 : decode cX10_next 25 = .ok (.getfield 40, 3) := by decide +kernel
theorem dX10_next_28 : decode cX10_next 28 = .ok (.getfield 128, 3) := by decide +kernel
theorem dX10_next_31 : decode cX10_next 31 = .ok (.invokevirtual 295, 3) := by decide +kernel
theorem dX10_next_34 : decode cX10_next 34 = .ok (.iconst (-1), 1) := by decide +kernel
theorem dX10_next_35 : decode cX10_next 35 = .ok (.istore_n 2, 1) := by decide +kernel
theorem dX10_next_36 : decode cX10_next 36 = .ok (.iconst 0, 1) := by decide +kernel
theorem dX10_next_37 : decode cX10_next 37 = .ok (.istore_n 3, 1) := by decide +kernel
theorem dX10_next_38 : decode cX10_next 38 = .ok (.iconst 0, 1) := by decide +kernel
theorem dX10_next_39 : decode cX10_next 39 = .ok (.istore 4, 2) := by decide +kernel
theorem dX10_next_41 : decode cX10_next 41 = .ok (.iload 4, 2) := by decide +kernel
theorem dX10_next_43 : decode cX10_next 43 = .ok (.aload_n 0, 1) := by decide +kernel
theorem dX10_next_44 : decode cX10_next 44 = .ok (.getfield 31, 3) := by decide +kernel
theorem dX10_next_47 : decode cX10_next 47 = .ok (.getfield 141, 3) := by decide +kernel
theorem dX10_next_50 : decode cX10_next 50 = .ok (.if_icmp .ge 36, 3) := by decide +kernel
theorem dX10_next_53 : decode cX10_next 53 = .ok (.aload_n 0, 1) := by decide +kernel
theorem dX10_next_54 : decode cX10_next 54 = .ok (.getfield 74, 3) := by decide +kernel
theorem dX10_next_57 : decode cX10_next 57 = .ok (.aload_n 0, 1) := by decide +kernel
theorem dX10_next_58 : decode cX10_next 58 = .ok (.getfield 59, 3) := by decide +kernel
theorem dX10_next_61 : decode cX10_next 61 = .ok (.iload 4, 2) := by decide +kernel
theorem dX10_next_63 : decode cX10_next 63 = .ok (.invokevirtual 304, 3) := by decide +kernel
theorem dX10_next_66 : decode cX10_next 66 = .ok (.istore 5, 2) := by decide +kernel
theorem dX10_next_68 : decode cX10_next 68 = .ok (.iload 5, 2) := by decide +kernel
theorem dX10_next_70 : decode cX10_next 70 = .ok (.iload_n 3, 1) := by decide +kernel
theorem dX10_next_71 : decode cX10_next 71 = .ok (.if_icmp .le 9, 3) := by decide +kernel
theorem dX10_next_74 : decode cX10_next 74 = .ok (.iload 5, 2) := by decide +kernel
theorem dX10_next_76 : decode cX10_next 76 = .ok (.istore_n 3, 1) := by decide +kernel
theorem dX10_next_77 : decode cX10_next 77 = .ok (.iload 4, 2) := by decide +kernel
theorem dX10_next_79 : decode cX10_next 79 = .ok (.istore_n 2, 1) := by decide +kernel
theorem dX10_next_80 : decode cX10_next 80 = .ok (.iinc 4 1, 3) := by decide +kernel
theorem dX10_next_83 : decode cX10_next 83 = .ok (.goto (-42), 3) := by decide +kernel
theorem dX10_next_86 : decode cX10_next 86 = .ok (.iload_n 1, 1) := by decide +kernel
theorem dX10_next_87 : decode cX10_next 87 = .ok (.ifCond .ne 7, 3) := by decide +kernel
theorem dX10_next_90 : decode cX10_next 90 = .ok (.iload_n 2, 1) := by decide +kernel
theorem dX10_next_91 : decode cX10_next 91 = .ok (.goto 4, 3) := by decide +kernel
theorem dX10_next_94 : decode cX10_next 94 = .ok (.iload_n 3, 1) := by decide +kernel
theorem dX10_next_95 : decode cX10_next 95 = .ok (.ireturn, 1) := by decide +kernel
theorem dX10_byMud_0 : decode cX10_byMud 0 = .ok (.aload_n 0, 1) := by decide +kernel
theorem dX10_byMud_1 : decode cX10_byMud 1 = .ok (.iload_n 1, 1) := by decide +kernel
theorem dX10_byMud_2 : decode cX10_byMud 2 = .ok (.invokevirtual 171, 3) := by decide +kernel
theorem dX10_byMud_5 : decode cX10_byMud 5 = .ok (.iload_n 2, 1) := by decide +kernel
theorem dX10_byMud_6 : decode cX10_byMud 6 = .ok (.iconst 1, 1) := by decide +kernel
theorem dX10_byMud_7 : decode cX10_byMud 7 = .ok (.iconst 5, 1) := by decide +kernel
theorem dX10_byMud_8 : decode cX10_byMud 8 = .ok (.invokestatic 237, 3) := by decide +kernel
theorem dX10_byMud_11 : decode cX10_byMud 11 = .ok (.iload_n 3, 1) := by decide +kernel
theorem dX10_byMud_12 : decode cX10_byMud 12 = .ok (.iconst 0, 1) := by decide +kernel
theorem dX10_byMud_13 : decode cX10_byMud 13 = .ok (.bipush 10, 2) := by decide +kernel
theorem dX10_byMud_15 : decode cX10_byMud 15 = .ok (.invokestatic 237, 3) := by decide +kernel
theorem dX10_byMud_18 : decode cX10_byMud 18 = .ok (.iconst 0, 1) := by decide +kernel
theorem dX10_byMud_19 : decode cX10_byMud 19 = .ok (.istore 4, 2) := by decide +kernel
theorem dX10_byMud_21 : decode cX10_byMud 21 = .ok (.iconst 1, 1) := by decide +kernel
theorem dX10_byMud_22 : decode cX10_byMud 22 = .ok (.istore 5, 2) := by decide +kernel
theorem dX10_byMud_24 : decode cX10_byMud 24 = .ok (.iconst 0, 1) := by decide +kernel
theorem dX10_byMud_25 : decode cX10_byMud 25 = .ok (.istore 6, 2) := by decide +kernel
theorem dX10_byMud_27 : decode cX10_byMud 27 = .ok (.iload 6, 2) := by decide +kernel
theorem dX10_byMud_29 : decode cX10_byMud 29 = .ok (.iload_n 2, 1) := by decide +kernel
theorem dX10_byMud_30 : decode cX10_byMud 30 = .ok (.if_icmp .ge 65, 3) := by decide +kernel
theorem dX10_byMud_33 : decode cX10_byMud 33 = .ok (.iload 4, 2) := by decide +kernel
theorem dX10_byMud_35 : decode cX10_byMud 35 = .ok (.iload_n 3, 1) := by decide +kernel
theorem dX10_byMud_36 : decode cX10_byMud 36 = .ok (.aload_n 0, 1) := by decide +kernel
theorem dX10_byMud_37 : decode cX10_byMud 37 = .ok (.getfield 55, 3) := by decide +kernel
theorem dX10_byMud_40 : decode cX10_byMud 40 = .ok (.iload_n 1, 1) := by decide +kernel
theorem dX10_byMud_41 : decode cX10_byMud 41 = .ok (.iload 6, 2) := by decide +kernel
theorem dX10_byMud_43 : decode cX10_byMud 43 = .ok (.bipush 9, 2) := by decide +kernel
theorem dX10_byMud_45 : decode cX10_byMud 45 = .ok (.invokevirtual 244, 3) := by decide +kernel
theorem dX10_byMud_48 : decode cX10_byMud 48 = .ok (.imul, 1) := by decide +kernel
theorem dX10_byMud_49 : decode cX10_byMud 49 = .ok (.iadd, 1) := by decide +kernel
theorem dX10_byMud_50 : decode cX10_byMud 50 = .ok (.istore 4, 2) := by decide +kernel
theorem dX10_byMud_52 : decode cX10_byMud 52 = .ok (.iload 4, 2) := by decide +kernel
theorem dX10_byMud_54 : decode cX10_byMud 54 = .ok (.bipush 10, 2) := by decide +kernel
theorem dX10_byMud_56 : decode cX10_byMud 56 = .ok (.iload_n 3, 1) := by decide +kernel
theorem dX10_byMud_57 : decode cX10_byMud 57 = .ok (.isub, 1) := by decide +kernel
theorem dX10_byMud_58 : decode cX10_byMud 58 = .ok (.aload_n 0, 1) := by decide +kernel
theorem dX10_byMud_59 : decode cX10_byMud 59 = .ok (.getfield 55, 3) := by decide +kernel
theorem dX10_byMud_62 : decode cX10_byMud 62 = .ok (.iload_n 1, 1) := by decide +kernel
theorem dX10_byMud_63 : decode cX10_byMud 63 = .ok (.iload 6, 2) := by decide +kernel
theorem dX10_byMud_65 : decode cX10_byMud 65 = .ok (.iconst 0, 1) := by decide +kernel
theorem dX10_byMud_66 : decode cX10_byMud 66 = .ok (.invokevirtual 244, 3) := by decide +kernel
theorem dX10_byMud_69 : decode cX10_byMud 69 = .ok (.imul, 1) := by decide +kernel
theorem dX10_byMud_70 : decode cX10_byMud 70 = .ok (.iadd, 1) := by decide +kernel
theorem dX10_byMud_71 : decode cX10_byMud 71 = .ok (.istore 4, 2) := by decide +kernel
theorem dX10_byMud_73 : decode cX10_byMud 73 = .ok (.iload 5, 2) := by decide +kernel
theorem dX10_byMud_75 : decode cX10_byMud 75 = .ok (.iload 6, 2) := by decide +kernel
theorem dX10_byMud_77 : decode cX10_byMud 77 = .ok (.ifCond .ne 7, 3) := by decide +kernel
theorem dX10_byMud_80 : decode cX10_byMud 80 = .ok (.iconst 1, 1) := by decide +kernel
theorem dX10_byMud_81 : decode cX10_byMud 81 = .ok (.goto 5, 3) := by decide +kernel
theorem dX10_byMud_84 : decode cX10_byMud 84 = .ok (.bipush 10, 2) := by decide +kernel
theorem dX10_byMud_86 : decode cX10_byMud 86 = .ok (.imul, 1) := by decide +kernel
theorem dX10_byMud_87 : decode cX10_byMud 87 = .ok (.istore 5, 2) := by decide +kernel
theorem dX10_byMud_89 : decode cX10_byMud 89 = .ok (.iinc 6 1, 3) := by decide +kernel
theorem dX10_byMud_92 : decode cX10_byMud 92 = .ok (.goto (-65), 3) := by decide +kernel
theorem dX10_byMud_95 : decode cX10_byMud 95 = .ok (.iload 4, 2) := by decide +kernel
theorem dX10_byMud_97 : decode cX10_byMud 97 = .ok (.iload 5, 2) := by decide +kernel
theorem dX10_byMud_99 : decode cX10_byMud 99 = .ok (.imul, 1) := by decide +kernel
theorem dX10_byMud_100 : decode cX10_byMud 100 = .ok (.ireturn, 1) := by decide +kernel
theorem dX10_game_0 : decode cX10_game 0 = .ok (.aload_n 0, 1) := by decide +kernel
theorem dX10_game_1 : decode cX10_game 1 = .ok (.iload_n 1, 1) := by decide +kernel
theorem dX10_game_2 : decode cX10_game 2 = .ok (.invokevirtual 171, 3) := by decide +kernel
theorem dX10_game_5 : decode cX10_game 5 = .ok (.aload_n 0, 1) := by decide +kernel
theorem dX10_game_6 : decode cX10_game 6 = .ok (.iload_n 2, 1) := by decide +kernel
theorem dX10_game_7 : decode cX10_game 7 = .ok (.invokevirtual 171, 3) := by decide +kernel
theorem dX10_game_10 : decode cX10_game 10 = .ok (.iload_n 3, 1) := by decide +kernel
theorem dX10_game_11 : decode cX10_game 11 = .ok (.iconst 1, 1) := by decide +kernel
theorem dX10_game_12 : decode cX10_game 12 = .ok (.invokestatic 234, 3) := by decide +kernel
theorem dX10_game_15 : decode cX10_game 15 = .ok (.iload_n 1, 1) := by decide +kernel
theorem dX10_game_16 : decode cX10_game 16 = .ok (.iload_n 2, 1) := by decide +kernel
theorem dX10_game_17 : decode cX10_game 17 = .ok (.if_icmp .eq 27, 3) := by decide +kernel
theorem dX10_game_20 : decode cX10_game 20 = .ok (.aload_n 0, 1) := by decide +kernel
theorem dX10_game_21 : decode cX10_game 21 = .ok (.getfield 55, 3) := by decide +kernel
theorem dX10_game_24 : decode cX10_game 24 = .ok (.iload_n 1, 1) := by decide +kernel
theorem dX10_game_25 : decode cX10_game 25 = .ok (.invokevirtual 183, 3) := by decide +kernel
theorem dX10_game_28 : decode cX10_game 28 = .ok (.iconst (-1), 1) := by decide +kernel
theorem dX10_game_29 : decode cX10_game 29 = .ok (.if_icmp .eq 15, 3) := by decide +kernel
theorem dX10_game_32 : decode cX10_game 32 = .ok (.aload_n 0, 1) := by decide +kernel
theorem dX10_game_33 : decode cX10_game 33 = .ok (.getfield 55, 3) := by decide +kernel
theorem dX10_game_36 : decode cX10_game 36 = .ok (.iload_n 2, 1) := by decide +kernel
theorem dX10_game_37 : decode cX10_game 37 = .ok (.invokevirtual 183, 3) := by decide +kernel
theorem dX10_game_40 : decode cX10_game 40 = .ok (.iconst (-1), 1) := by decide +kernel
theorem dX10_game_41 : decode cX10_game 41 = .ok (.if_icmp .ne 14, 3) := by decide +kernel
theorem dX10_game_44 : decode cX10_game 44 = .ok (.new 94, 3) := by decide +kernel
theorem dX10_game_47 : decode cX10_game 47 = .ok (.dup, 1) := by decide +kernel
theorem dX10_game_48 : decode cX10_game 48 = .ok (.ldc_w 308, 3) := by decide +kernel
theorem dX10_game_51 : decode cX10_game 51 = .ok (.invokespecial 98, 3) := by decide +kernel
theorem dX10_game_54 : decode cX10_game 54 = .ok (.athrow, 1) := by decide +kernel
theorem dX10_game_55 : decode cX10_game 55 = .ok (.iconst 0, 1) := by decide +kernel
theorem dX10_game_56 : decode cX10_game 56 = .ok (.istore 4, 2) := by decide +kernel
theorem dX10_game_58 : decode cX10_game 58 = .ok (.iload 4, 2) := by decide +kernel
theorem dX10_game_60 : decode cX10_game 60 = .ok (.iconst 4, 1) := by decide +kernel
theorem dX10_game_61 : decode cX10_game 61 = .ok (.if_icmp .ge 17, 3) := by decide +kernel
theorem dX10_game_64 : decode cX10_game 64 = .ok (.aload_n 0, 1) := by decide +kernel
theorem dX10_game_65 : decode cX10_game 65 = .ok (.iload_n 1, 1) := by decide +kernel
theorem dX10_game_66 : decode cX10_game 66 = .ok (.iload_n 2, 1) := by decide +kernel
theorem dX10_game_67 : decode cX10_game 67 = .ok (.iload 4, 2) := by decide +kernel
theorem dX10_game_69 : decode cX10_game 69 = .ok (.invokevirtual 310, 3) := by decide +kernel
theorem dX10_game_72 : decode cX10_game 72 = .ok (.iinc 4 1, 3) := by decide +kernel
theorem dX10_game_75 : decode cX10_game 75 = .ok (.goto (-17), 3) := by decide +kernel
theorem dX10_game_78 : decode cX10_game 78 = .ok (.iconst 0, 1) := by decide +kernel
theorem dX10_game_79 : decode cX10_game 79 = .ok (.istore 4, 2) := by decide +kernel
theorem dX10_game_81 : decode cX10_game 81 = .ok (.iconst (-1), 1) := by decide +kernel
theorem dX10_game_82 : decode cX10_game 82 = .ok (.istore 5, 2) := by decide +kernel
theorem dX10_game_84 : decode cX10_game 84 = .ok (.iconst 3, 1) := by decide +kernel
theorem dX10_game_85 : decode cX10_game 85 = .ok (.istore 6, 2) := by decide +kernel
theorem dX10_game_87 : decode cX10_game 87 = .ok (.iload 6, 2) := by decide +kernel
theorem dX10_game_89 : decode cX10_game 89 = .ok (.ifCond .lt 35, 3) := by decide +kernel
theorem dX10_game_92 : decode cX10_game 92 = .ok (.aload_n 0, 1) := by decide +kernel
theorem dX10_game_93 : decode cX10_game 93 = .ok (.iload 6, 2) := by decide +kernel
theorem dX10_game_95 : decode cX10_game 95 = .ok (.invokevirtual 313, 3) := by decide +kernel
theorem dX10_game_98 : decode cX10_game 98 = .ok (.ifCond .eq 20, 3) := by decide +kernel
theorem dX10_game_101 : decode cX10_game 101 = .ok (.iinc 4 1, 3) := by decide +kernel
theorem dX10_game_104 : decode cX10_game 104 = .ok (.bipush 10, 2) := by decide +kernel
theorem dX10_game_106 : decode cX10_game 106 = .ok (.iload 6, 2) := by decide +kernel
theorem dX10_game_108 : decode cX10_game 108 = .ok (.iconst 1, 1) := by decide +kernel
theorem dX10_game_109 : decode cX10_game 109 = .ok (.ishr, 1) := by decide +kernel
theorem dX10_game_110 : decode cX10_game 110 = .ok (.imul, 1) := by decide +kernel
theorem dX10_game_111 : decode cX10_game 111 = .ok (.iload 6, 2) := by decide +kernel
theorem dX10_game_113 : decode cX10_game 113 = .ok (.iconst 1, 1) := by decide +kernel
theorem dX10_game_114 : decode cX10_game 114 = .ok (.iand, 1) := by decide +kernel
theorem dX10_game_115 : decode cX10_game 115 = .ok (.iadd, 1) := by decide +kernel
theorem dX10_game_116 : decode cX10_game 116 = .ok (.istore 5, 2) := by decide +kernel
theorem dX10_game_118 : decode cX10_game 118 = .ok (.iinc 6 (-1), 3) := by decide +kernel
theorem dX10_game_121 : decode cX10_game 121 = .ok (.goto (-34), 3) := by decide +kernel
theorem dX10_game_124 : decode cX10_game 124 = .ok (.iload_n 3, 1) := by decide +kernel
theorem dX10_game_125 : decode cX10_game 125 = .ok (.ifCond .ne 8, 3) := by decide +kernel
theorem dX10_game_128 : decode cX10_game 128 = .ok (.iload 4, 2) := by decide +kernel
theorem dX10_game_130 : decode cX10_game 130 = .ok (.goto 5, 3) := by decide +kernel
theorem dX10_game_133 : decode cX10_game 133 = .ok (.iload 5, 2) := by decide +kernel
theorem dX10_game_135 : decode cX10_game 135 = .ok (.ireturn, 1) := by decide +kernel
theorem dX10_reviews_0 : decode cX10_reviews 0 = .ok (.iload_n 3, 1) := by decide +kernel
theorem dX10_reviews_1 : decode cX10_reviews 1 = .ok (.iconst 2, 1) := by decide +kernel
theorem dX10_reviews_2 : decode cX10_reviews 2 = .ok (.invokestatic 234, 3) := by decide +kernel
theorem dX10_reviews_5 : decode cX10_reviews 5 = .ok (.iload_n 2, 1) := by decide +kernel
theorem dX10_reviews_6 : decode cX10_reviews 6 = .ok (.iconst 0, 1) := by decide +kernel
theorem dX10_reviews_7 : decode cX10_reviews 7 = .ok (.bipush 40, 2) := by decide +kernel
theorem dX10_reviews_9 : decode cX10_reviews 9 = .ok (.invokestatic 237, 3) := by decide +kernel
theorem dX10_reviews_12 : decode cX10_reviews 12 = .ok (.aload_n 0, 1) := by decide +kernel
theorem dX10_reviews_13 : decode cX10_reviews 13 = .ok (.getfield 59, 3) := by decide +kernel
theorem dX10_reviews_16 : decode cX10_reviews 16 = .ok (.aload_n 0, 1) := by decide +kernel
theorem dX10_reviews_17 : decode cX10_reviews 17 = .ok (.getfield 55, 3) := by decide +kernel
theorem dX10_reviews_20 : decode cX10_reviews 20 = .ok (.invokevirtual 116, 3) := by decide +kernel
theorem dX10_reviews_23 : decode cX10_reviews 23 = .ok (.iload_n 1, 1) := by decide +kernel
theorem dX10_reviews_24 : decode cX10_reviews 24 = .ok (.istore 4, 2) := by decide +kernel
theorem dX10_reviews_26 : decode cX10_reviews 26 = .ok (.iconst 0, 1) := by decide +kernel
theorem dX10_reviews_27 : decode cX10_reviews 27 = .ok (.istore 5, 2) := by decide +kernel
theorem dX10_reviews_29 : decode cX10_reviews 29 = .ok (.iconst 0, 1) := by decide +kernel
theorem dX10_reviews_30 : decode cX10_reviews 30 = .ok (.istore 6, 2) := by decide +kernel
theorem dX10_reviews_32 : decode cX10_reviews 32 = .ok (.iload 6, 2) := by decide +kernel
theorem dX10_reviews_34 : decode cX10_reviews 34 = .ok (.iload_n 2, 1) := by decide +kernel
theorem dX10_reviews_35 : decode cX10_reviews 35 = .ok (.if_icmp .ge 41, 3) := by decide +kernel
theorem dX10_reviews_38 : decode cX10_reviews 38 = .ok (.aload_n 0, 1) := by decide +kernel
theorem dX10_reviews_39 : decode cX10_reviews 39 = .ok (.iload 4, 2) := by decide +kernel
theorem dX10_reviews_41 : decode cX10_reviews 41 = .ok (.invokevirtual 317, 3) := by decide +kernel
theorem dX10_reviews_44 : decode cX10_reviews 44 = .ok (.invokestatic 320, 3) := by decide +kernel
theorem dX10_reviews_47 : decode cX10_reviews 47 = .ok (.istore 4, 2) := by decide +kernel
theorem dX10_reviews_49 : decode cX10_reviews 49 = .ok (.iload 5, 2) := by decide +kernel
theorem dX10_reviews_51 : decode cX10_reviews 51 = .ok (.aload_n 0, 1) := by decide +kernel
theorem dX10_reviews_52 : decode cX10_reviews 52 = .ok (.getfield 59, 3) := by decide +kernel
theorem dX10_reviews_55 : decode cX10_reviews 55 = .ok (.iload 6, 2) := by decide +kernel
theorem dX10_reviews_57 : decode cX10_reviews 57 = .ok (.iload 4, 2) := by decide +kernel
theorem dX10_reviews_59 : decode cX10_reviews 59 = .ok (.bipush 10, 2) := by decide +kernel
theorem dX10_reviews_61 : decode cX10_reviews 61 = .ok (.invokestatic 323, 3) := by decide +kernel
theorem dX10_reviews_64 : decode cX10_reviews 64 = .ok (.invokevirtual 326, 3) := by decide +kernel
theorem dX10_reviews_67 : decode cX10_reviews 67 = .ok (.iadd, 1) := by decide +kernel
theorem dX10_reviews_68 : decode cX10_reviews 68 = .ok (.istore 5, 2) := by decide +kernel
theorem dX10_reviews_70 : decode cX10_reviews 70 = .ok (.iinc 6 1, 3) := by decide +kernel
theorem dX10_reviews_73 : decode cX10_reviews 73 = .ok (.goto (-41), 3) := by decide +kernel
theorem dX10_reviews_76 : decode cX10_reviews 76 = .ok (.iload_n 3, 1) := by decide +kernel
theorem dX10_reviews_77 : decode cX10_reviews 77 = .ok (.ifCond .ne 11, 3) := by decide +kernel
theorem dX10_reviews_80 : decode cX10_reviews 80 = .ok (.aload_n 0, 1) := by decide +kernel
theorem dX10_reviews_81 : decode cX10_reviews 81 = .ok (.getfield 59, 3) := by decide +kernel
theorem dX10_reviews_84 : decode cX10_reviews 84 = .ok (.invokevirtual 153, 3) := by decide +kernel
theorem dX10_reviews_87 : decode cX10_reviews 87 = .ok (.ireturn, 1) := by decide +kernel
theorem dX10_reviews_88 : decode cX10_reviews 88 = .ok (.iload_n 3, 1) := by decide +kernel
theorem dX10_reviews_89 : decode cX10_reviews 89 = .ok (.iconst 1, 1) := by decide +kernel
theorem dX10_reviews_90 : decode cX10_reviews 90 = .ok (.if_icmp .ne 8, 3) := by decide +kernel
theorem dX10_reviews_93 : decode cX10_reviews 93 = .ok (.iload 5, 2) := by decide +kernel
theorem dX10_reviews_95 : decode cX10_reviews 95 = .ok (.goto 10, 3) := by decide +kernel
theorem dX10_reviews_98 : decode cX10_reviews 98 = .ok (.aload_n 0, 1) := by decide +kernel
theorem dX10_reviews_99 : decode cX10_reviews 99 = .ok (.getfield 59, 3) := by decide +kernel
theorem dX10_reviews_102 : decode cX10_reviews 102 = .ok (.invokevirtual 329, 3) := by decide +kernel
theorem dX10_reviews_105 : decode cX10_reviews 105 = .ok (.ireturn, 1) := by decide +kernel
theorem dX10_nextTo_0 : decode cX10_nextTo 0 = .ok (.iload_n 1, 1) := by decide +kernel
theorem dX10_nextTo_1 : decode cX10_nextTo 1 = .ok (.iconst 0, 1) := by decide +kernel
theorem dX10_nextTo_2 : decode cX10_nextTo 2 = .ok (.aload_n 0, 1) := by decide +kernel
theorem dX10_nextTo_3 : decode cX10_nextTo 3 = .ok (.getfield 31, 3) := by decide +kernel
theorem dX10_nextTo_6 : decode cX10_nextTo 6 = .ok (.invokevirtual 273, 3) := by decide +kernel
theorem dX10_nextTo_9 : decode cX10_nextTo 9 = .ok (.invokestatic 237, 3) := by decide +kernel
theorem dX10_nextTo_12 : decode cX10_nextTo 12 = .ok (.aload_n 0, 1) := by decide +kernel
theorem dX10_nextTo_13 : decode cX10_nextTo 13 = .ok (.getfield 55, 3) := by decide +kernel
theorem dX10_nextTo_16 : decode cX10_nextTo 16 = .ok (.iload_n 1, 1) := by decide +kernel
theorem dX10_nextTo_17 : decode cX10_nextTo 17 = .ok (.invokevirtual 332, 3) := by decide +kernel
theorem dX10_nextTo_20 : decode cX10_nextTo 20 = .ok (.ireturn, 1) := by decide +kernel
theorem dX10_alike_0 : decode cX10_alike 0 = .ok (.iload_n 1, 1) := by decide +kernel
theorem dX10_alike_1 : decode cX10_alike 1 = .ok (.iconst 0, 1) := by decide +kernel
theorem dX10_alike_2 : decode cX10_alike 2 = .ok (.aload_n 0, 1) := by decide +kernel
theorem dX10_alike_3 : decode cX10_alike 3 = .ok (.getfield 31, 3) := by decide +kernel
theorem dX10_alike_6 : decode cX10_alike 6 = .ok (.invokevirtual 273, 3) := by decide +kernel
theorem dX10_alike_9 : decode cX10_alike 9 = .ok (.invokestatic 237, 3) := by decide +kernel
theorem dX10_alike_12 : decode cX10_alike 12 = .ok (.aload_n 0, 1) := by decide +kernel
theorem dX10_alike_13 : decode cX10_alike 13 = .ok (.getfield 55, 3) := by decide +kernel
theorem dX10_alike_16 : decode cX10_alike 16 = .ok (.iload_n 1, 1) := by decide +kernel
theorem dX10_alike_17 : decode cX10_alike 17 = .ok (.invokevirtual 270, 3) := by decide +kernel
theorem dX10_alike_20 : decode cX10_alike 20 = .ok (.istore_n 2, 1) := by decide +kernel
theorem dX10_alike_21 : decode cX10_alike 21 = .ok (.iconst 0, 1) := by decide +kernel
theorem dX10_alike_22 : decode cX10_alike 22 = .ok (.istore_n 3, 1) := by decide +kernel
theorem dX10_alike_23 : decode cX10_alike 23 = .ok (.iconst 0, 1) := by decide +kernel
theorem dX10_alike_24 : decode cX10_alike 24 = .ok (.istore 4, 2) := by decide +kernel
theorem dX10_alike_26 : decode cX10_alike 26 = .ok (.iload 4, 2) := by decide +kernel
theorem dX10_alike_28 : decode cX10_alike 28 = .ok (.aload_n 0, 1) := by decide +kernel
theorem dX10_alike_29 : decode cX10_alike 29 = .ok (.getfield 31, 3) := by decide +kernel
theorem dX10_alike_32 : decode cX10_alike 32 = .ok (.getfield 138, 3) := by decide +kernel
theorem dX10_alike_35 : decode cX10_alike 35 = .ok (.if_icmp .ge 30, 3) := by decide +kernel
theorem dX10_alike_38 : decode cX10_alike 38 = .ok (.aload_n 0, 1) := by decide +kernel
theorem dX10_alike_39 : decode cX10_alike 39 = .ok (.getfield 55, 3) := by decide +kernel
theorem dX10_alike_42 : decode cX10_alike 42 = .ok (.iload 4, 2) := by decide +kernel
theorem dX10_alike_44 : decode cX10_alike 44 = .ok (.iload_n 1, 1) := by decide +kernel
theorem dX10_alike_45 : decode cX10_alike 45 = .ok (.invokevirtual 259, 3) := by decide +kernel
theorem dX10_alike_48 : decode cX10_alike 48 = .ok (.iload_n 2, 1) := by decide +kernel
theorem dX10_alike_49 : decode cX10_alike 49 = .ok (.if_icmp .ne 10, 3) := by decide +kernel
theorem dX10_alike_52 : decode cX10_alike 52 = .ok (.iload_n 3, 1) := by decide +kernel
theorem dX10_alike_53 : decode cX10_alike 53 = .ok (.iconst 1, 1) := by decide +kernel
theorem dX10_alike_54 : decode cX10_alike 54 = .ok (.iload 4, 2) := by decide +kernel
theorem dX10_alike_56 : decode cX10_alike 56 = .ok (.ishl, 1) := by decide +kernel
theorem dX10_alike_57 : decode cX10_alike 57 = .ok (.ior, 1) := by decide +kernel
theorem dX10_alike_58 : decode cX10_alike 58 = .ok (.istore_n 3, 1) := by decide +kernel
theorem dX10_alike_59 : decode cX10_alike 59 = .ok (.iinc 4 1, 3) := by decide +kernel
theorem dX10_alike_62 : decode cX10_alike 62 = .ok (.goto (-36), 3) := by decide +kernel
theorem dX10_alike_65 : decode cX10_alike 65 = .ok (.iload_n 3, 1) := by decide +kernel
theorem dX10_alike_66 : decode cX10_alike 66 = .ok (.ireturn, 1) := by decide +kernel
theorem dX10_lost_0 : decode cX10_lost 0 = .ok (.aload_n 0, 1) := by decide +kernel
theorem dX10_lost_1 : decode cX10_lost 1 = .ok (.iload_n 1, 1) := by decide +kernel
theorem dX10_lost_2 : decode cX10_lost 2 = .ok (.invokevirtual 171, 3) := by decide +kernel
theorem dX10_lost_5 : decode cX10_lost 5 = .ok (.aload_n 0, 1) := by decide +kernel
theorem dX10_lost_6 : decode cX10_lost 6 = .ok (.getfield 55, 3) := by decide +kernel
theorem dX10_lost_9 : decode cX10_lost 9 = .ok (.iload_n 1, 1) := by decide +kernel
theorem dX10_lost_10 : decode cX10_lost 10 = .ok (.invokevirtual 183, 3) := by decide +kernel
theorem dX10_lost_13 : decode cX10_lost 13 = .ok (.istore_n 2, 1) := by decide +kernel
theorem dX10_lost_14 : decode cX10_lost 14 = .ok (.iload_n 2, 1) := by decide +kernel
theorem dX10_lost_15 : decode cX10_lost 15 = .ok (.iconst (-1), 1) := by decide +kernel
theorem dX10_lost_16 : decode cX10_lost 16 = .ok (.if_icmp .ne 7, 3) := by decide +kernel
theorem dX10_lost_19 : decode cX10_lost 19 = .ok (.iconst 0, 1) := by decide +kernel
theorem dX10_lost_20 : decode cX10_lost 20 = .ok (.goto 12, 3) := by decide +kernel
theorem dX10_lost_23 : decode cX10_lost 23 = .ok (.aload_n 0, 1) := by decide +kernel
theorem dX10_lost_24 : decode cX10_lost 24 = .ok (.getfield 55, 3) := by decide +kernel
theorem dX10_lost_27 : decode cX10_lost 27 = .ok (.iload_n 2, 1) := by decide +kernel
theorem dX10_lost_28 : decode cX10_lost 28 = .ok (.iconst 0, 1) := by decide +kernel
theorem dX10_lost_29 : decode cX10_lost 29 = .ok (.invokevirtual 193, 3) := by decide +kernel
theorem dX10_lost_32 : decode cX10_lost 32 = .ok (.istore_n 3, 1) := by decide +kernel
theorem dX10_lost_33 : decode cX10_lost 33 = .ok (.aload_n 0, 1) := by decide +kernel
theorem dX10_lost_34 : decode cX10_lost 34 = .ok (.getfield 55, 3) := by decide +kernel
theorem dX10_lost_37 : decode cX10_lost 37 = .ok (.getfield 174, 3) := by decide +kernel
theorem dX10_lost_40 : decode cX10_lost 40 = .ok (.iload_n 1, 1) := by decide +kernel
theorem dX10_lost_41 : decode cX10_lost 41 = .ok (.invokevirtual 163, 3) := by decide +kernel
theorem dX10_lost_44 : decode cX10_lost 44 = .ok (.iload_n 3, 1) := by decide +kernel
theorem dX10_lost_45 : decode cX10_lost 45 = .ok (.iconst (-1), 1) := by decide +kernel
theorem dX10_lost_46 : decode cX10_lost 46 = .ok (.ixor, 1) := by decide +kernel
theorem dX10_lost_47 : decode cX10_lost 47 = .ok (.iand, 1) := by decide +kernel
theorem dX10_lost_48 : decode cX10_lost 48 = .ok (.ireturn, 1) := by decide +kernel
theorem dX10_mates_0 : decode cX10_mates 0 = .ok (.aload_n 0, 1) := by decide +kernel
theorem dX10_mates_1 : decode cX10_mates 1 = .ok (.iload_n 1, 1) := by decide +kernel
theorem dX10_mates_2 : decode cX10_mates 2 = .ok (.invokevirtual 171, 3) := by decide +kernel
theorem dX10_mates_5 : decode cX10_mates 5 = .ok (.aload_n 0, 1) := by decide +kernel
theorem dX10_mates_6 : decode cX10_mates 6 = .ok (.getfield 55, 3) := by decide +kernel
theorem dX10_mates_9 : decode cX10_mates 9 = .ok (.iload_n 1, 1) := by decide +kernel
theorem dX10_mates_10 : decode cX10_mates 10 = .ok (.invokevirtual 183, 3) := by decide +kernel
theorem dX10_mates_13 : decode cX10_mates 13 = .ok (.istore_n 2, 1) := by decide +kernel
