theorem dX0_init_0 : decode cX0_init 0 = .ok (.aload_n 0, 1) := by decide +kernel
theorem dX0_init_1 : decode cX0_init 1 = .ok (.invokespecial 3, 3) := by decide +kernel
theorem dX0_init_4 : decode cX0_init 4 = .ok (.aload_n 0, 1) := by decide +kernel
theorem dX0_init_5 : decode cX0_init 5 = .ok (.new 9, 3) := by decide +kernel
theorem dX0_init_8 : decode cX0_init 8 = .ok (.dup, 1) := by decide +kernel
theorem dX0_init_9 : decode cX0_init 9 = .ok (.invokespecial 11, 3) := by decide +kernel
theorem dX0_init_12 : decode cX0_init 12 = .ok (.putfield 12, 3) := by decide +kernel
theorem dX0_init_15 : decode cX0_init 15 = .ok (.aload_n 0, 1) := by decide +kernel
theorem dX0_init_16 : decode cX0_init 16 = .ok (.sipush 6561, 3) := by decide +kernel
theorem dX0_init_19 : decode cX0_init 19 = .ok (.newarray .int, 2) := by decide +kernel
theorem dX0_init_21 : decode cX0_init 21 = .ok (.putfield 18, 3) := by decide +kernel
theorem dX0_init_24 : decode cX0_init 24 = .ok (.aload_n 0, 1) := by decide +kernel
theorem dX0_init_25 : decode cX0_init 25 = .ok (.aload_n 1, 1) := by decide +kernel
theorem dX0_init_26 : decode cX0_init 26 = .ok (.putfield 22, 3) := by decide +kernel
theorem dX0_init_29 : decode cX0_init 29 = .ok (.aload_n 0, 1) := by decide +kernel
theorem dX0_init_30 : decode cX0_init 30 = .ok (.aload_n 2, 1) := by decide +kernel
theorem dX0_init_31 : decode cX0_init 31 = .ok (.putfield 26, 3) := by decide +kernel
theorem dX0_init_34 : decode cX0_init 34 = .ok (.aload_n 0, 1) := by decide +kernel
theorem dX0_init_35 : decode cX0_init 35 = .ok (.aload_n 3, 1) := by decide +kernel
theorem dX0_init_36 : decode cX0_init 36 = .ok (.putfield 30, 3) := by decide +kernel
theorem dX0_init_39 : decode cX0_init 39 = .ok (.return_, 1) := by decide +kernel
theorem dX0_spoil_0 : decode cX0_spoil 0 = .ok (.aload_n 0, 1) := by decide +kernel
theorem dX0_spoil_1 : decode cX0_spoil 1 = .ok (.iconst 0, 1) := by decide +kernel
theorem dX0_spoil_2 : decode cX0_spoil 2 = .ok (.putfield 34, 3) := by decide +kernel
theorem dX0_spoil_5 : decode cX0_spoil 5 = .ok (.return_, 1) := by decide +kernel
theorem dX0_learnAnswers_0 : decode cX0_learnAnswers 0 = .ok (.aload_n 0, 1) := by decide +kernel
theorem dX0_learnAnswers_1 : decode cX0_learnAnswers 1 = .ok (.getfield 34, 3) := by decide +kernel
theorem dX0_learnAnswers_4 : decode cX0_learnAnswers 4 = .ok (.iload_n 1, 1) := by decide +kernel
theorem dX0_learnAnswers_5 : decode cX0_learnAnswers 5 = .ok (.if_icmp .ge 43, 3) := by decide +kernel
theorem dX0_learnAnswers_8 : decode cX0_learnAnswers 8 = .ok (.aload_n 0, 1) := by decide +kernel
theorem dX0_learnAnswers_9 : decode cX0_learnAnswers 9 = .ok (.getfield 18, 3) := by decide +kernel
theorem dX0_learnAnswers_12 : decode cX0_learnAnswers 12 = .ok (.aload_n 0, 1) := by decide +kernel
theorem dX0_learnAnswers_13 : decode cX0_learnAnswers 13 = .ok (.getfield 34, 3) := by decide +kernel
theorem dX0_learnAnswers_16 : decode cX0_learnAnswers 16 = .ok (.aload_n 0, 1) := by decide +kernel
theorem dX0_learnAnswers_17 : decode cX0_learnAnswers 17 = .ok (.getfield 30, 3) := by decide +kernel
theorem dX0_learnAnswers_20 : decode cX0_learnAnswers 20 = .ok (.aload_n 0, 1) := by decide +kernel
theorem dX0_learnAnswers_21 : decode cX0_learnAnswers 21 = .ok (.getfield 26, 3) := by decide +kernel
theorem dX0_learnAnswers_24 : decode cX0_learnAnswers 24 = .ok (.aload_n 0, 1) := by decide +kernel
theorem dX0_learnAnswers_25 : decode cX0_learnAnswers 25 = .ok (.getfield 34, 3) := by decide +kernel
theorem dX0_learnAnswers_28 : decode cX0_learnAnswers 28 = .ok (.invokevirtual 38, 3) := by decide +kernel
theorem dX0_learnAnswers_31 : decode cX0_learnAnswers 31 = .ok (.invokevirtual 44, 3) := by decide +kernel
theorem dX0_learnAnswers_34 : decode cX0_learnAnswers 34 = .ok (.iastore, 1) := by decide +kernel
theorem dX0_learnAnswers_35 : decode cX0_learnAnswers 35 = .ok (.aload_n 0, 1) := by decide +kernel
theorem dX0_learnAnswers_36 : decode cX0_learnAnswers 36 = .ok (.dup, 1) := by decide +kernel
theorem dX0_learnAnswers_37 : decode cX0_learnAnswers 37 = .ok (.getfield 34, 3) := by decide +kernel
theorem dX0_learnAnswers_40 : decode cX0_learnAnswers 40 = .ok (.iconst 1, 1) := by decide +kernel
theorem dX0_learnAnswers_41 : decode cX0_learnAnswers 41 = .ok (.iadd, 1) := by decide +kernel
theorem dX0_learnAnswers_42 : decode cX0_learnAnswers 42 = .ok (.putfield 34, 3) := by decide +kernel
theorem dX0_learnAnswers_45 : decode cX0_learnAnswers 45 = .ok (.goto (-45), 3) := by decide +kernel
theorem dX0_learnAnswers_48 : decode cX0_learnAnswers 48 = .ok (.return_, 1) := by decide +kernel
theorem dX0_unlikeAnswers_0 : decode cX0_unlikeAnswers 0 = .ok (.aload_n 0, 1) := by decide +kernel
theorem dX0_unlikeAnswers_1 : decode cX0_unlikeAnswers 1 = .ok (.getfield 12, 3) := by decide +kernel
theorem dX0_unlikeAnswers_4 : decode cX0_unlikeAnswers 4 = .ok (.invokevirtual 50, 3) := by decide +kernel
theorem dX0_unlikeAnswers_7 : decode cX0_unlikeAnswers 7 = .ok (.iconst 0, 1) := by decide +kernel
theorem dX0_unlikeAnswers_8 : decode cX0_unlikeAnswers 8 = .ok (.istore_n 2, 1) := by decide +kernel
theorem dX0_unlikeAnswers_9 : decode cX0_unlikeAnswers 9 = .ok (.iload_n 2, 1) := by decide +kernel
theorem dX0_unlikeAnswers_10 : decode cX0_unlikeAnswers 10 = .ok (.iload_n 1, 1) := by decide +kernel
theorem dX0_unlikeAnswers_11 : decode cX0_unlikeAnswers 11 = .ok (.if_icmp .ge 22, 3) := by decide +kernel
theorem dX0_unlikeAnswers_14 : decode cX0_unlikeAnswers 14 = .ok (.aload_n 0, 1) := by decide +kernel
theorem dX0_unlikeAnswers_15 : decode cX0_unlikeAnswers 15 = .ok (.getfield 12, 3) := by decide +kernel
theorem dX0_unlikeAnswers_18 : decode cX0_unlikeAnswers 18 = .ok (.aload_n 0, 1) := by decide +kernel
theorem dX0_unlikeAnswers_19 : decode cX0_unlikeAnswers 19 = .ok (.getfield 18, 3) := by decide +kernel
theorem dX0_unlikeAnswers_22 : decode cX0_unlikeAnswers 22 = .ok (.iload_n 2, 1) := by decide +kernel
theorem dX0_unlikeAnswers_23 : decode cX0_unlikeAnswers 23 = .ok (.iaload, 1) := by decide +kernel
theorem dX0_unlikeAnswers_24 : decode cX0_unlikeAnswers 24 = .ok (.invokevirtual 53, 3) := by decide +kernel
theorem dX0_unlikeAnswers_27 : decode cX0_unlikeAnswers 27 = .ok (.iinc 2 1, 3) := by decide +kernel
theorem dX0_unlikeAnswers_30 : decode cX0_unlikeAnswers 30 = .ok (.goto (-21), 3) := by decide +kernel
theorem dX0_unlikeAnswers_33 : decode cX0_unlikeAnswers 33 = .ok (.aload_n 0, 1) := by decide +kernel
theorem dX0_unlikeAnswers_34 : decode cX0_unlikeAnswers 34 = .ok (.getfield 12, 3) := by decide +kernel
theorem dX0_unlikeAnswers_37 : decode cX0_unlikeAnswers 37 = .ok (.invokevirtual 57, 3) := by decide +kernel
theorem dX0_unlikeAnswers_40 : decode cX0_unlikeAnswers 40 = .ok (.ireturn, 1) := by decide +kernel
theorem dX0_placeToAsk_0 : decode cX0_placeToAsk 0 = .ok (.bipush (-5), 2) := by decide +kernel
theorem dX0_placeToAsk_2 : decode cX0_placeToAsk 2 = .ok (.istore_n 2, 1) := by decide +kernel
theorem dX0_placeToAsk_3 : decode cX0_placeToAsk 3 = .ok (.sipush 6562, 3) := by decide +kernel
theorem dX0_placeToAsk_6 : decode cX0_placeToAsk 6 = .ok (.istore_n 3, 1) := by decide +kernel
theorem dX0_placeToAsk_7 : decode cX0_placeToAsk 7 = .ok (.iconst 0, 1) := by decide +kernel
theorem dX0_placeToAsk_8 : decode cX0_placeToAsk 8 = .ok (.istore 4, 2) := by decide +kernel
theorem dX0_placeToAsk_10 : decode cX0_placeToAsk 10 = .ok (.iload 4, 2) := by decide +kernel
theorem dX0_placeToAsk_12 : decode cX0_placeToAsk 12 = .ok (.aload_n 0, 1) := by decide +kernel
theorem dX0_placeToAsk_13 : decode cX0_placeToAsk 13 = .ok (.getfield 22, 3) := by decide +kernel
theorem dX0_placeToAsk_16 : decode cX0_placeToAsk 16 = .ok (.invokevirtual 61, 3) := by decide +kernel
theorem dX0_placeToAsk_19 : decode cX0_placeToAsk 19 = .ok (.if_icmp .ge 44, 3) := by decide +kernel
theorem dX0_placeToAsk_22 : decode cX0_placeToAsk 22 = .ok (.aload_n 0, 1) := by decide +kernel
theorem dX0_placeToAsk_23 : decode cX0_placeToAsk 23 = .ok (.iload 4, 2) := by decide +kernel
theorem dX0_placeToAsk_25 : decode cX0_placeToAsk 25 = .ok (.iload_n 1, 1) := by decide +kernel
theorem dX0_placeToAsk_26 : decode cX0_placeToAsk 26 = .ok (.invokevirtual 64, 3) := by decide +kernel
theorem dX0_placeToAsk_29 : decode cX0_placeToAsk 29 = .ok (.ifCond .eq 13, 3) := by decide +kernel
theorem dX0_placeToAsk_32 : decode cX0_placeToAsk 32 = .ok (.aload_n 0, 1) := by decide +kernel
theorem dX0_placeToAsk_33 : decode cX0_placeToAsk 33 = .ok (.iload 4, 2) := by decide +kernel
theorem dX0_placeToAsk_35 : decode cX0_placeToAsk 35 = .ok (.iload_n 1, 1) := by decide +kernel
theorem dX0_placeToAsk_36 : decode cX0_placeToAsk 36 = .ok (.invokevirtual 68, 3) := by decide +kernel
theorem dX0_placeToAsk_39 : decode cX0_placeToAsk 39 = .ok (.goto 4, 3) := by decide +kernel
theorem dX0_placeToAsk_42 : decode cX0_placeToAsk 42 = .ok (.iload_n 3, 1) := by decide +kernel
theorem dX0_placeToAsk_43 : decode cX0_placeToAsk 43 = .ok (.istore 5, 2) := by decide +kernel
theorem dX0_placeToAsk_45 : decode cX0_placeToAsk 45 = .ok (.iload 5, 2) := by decide +kernel
theorem dX0_placeToAsk_47 : decode cX0_placeToAsk 47 = .ok (.iload_n 3, 1) := by decide +kernel
theorem dX0_placeToAsk_48 : decode cX0_placeToAsk 48 = .ok (.if_icmp .ge 9, 3) := by decide +kernel
theorem dX0_placeToAsk_51 : decode cX0_placeToAsk 51 = .ok (.iload 5, 2) := by decide +kernel
theorem dX0_placeToAsk_53 : decode cX0_placeToAsk 53 = .ok (.istore_n 3, 1) := by decide +kernel
theorem dX0_placeToAsk_54 : decode cX0_placeToAsk 54 = .ok (.iload 4, 2) := by decide +kernel
theorem dX0_placeToAsk_56 : decode cX0_placeToAsk 56 = .ok (.istore_n 2, 1) := by decide +kernel
theorem dX0_placeToAsk_57 : decode cX0_placeToAsk 57 = .ok (.iinc 4 1, 3) := by decide +kernel
theorem dX0_placeToAsk_60 : decode cX0_placeToAsk 60 = .ok (.goto (-50), 3) := by decide +kernel
theorem dX0_placeToAsk_63 : decode cX0_placeToAsk 63 = .ok (.iload_n 2, 1) := by decide +kernel
theorem dX0_placeToAsk_64 : decode cX0_placeToAsk 64 = .ok (.ireturn, 1) := by decide +kernel
theorem dX0_parts_0 : decode cX0_parts 0 = .ok (.iconst 1, 1) := by decide +kernel
theorem dX0_parts_1 : decode cX0_parts 1 = .ok (.istore_n 3, 1) := by decide +kernel
theorem dX0_parts_2 : decode cX0_parts 2 = .ok (.iload_n 3, 1) := by decide +kernel
theorem dX0_parts_3 : decode cX0_parts 3 = .ok (.iload_n 2, 1) := by decide +kernel
theorem dX0_parts_4 : decode cX0_parts 4 = .ok (.if_icmp .ge 32, 3) := by decide +kernel
theorem dX0_parts_7 : decode cX0_parts 7 = .ok (.aload_n 0, 1) := by decide +kernel
theorem dX0_parts_8 : decode cX0_parts 8 = .ok (.getfield 26, 3) := by decide +kernel
theorem dX0_parts_11 : decode cX0_parts 11 = .ok (.iload_n 3, 1) := by decide +kernel
theorem dX0_parts_12 : decode cX0_parts 12 = .ok (.iload_n 1, 1) := by decide +kernel
theorem dX0_parts_13 : decode cX0_parts 13 = .ok (.invokevirtual 72, 3) := by decide +kernel
theorem dX0_parts_16 : decode cX0_parts 16 = .ok (.aload_n 0, 1) := by decide +kernel
theorem dX0_parts_17 : decode cX0_parts 17 = .ok (.getfield 26, 3) := by decide +kernel
theorem dX0_parts_20 : decode cX0_parts 20 = .ok (.iconst 0, 1) := by decide +kernel
theorem dX0_parts_21 : decode cX0_parts 21 = .ok (.iload_n 1, 1) := by decide +kernel
theorem dX0_parts_22 : decode cX0_parts 22 = .ok (.invokevirtual 72, 3) := by decide +kernel
theorem dX0_parts_25 : decode cX0_parts 25 = .ok (.if_icmp .eq 5, 3) := by decide +kernel
theorem dX0_parts_28 : decode cX0_parts 28 = .ok (.iconst 1, 1) := by decide +kernel
theorem dX0_parts_29 : decode cX0_parts 29 = .ok (.ireturn, 1) := by decide +kernel
theorem dX0_parts_30 : decode cX0_parts 30 = .ok (.iinc 3 1, 3) := by decide +kernel
theorem dX0_parts_33 : decode cX0_parts 33 = .ok (.goto (-31), 3) := by decide +kernel
theorem dX0_parts_36 : decode cX0_parts 36 = .ok (.iconst 0, 1) := by decide +kernel
theorem dX0_parts_37 : decode cX0_parts 37 = .ok (.ireturn, 1) := by decide +kernel
theorem dX0_worstAt_0 : decode cX0_worstAt 0 = .ok (.iconst 0, 1) := by decide +kernel
theorem dX0_worstAt_1 : decode cX0_worstAt 1 = .ok (.istore_n 3, 1) := by decide +kernel
theorem dX0_worstAt_2 : decode cX0_worstAt 2 = .ok (.iconst 0, 1) := by decide +kernel
theorem dX0_worstAt_3 : decode cX0_worstAt 3 = .ok (.istore 4, 2) := by decide +kernel
theorem dX0_worstAt_5 : decode cX0_worstAt 5 = .ok (.iload 4, 2) := by decide +kernel
theorem dX0_worstAt_7 : decode cX0_worstAt 7 = .ok (.iconst 3, 1) := by decide +kernel
theorem dX0_worstAt_8 : decode cX0_worstAt 8 = .ok (.if_icmp .ge 72, 3) := by decide +kernel
theorem dX0_worstAt_11 : decode cX0_worstAt 11 = .ok (.aload_n 0, 1) := by decide +kernel
theorem dX0_worstAt_12 : decode cX0_worstAt 12 = .ok (.getfield 12, 3) := by decide +kernel
theorem dX0_worstAt_15 : decode cX0_worstAt 15 = .ok (.invokevirtual 50, 3) := by decide +kernel
theorem dX0_worstAt_18 : decode cX0_worstAt 18 = .ok (.iconst 0, 1) := by decide +kernel
theorem dX0_worstAt_19 : decode cX0_worstAt 19 = .ok (.istore 5, 2) := by decide +kernel
theorem dX0_worstAt_21 : decode cX0_worstAt 21 = .ok (.iload 5, 2) := by decide +kernel
theorem dX0_worstAt_23 : decode cX0_worstAt 23 = .ok (.iload_n 2, 1) := by decide +kernel
theorem dX0_worstAt_24 : decode cX0_worstAt 24 = .ok (.if_icmp .ge 38, 3) := by decide +kernel
theorem dX0_worstAt_27 : decode cX0_worstAt 27 = .ok (.aload_n 0, 1) := by decide +kernel
theorem dX0_worstAt_28 : decode cX0_worstAt 28 = .ok (.getfield 26, 3) := by decide +kernel
theorem dX0_worstAt_31 : decode cX0_worstAt 31 = .ok (.iload 5, 2) := by decide +kernel
theorem dX0_worstAt_33 : decode cX0_worstAt 33 = .ok (.iload_n 1, 1) := by decide +kernel
theorem dX0_worstAt_34 : decode cX0_worstAt 34 = .ok (.invokevirtual 72, 3) := by decide +kernel
theorem dX0_worstAt_37 : decode cX0_worstAt 37 = .ok (.iload 4, 2) := by decide +kernel
theorem dX0_worstAt_39 : decode cX0_worstAt 39 = .ok (.if_icmp .ne 17, 3) := by decide +kernel
theorem dX0_worstAt_42 : decode cX0_worstAt 42 = .ok (.aload_n 0, 1) := by decide +kernel
theorem dX0_worstAt_43 : decode cX0_worstAt 43 = .ok (.getfield 12, 3) := by decide +kernel
theorem dX0_worstAt_46 : decode cX0_worstAt 46 = .ok (.aload_n 0, 1) := by decide +kernel
theorem dX0_worstAt_47 : decode cX0_worstAt 47 = .ok (.getfield 18, 3) := by decide +kernel
theorem dX0_worstAt_50 : decode cX0_worstAt 50 = .ok (.iload 5, 2) := by decide +kernel
theorem dX0_worstAt_52 : decode cX0_worstAt 52 = .ok (.iaload, 1) := by decide +kernel
theorem dX0_worstAt_53 : decode cX0_worstAt 53 = .ok (.invokevirtual 53, 3) := by decide +kernel
theorem dX0_worstAt_56 : decode cX0_worstAt 56 = .ok (.iinc 5 1, 3) := by decide +kernel
theorem dX0_worstAt_59 : decode cX0_worstAt 59 = .ok (.goto (-38), 3) := by decide +kernel
theorem dX0_worstAt_62 : decode cX0_worstAt 62 = .ok (.iload_n 3, 1) := by decide +kernel
theorem dX0_worstAt_63 : decode cX0_worstAt 63 = .ok (.aload_n 0, 1) := by decide +kernel
theorem dX0_worstAt_64 : decode cX0_worstAt 64 = .ok (.getfield 12, 3) := by decide +kernel
theorem dX0_worstAt_67 : decode cX0_worstAt 67 = .ok (.invokevirtual 57, 3) := by decide +kernel
theorem dX0_worstAt_70 : decode cX0_worstAt 70 = .ok (.invokestatic 75, 3) := by decide +kernel
theorem dX0_worstAt_73 : decode cX0_worstAt 73 = .ok (.istore_n 3, 1) := by decide +kernel
theorem dX0_worstAt_74 : decode cX0_worstAt 74 = .ok (.iinc 4 1, 3) := by decide +kernel
theorem dX0_worstAt_77 : decode cX0_worstAt 77 = .ok (.goto (-72), 3) := by decide +kernel
theorem dX0_worstAt_80 : decode cX0_worstAt 80 = .ok (.iload_n 3, 1) := by decide +kernel
theorem dX0_worstAt_81 : decode cX0_worstAt 81 = .ok (.ireturn, 1) := by decide +kernel
theorem dX1_init_0 : decode cX1_init 0 = .ok (.aload_n 0, 1) := by decide +kernel
theorem dX1_init_1 : decode cX1_init 1 = .ok (.invokespecial 3, 3) := by decide +kernel
theorem dX1_init_4 : decode cX1_init 4 = .ok (.aload_n 0, 1) := by decide +kernel
theorem dX1_init_5 : decode cX1_init 5 = .ok (.sipush 288, 3) := by decide +kernel
theorem dX1_init_8 : decode cX1_init 8 = .ok (.newarray .int, 2) := by decide +kernel
theorem dX1_init_10 : decode cX1_init 10 = .ok (.putfield 11, 3) := by decide +kernel
theorem dX1_init_13 : decode cX1_init 13 = .ok (.aload_n 0, 1) := by decide +kernel
theorem dX1_init_14 : decode cX1_init 14 = .ok (.aload_n 1, 1) := by decide +kernel
theorem dX1_init_15 : decode cX1_init 15 = .ok (.putfield 15, 3) := by decide +kernel
theorem dX1_init_18 : decode cX1_init 18 = .ok (.aload_n 0, 1) := by decide +kernel
theorem dX1_init_19 : decode cX1_init 19 = .ok (.getfield 11, 3) := by decide +kernel
theorem dX1_init_22 : decode cX1_init 22 = .ok (.iconst (-1), 1) := by decide +kernel
theorem dX1_init_23 : decode cX1_init 23 = .ok (.invokestatic 19, 3) := by decide +kernel
theorem dX1_init_26 : decode cX1_init 26 = .ok (.return_, 1) := by decide +kernel
theorem dX1_spoil_0 : decode cX1_spoil 0 = .ok (.aload_n 0, 1) := by decide +kernel
theorem dX1_spoil_1 : decode cX1_spoil 1 = .ok (.getfield 11, 3) := by decide +kernel
theorem dX1_spoil_4 : decode cX1_spoil 4 = .ok (.iconst (-1), 1) := by decide +kernel
theorem dX1_spoil_5 : decode cX1_spoil 5 = .ok (.invokestatic 19, 3) := by decide +kernel
theorem dX1_spoil_8 : decode cX1_spoil 8 = .ok (.return_, 1) := by decide +kernel
theorem dX1_rowsFound_0 : decode cX1_rowsFound 0 = .ok (.iconst 1, 1) := by decide +kernel
theorem dX1_rowsFound_1 : decode cX1_rowsFound 1 = .ok (.aload_n 0, 1) := by decide +kernel
theorem dX1_rowsFound_2 : decode cX1_rowsFound 2 = .ok (.getfield 15, 3) := by decide +kernel
theorem dX1_rowsFound_5 : decode cX1_rowsFound 5 = .ok (.aload_n 1, 1) := by decide +kernel
theorem dX1_rowsFound_6 : decode cX1_rowsFound 6 = .ok (.invokevirtual 25, 3) := by decide +kernel
theorem dX1_rowsFound_9 : decode cX1_rowsFound 9 = .ok (.invokevirtual 31, 3) := by decide +kernel
theorem dX1_rowsFound_12 : decode cX1_rowsFound 12 = .ok (.ishl, 1) := by decide +kernel
theorem dX1_rowsFound_13 : decode cX1_rowsFound 13 = .ok (.iconst 1, 1) := by decide +kernel
theorem dX1_rowsFound_14 : decode cX1_rowsFound 14 = .ok (.isub, 1) := by decide +kernel
theorem dX1_rowsFound_15 : decode cX1_rowsFound 15 = .ok (.istore_n 2, 1) := by decide +kernel
theorem dX1_rowsFound_16 : decode cX1_rowsFound 16 = .ok (.iconst 0, 1) := by decide +kernel
theorem dX1_rowsFound_17 : decode cX1_rowsFound 17 = .ok (.istore_n 3, 1) := by decide +kernel
theorem dX1_rowsFound_18 : decode cX1_rowsFound 18 = .ok (.iload_n 3, 1) := by decide +kernel
theorem dX1_rowsFound_19 : decode cX1_rowsFound 19 = .ok (.aload_n 1, 1) := by decide +kernel
theorem dX1_rowsFound_20 : decode cX1_rowsFound 20 = .ok (.invokevirtual 37, 3) := by decide +kernel
theorem dX1_rowsFound_23 : decode cX1_rowsFound 23 = .ok (.if_icmp .ge 18, 3) := by decide +kernel
theorem dX1_rowsFound_26 : decode cX1_rowsFound 26 = .ok (.iload_n 2, 1) := by decide +kernel
theorem dX1_rowsFound_27 : decode cX1_rowsFound 27 = .ok (.aload_n 0, 1) := by decide +kernel
theorem dX1_rowsFound_28 : decode cX1_rowsFound 28 = .ok (.aload_n 1, 1) := by decide +kernel
theorem dX1_rowsFound_29 : decode cX1_rowsFound 29 = .ok (.iload_n 3, 1) := by decide +kernel
theorem dX1_rowsFound_30 : decode cX1_rowsFound 30 = .ok (.invokevirtual 40, 3) := by decide +kernel
theorem dX1_rowsFound_33 : decode cX1_rowsFound 33 = .ok (.iand, 1) := by decide +kernel
theorem dX1_rowsFound_34 : decode cX1_rowsFound 34 = .ok (.istore_n 2, 1) := by decide +kernel
theorem dX1_rowsFound_35 : decode cX1_rowsFound 35 = .ok (.iinc 3 1, 3) := by decide +kernel
theorem dX1_rowsFound_38 : decode cX1_rowsFound 38 = .ok (.goto (-20), 3) := by decide +kernel
theorem dX1_rowsFound_41 : decode cX1_rowsFound 41 = .ok (.iload_n 2, 1) := by decide +kernel
theorem dX1_rowsFound_42 : decode cX1_rowsFound 42 = .ok (.ireturn, 1) := by decide +kernel
theorem dX1_answerOf_0 : decode cX1_answerOf 0 = .ok (.aload_n 0, 1) := by decide +kernel
theorem dX1_answerOf_1 : decode cX1_answerOf 1 = .ok (.aload_n 1, 1) := by decide +kernel
theorem dX1_answerOf_2 : decode cX1_answerOf 2 = .ok (.invokevirtual 44, 3) := by decide +kernel
theorem dX1_answerOf_5 : decode cX1_answerOf 5 = .ok (.istore_n 2, 1) := by decide +kernel
theorem dX1_answerOf_6 : decode cX1_answerOf 6 = .ok (.aload_n 1, 1) := by decide +kernel
theorem dX1_answerOf_7 : decode cX1_answerOf 7 = .ok (.invokevirtual 48, 3) := by decide +kernel
theorem dX1_answerOf_10 : decode cX1_answerOf 10 = .ok (.ifCond .ne 8, 3) := by decide +kernel
theorem dX1_answerOf_13 : decode cX1_answerOf 13 = .ok (.iload_n 2, 1) := by decide +kernel
theorem dX1_answerOf_14 : decode cX1_answerOf 14 = .ok (.invokestatic 51, 3) := by decide +kernel
theorem dX1_answerOf_17 : decode cX1_answerOf 17 = .ok (.ireturn, 1) := by decide +kernel
theorem dX1_answerOf_18 : decode cX1_answerOf 18 = .ok (.aload_n 1, 1) := by decide +kernel
theorem dX1_answerOf_19 : decode cX1_answerOf 19 = .ok (.invokevirtual 48, 3) := by decide +kernel
theorem dX1_answerOf_22 : decode cX1_answerOf 22 = .ok (.iconst 1, 1) := by decide +kernel
theorem dX1_answerOf_23 : decode cX1_answerOf 23 = .ok (.if_icmp .ne 7, 3) := by decide +kernel
theorem dX1_answerOf_26 : decode cX1_answerOf 26 = .ok (.iconst 0, 1) := by decide +kernel
theorem dX1_answerOf_27 : decode cX1_answerOf 27 = .ok (.goto 5, 3) := by decide +kernel
theorem dX1_answerOf_30 : decode cX1_answerOf 30 = .ok (.ldc 56, 2) := by decide +kernel
theorem dX1_answerOf_32 : decode cX1_answerOf 32 = .ok (.istore_n 3, 1) := by decide +kernel
theorem dX1_answerOf_33 : decode cX1_answerOf 33 = .ok (.iconst 0, 1) := by decide +kernel
theorem dX1_answerOf_34 : decode cX1_answerOf 34 = .ok (.istore 4, 2) := by decide +kernel
theorem dX1_answerOf_36 : decode cX1_answerOf 36 = .ok (.iload 4, 2) := by decide +kernel
theorem dX1_answerOf_38 : decode cX1_answerOf 38 = .ok (.bipush 20, 2) := by decide +kernel
theorem dX1_answerOf_40 : decode cX1_answerOf 40 = .ok (.if_icmp .ge 60, 3) := by decide +kernel
theorem dX1_answerOf_43 : decode cX1_answerOf 43 = .ok (.iload_n 2, 1) := by decide +kernel
theorem dX1_answerOf_44 : decode cX1_answerOf 44 = .ok (.iload 4, 2) := by decide +kernel
theorem dX1_answerOf_46 : decode cX1_answerOf 46 = .ok (.invokestatic 57, 3) := by decide +kernel
theorem dX1_answerOf_49 : decode cX1_answerOf 49 = .ok (.ifCond .eq 23, 3) := by decide +kernel
theorem dX1_answerOf_52 : decode cX1_answerOf 52 = .ok (.aload_n 0, 1) := by decide +kernel
theorem dX1_answerOf_53 : decode cX1_answerOf 53 = .ok (.getfield 15, 3) := by decide +kernel
theorem dX1_answerOf_56 : decode cX1_answerOf 56 = .ok (.aload_n 1, 1) := by decide +kernel
theorem dX1_answerOf_57 : decode cX1_answerOf 57 = .ok (.invokevirtual 25, 3) := by decide +kernel
theorem dX1_answerOf_60 : decode cX1_answerOf 60 = .ok (.iload 4, 2) := by decide +kernel
theorem dX1_answerOf_62 : decode cX1_answerOf 62 = .ok (.aload_n 1, 1) := by decide +kernel
theorem dX1_answerOf_63 : decode cX1_answerOf 63 = .ok (.invokevirtual 61, 3) := by decide +kernel
theorem dX1_answerOf_66 : decode cX1_answerOf 66 = .ok (.invokevirtual 64, 3) := by decide +kernel
theorem dX1_answerOf_69 : decode cX1_answerOf 69 = .ok (.goto 5, 3) := by decide +kernel
theorem dX1_answerOf_72 : decode cX1_answerOf 72 = .ok (.ldc 56, 2) := by decide +kernel
theorem dX1_answerOf_74 : decode cX1_answerOf 74 = .ok (.istore 5, 2) := by decide +kernel
theorem dX1_answerOf_76 : decode cX1_answerOf 76 = .ok (.iload 5, 2) := by decide +kernel
theorem dX1_answerOf_78 : decode cX1_answerOf 78 = .ok (.ldc 56, 2) := by decide +kernel
theorem dX1_answerOf_80 : decode cX1_answerOf 80 = .ok (.if_icmp .eq 14, 3) := by decide +kernel
theorem dX1_answerOf_83 : decode cX1_answerOf 83 = .ok (.aload_n 1, 1) := by decide +kernel
theorem dX1_answerOf_84 : decode cX1_answerOf 84 = .ok (.invokevirtual 48, 3) := by decide +kernel
theorem dX1_answerOf_87 : decode cX1_answerOf 87 = .ok (.iload_n 3, 1) := by decide +kernel
theorem dX1_answerOf_88 : decode cX1_answerOf 88 = .ok (.iload 5, 2) := by decide +kernel
theorem dX1_answerOf_90 : decode cX1_answerOf 90 = .ok (.invokestatic 68, 3) := by decide +kernel
theorem dX1_answerOf_93 : decode cX1_answerOf 93 = .ok (.istore_n 3, 1) := by decide +kernel
theorem dX1_answerOf_94 : decode cX1_answerOf 94 = .ok (.iinc 4 1, 3) := by decide +kernel
theorem dX1_answerOf_97 : decode cX1_answerOf 97 = .ok (.goto (-61), 3) := by decide +kernel
theorem dX1_answerOf_100 : decode cX1_answerOf 100 = .ok (.iload_n 3, 1) := by decide +kernel
theorem dX1_answerOf_101 : decode cX1_answerOf 101 = .ok (.ireturn, 1) := by decide +kernel
theorem dX1_testsInTheWay_0 : decode cX1_testsInTheWay 0 = .ok (.bipush (-5), 2) := by decide +kernel
theorem dX1_testsInTheWay_2 : decode cX1_testsInTheWay 2 = .ok (.istore_n 2, 1) := by decide +kernel
theorem dX1_testsInTheWay_3 : decode cX1_testsInTheWay 3 = .ok (.iconst 0, 1) := by decide +kernel
theorem dX1_testsInTheWay_4 : decode cX1_testsInTheWay 4 = .ok (.istore_n 3, 1) := by decide +kernel
theorem dX1_testsInTheWay_5 : decode cX1_testsInTheWay 5 = .ok (.iload_n 3, 1) := by decide +kernel
theorem dX1_testsInTheWay_6 : decode cX1_testsInTheWay 6 = .ok (.aload_n 0, 1) := by decide +kernel
theorem dX1_testsInTheWay_7 : decode cX1_testsInTheWay 7 = .ok (.getfield 15, 3) := by decide +kernel
theorem dX1_testsInTheWay_10 : decode cX1_testsInTheWay 10 = .ok (.aload_n 1, 1) := by decide +kernel
theorem dX1_testsInTheWay_11 : decode cX1_testsInTheWay 11 = .ok (.invokevirtual 25, 3) := by decide +kernel
theorem dX1_testsInTheWay_14 : decode cX1_testsInTheWay 14 = .ok (.invokevirtual 31, 3) := by decide +kernel
theorem dX1_testsInTheWay_17 : decode cX1_testsInTheWay 17 = .ok (.if_icmp .ge 35, 3) := by decide +kernel
theorem dX1_testsInTheWay_20 : decode cX1_testsInTheWay 20 = .ok (.aload_n 0, 1) := by decide +kernel
theorem dX1_testsInTheWay_21 : decode cX1_testsInTheWay 21 = .ok (.aload_n 1, 1) := by decide +kernel
theorem dX1_testsInTheWay_22 : decode cX1_testsInTheWay 22 = .ok (.iload_n 3, 1) := by decide +kernel
theorem dX1_testsInTheWay_23 : decode cX1_testsInTheWay 23 = .ok (.invokevirtual 71, 3) := by decide +kernel
theorem dX1_testsInTheWay_26 : decode cX1_testsInTheWay 26 = .ok (.istore 4, 2) := by decide +kernel
theorem dX1_testsInTheWay_28 : decode cX1_testsInTheWay 28 = .ok (.iload_n 2, 1) := by decide +kernel
theorem dX1_testsInTheWay_29 : decode cX1_testsInTheWay 29 = .ok (.bipush (-5), 2) := by decide +kernel
theorem dX1_testsInTheWay_31 : decode cX1_testsInTheWay 31 = .ok (.if_icmp .eq 12, 3) := by decide +kernel
theorem dX1_testsInTheWay_34 : decode cX1_testsInTheWay 34 = .ok (.iload 4, 2) := by decide +kernel
theorem dX1_testsInTheWay_36 : decode cX1_testsInTheWay 36 = .ok (.iload_n 2, 1) := by decide +kernel
theorem dX1_testsInTheWay_37 : decode cX1_testsInTheWay 37 = .ok (.invokestatic 74, 3) := by decide +kernel
theorem dX1_testsInTheWay_40 : decode cX1_testsInTheWay 40 = .ok (.ifCond .eq 6, 3) := by decide +kernel
theorem dX1_testsInTheWay_43 : decode cX1_testsInTheWay 43 = .ok (.iload 4, 2) := by decide +kernel
theorem dX1_testsInTheWay_45 : decode cX1_testsInTheWay 45 = .ok (.istore_n 2, 1) := by decide +kernel
theorem dX1_testsInTheWay_46 : decode cX1_testsInTheWay 46 = .ok (.iinc 3 1, 3) := by decide +kernel
theorem dX1_testsInTheWay_49 : decode cX1_testsInTheWay 49 = .ok (.goto (-44), 3) := by decide +kernel
theorem dX1_testsInTheWay_52 : decode cX1_testsInTheWay 52 = .ok (.iload_n 2, 1) := by decide +kernel
theorem dX1_testsInTheWay_53 : decode cX1_testsInTheWay 53 = .ok (.ireturn, 1) := by decide +kernel
theorem dX1_testsFailing_0 : decode cX1_testsFailing 0 = .ok (.iconst 0, 1) := by decide +kernel
theorem dX1_testsFailing_1 : decode cX1_testsFailing 1 = .ok (.istore_n 3, 1) := by decide +kernel
theorem dX1_testsFailing_2 : decode cX1_testsFailing 2 = .ok (.iconst 0, 1) := by decide +kernel
theorem dX1_testsFailing_3 : decode cX1_testsFailing 3 = .ok (.istore 4, 2) := by decide +kernel
theorem dX1_testsFailing_5 : decode cX1_testsFailing 5 = .ok (.iload 4, 2) := by decide +kernel
theorem dX1_testsFailing_7 : decode cX1_testsFailing 7 = .ok (.aload_n 1, 1) := by decide +kernel
theorem dX1_testsFailing_8 : decode cX1_testsFailing 8 = .ok (.invokevirtual 37, 3) := by decide +kernel
theorem dX1_testsFailing_11 : decode cX1_testsFailing 11 = .ok (.if_icmp .ge 30, 3) := by decide +kernel
theorem dX1_testsFailing_14 : decode cX1_testsFailing 14 = .ok (.aload_n 0, 1) := by decide +kernel
theorem dX1_testsFailing_15 : decode cX1_testsFailing 15 = .ok (.aload_n 1, 1) := by decide +kernel
theorem dX1_testsFailing_16 : decode cX1_testsFailing 16 = .ok (.iload 4, 2) := by decide +kernel
theorem dX1_testsFailing_18 : decode cX1_testsFailing 18 = .ok (.invokevirtual 40, 3) := by decide +kernel
theorem dX1_testsFailing_21 : decode cX1_testsFailing 21 = .ok (.iload_n 2, 1) := by decide +kernel
theorem dX1_testsFailing_22 : decode cX1_testsFailing 22 = .ok (.invokestatic 57, 3) := by decide +kernel
theorem dX1_testsFailing_25 : decode cX1_testsFailing 25 = .ok (.ifCond .ne 10, 3) := by decide +kernel
theorem dX1_testsFailing_28 : decode cX1_testsFailing 28 = .ok (.iload_n 3, 1) := by decide +kernel
theorem dX1_testsFailing_29 : decode cX1_testsFailing 29 = .ok (.iconst 1, 1) := by decide +kernel
theorem dX1_testsFailing_30 : decode cX1_testsFailing 30 = .ok (.iload 4, 2) := by decide +kernel
theorem dX1_testsFailing_32 : decode cX1_testsFailing 32 = .ok (.ishl, 1) := by decide +kernel
theorem dX1_testsFailing_33 : decode cX1_testsFailing 33 = .ok (.ior, 1) := by decide +kernel
theorem dX1_testsFailing_34 : decode cX1_testsFailing 34 = .ok (.istore_n 3, 1) := by decide +kernel
theorem dX1_testsFailing_35 : decode cX1_testsFailing 35 = .ok (.iinc 4 1, 3) := by decide +kernel
theorem dX1_testsFailing_38 : decode cX1_testsFailing 38 = .ok (.goto (-33), 3) := by decide +kernel
theorem dX1_testsFailing_41 : decode cX1_testsFailing 41 = .ok (.iload_n 3, 1) := by decide +kernel
theorem dX1_testsFailing_42 : decode cX1_testsFailing 42 = .ok (.ireturn, 1) := by decide +kernel
theorem dX1_rowsHolding_0 : decode cX1_rowsHolding 0 = .ok (.aload_n 1, 1) := by decide +kernel
theorem dX1_rowsHolding_1 : decode cX1_rowsHolding 1 = .ok (.iload_n 2, 1) := by decide +kernel
theorem dX1_rowsHolding_2 : decode cX1_rowsHolding 2 = .ok (.invokevirtual 77, 3) := by decide +kernel
theorem dX1_rowsHolding_5 : decode cX1_rowsHolding 5 = .ok (.iconst 4, 1) := by decide +kernel
theorem dX1_rowsHolding_6 : decode cX1_rowsHolding 6 = .ok (.imul, 1) := by decide +kernel
theorem dX1_rowsHolding_7 : decode cX1_rowsHolding 7 = .ok (.aload_n 1, 1) := by decide +kernel
theorem dX1_rowsHolding_8 : decode cX1_rowsHolding 8 = .ok (.invokevirtual 25, 3) := by decide +kernel
theorem dX1_rowsHolding_11 : decode cX1_rowsHolding 11 = .ok (.iadd, 1) := by decide +kernel
theorem dX1_rowsHolding_12 : decode cX1_rowsHolding 12 = .ok (.istore_n 3, 1) := by decide +kernel
theorem dX1_rowsHolding_13 : decode cX1_rowsHolding 13 = .ok (.aload_n 0, 1) := by decide +kernel
theorem dX1_rowsHolding_14 : decode cX1_rowsHolding 14 = .ok (.getfield 11, 3) := by decide +kernel
theorem dX1_rowsHolding_17 : decode cX1_rowsHolding 17 = .ok (.iload_n 3, 1) := by decide +kernel
theorem dX1_rowsHolding_18 : decode cX1_rowsHolding 18 = .ok (.iaload, 1) := by decide +kernel
theorem dX1_rowsHolding_19 : decode cX1_rowsHolding 19 = .ok (.iconst (-1), 1) := by decide +kernel
theorem dX1_rowsHolding_20 : decode cX1_rowsHolding 20 = .ok (.if_icmp .ne 15, 3) := by decide +kernel
theorem dX1_rowsHolding_23 : decode cX1_rowsHolding 23 = .ok (.aload_n 0, 1) := by decide +kernel
theorem dX1_rowsHolding_24 : decode cX1_rowsHolding 24 = .ok (.getfield 11, 3) := by decide +kernel
theorem dX1_rowsHolding_27 : decode cX1_rowsHolding 27 = .ok (.iload_n 3, 1) := by decide +kernel
theorem dX1_rowsHolding_28 : decode cX1_rowsHolding 28 = .ok (.aload_n 0, 1) := by decide +kernel
theorem dX1_rowsHolding_29 : decode cX1_rowsHolding 29 = .ok (.aload_n 1, 1) := by decide +kernel
theorem dX1_rowsHolding_30 : decode cX1_rowsHolding 30 = .ok (.iload_n 2, 1) := by decide +kernel
theorem dX1_rowsHolding_31 : decode cX1_rowsHolding 31 = .ok (.invokevirtual 80, 3) := by decide +kernel
theorem dX1_rowsHolding_34 : decode cX1_rowsHolding 34 = .ok (.iastore, 1) := by decide +kernel
theorem dX1_rowsHolding_35 : decode cX1_rowsHolding 35 = .ok (.aload_n 0, 1) := by decide +kernel
theorem dX1_rowsHolding_36 : decode cX1_rowsHolding 36 = .ok (.getfield 11, 3) := by decide +kernel
theorem dX1_rowsHolding_39 : decode cX1_rowsHolding 39 = .ok (.iload_n 3, 1) := by decide +kernel
theorem dX1_rowsHolding_40 : decode cX1_rowsHolding 40 = .ok (.iaload, 1) := by decide +kernel
theorem dX1_rowsHolding_41 : decode cX1_rowsHolding 41 = .ok (.ireturn, 1) := by decide +kernel
theorem dX1_seekRows_0 : decode cX1_seekRows 0 = .ok (.aload_n 1, 1) := by decide +kernel
theorem dX1_seekRows_1 : decode cX1_seekRows 1 = .ok (.invokevirtual 25, 3) := by decide +kernel
theorem dX1_seekRows_4 : decode cX1_seekRows 4 = .ok (.istore_n 3, 1) := by decide +kernel
theorem dX1_seekRows_5 : decode cX1_seekRows 5 = .ok (.aload_n 1, 1) := by decide +kernel
theorem dX1_seekRows_6 : decode cX1_seekRows 6 = .ok (.iload_n 2, 1) := by decide +kernel
theorem dX1_seekRows_7 : decode cX1_seekRows 7 = .ok (.invokevirtual 83, 3) := by decide +kernel
theorem dX1_seekRows_10 : decode cX1_seekRows 10 = .ok (.istore 4, 2) := by decide +kernel
theorem dX1_seekRows_12 : decode cX1_seekRows 12 = .ok (.aload_n 1, 1) := by decide +kernel
theorem dX1_seekRows_13 : decode cX1_seekRows 13 = .ok (.iload_n 2, 1) := by decide +kernel
theorem dX1_seekRows_14 : decode cX1_seekRows 14 = .ok (.invokevirtual 86, 3) := by decide +kernel
theorem dX1_seekRows_17 : decode cX1_seekRows 17 = .ok (.istore 5, 2) := by decide +kernel
theorem dX1_seekRows_19 : decode cX1_seekRows 19 = .ok (.iload 4, 2) := by decide +kernel
theorem dX1_seekRows_21 : decode cX1_seekRows 21 = .ok (.iload_n 3, 1) := by decide +kernel
theorem dX1_seekRows_22 : decode cX1_seekRows 22 = .ok (.if_icmp .ne 8, 3) := by decide +kernel
theorem dX1_seekRows_25 : decode cX1_seekRows 25 = .ok (.iload 5, 2) := by decide +kernel
theorem dX1_seekRows_27 : decode cX1_seekRows 27 = .ok (.goto 13, 3) := by decide +kernel
theorem dX1_seekRows_30 : decode cX1_seekRows 30 = .ok (.aload_n 0, 1) := by decide +kernel
theorem dX1_seekRows_31 : decode cX1_seekRows 31 = .ok (.getfield 15, 3) := by decide +kernel
theorem dX1_seekRows_34 : decode cX1_seekRows 34 = .ok (.iload_n 3, 1) := by decide +kernel
theorem dX1_seekRows_35 : decode cX1_seekRows 35 = .ok (.iload 4, 2) := by decide +kernel
theorem dX1_seekRows_37 : decode cX1_seekRows 37 = .ok (.invokevirtual 89, 3) := by decide +kernel
theorem dX1_seekRows_40 : decode cX1_seekRows 40 = .ok (.istore 6, 2) := by decide +kernel
theorem dX1_seekRows_42 : decode cX1_seekRows 42 = .ok (.iconst 0, 1) := by decide +kernel
theorem dX1_seekRows_43 : decode cX1_seekRows 43 = .ok (.istore 7, 2) := by decide +kernel
theorem dX1_seekRows_45 : decode cX1_seekRows 45 = .ok (.iconst 0, 1) := by decide +kernel
theorem dX1_seekRows_46 : decode cX1_seekRows 46 = .ok (.istore 8, 2) := by decide +kernel
theorem dX1_seekRows_48 : decode cX1_seekRows 48 = .ok (.iload 6, 2) := by decide +kernel
theorem dX1_seekRows_50 : decode cX1_seekRows 50 = .ok (.ifCond .lt 110, 3) := by decide +kernel
theorem dX1_seekRows_53 : decode cX1_seekRows 53 = .ok (.iload 8, 2) := by decide +kernel
theorem dX1_seekRows_55 : decode cX1_seekRows 55 = .ok (.aload_n 0, 1) := by decide +kernel
theorem dX1_seekRows_56 : decode cX1_seekRows 56 = .ok (.getfield 15, 3) := by decide +kernel
theorem dX1_seekRows_59 : decode cX1_seekRows 59 = .ok (.iload_n 3, 1) := by decide +kernel
theorem dX1_seekRows_60 : decode cX1_seekRows 60 = .ok (.invokevirtual 31, 3) := by decide +kernel
theorem dX1_seekRows_63 : decode cX1_seekRows 63 = .ok (.if_icmp .ge 97, 3) := by decide +kernel
theorem dX1_seekRows_66 : decode cX1_seekRows 66 = .ok (.aload_n 0, 1) := by decide +kernel
theorem dX1_seekRows_67 : decode cX1_seekRows 67 = .ok (.getfield 15, 3) := by decide +kernel
theorem dX1_seekRows_70 : decode cX1_seekRows 70 = .ok (.iload_n 3, 1) := by decide +kernel
theorem dX1_seekRows_71 : decode cX1_seekRows 71 = .ok (.iload 8, 2) := by decide +kernel
theorem dX1_seekRows_73 : decode cX1_seekRows 73 = .ok (.iload 6, 2) := by decide +kernel
theorem dX1_seekRows_75 : decode cX1_seekRows 75 = .ok (.invokevirtual 64, 3) := by decide +kernel
theorem dX1_seekRows_78 : decode cX1_seekRows 78 = .ok (.istore 9, 2) := by decide +kernel
theorem dX1_seekRows_80 : decode cX1_seekRows 80 = .ok (.iload 4, 2) := by decide +kernel
theorem dX1_seekRows_82 : decode cX1_seekRows 82 = .ok (.iload_n 3, 1) := by decide +kernel
theorem dX1_seekRows_83 : decode cX1_seekRows 83 = .ok (.if_icmp .eq 37, 3) := by decide +kernel
theorem dX1_seekRows_86 : decode cX1_seekRows 86 = .ok (.aload_n 0, 1) := by decide +kernel
theorem dX1_seekRows_87 : decode cX1_seekRows 87 = .ok (.getfield 15, 3) := by decide +kernel
theorem dX1_seekRows_90 : decode cX1_seekRows 90 = .ok (.iload 4, 2) := by decide +kernel
theorem dX1_seekRows_92 : decode cX1_seekRows 92 = .ok (.iload 9, 2) := by decide +kernel
theorem dX1_seekRows_94 : decode cX1_seekRows 94 = .ok (.invokevirtual 93, 3) := by decide +kernel
theorem dX1_seekRows_97 : decode cX1_seekRows 97 = .ok (.ifCond .eq 19, 3) := by decide +kernel
theorem dX1_seekRows_100 : decode cX1_seekRows 100 = .ok (.aload_n 0, 1) := by decide +kernel
theorem dX1_seekRows_101 : decode cX1_seekRows 101 = .ok (.getfield 15, 3) := by decide +kernel
theorem dX1_seekRows_104 : decode cX1_seekRows 104 = .ok (.iload 4, 2) := by decide +kernel
theorem dX1_seekRows_106 : decode cX1_seekRows 106 = .ok (.iload 9, 2) := by decide +kernel
theorem dX1_seekRows_108 : decode cX1_seekRows 108 = .ok (.iload 5, 2) := by decide +kernel
theorem dX1_seekRows_110 : decode cX1_seekRows 110 = .ok (.invokevirtual 64, 3) := by decide +kernel
theorem dX1_seekRows_113 : decode cX1_seekRows 113 = .ok (.goto 5, 3) := by decide +kernel
theorem dX1_seekRows_116 : decode cX1_seekRows 116 = .ok (.ldc 56, 2) := by decide +kernel
theorem dX1_seekRows_118 : decode cX1_seekRows 118 = .ok (.istore 9, 2) := by decide +kernel
theorem dX1_seekRows_120 : decode cX1_seekRows 120 = .ok (.iload 9, 2) := by decide +kernel
theorem dX1_seekRows_122 : decode cX1_seekRows 122 = .ok (.ldc 56, 2) := by decide +kernel
theorem dX1_seekRows_124 : decode cX1_seekRows 124 = .ok (.if_icmp .eq 30, 3) := by decide +kernel
theorem dX1_seekRows_127 : decode cX1_seekRows 127 = .ok (.iload 9, 2) := by decide +kernel
theorem dX1_seekRows_129 : decode cX1_seekRows 129 = .ok (.aload_n 1, 1) := by decide +kernel
theorem dX1_seekRows_130 : decode cX1_seekRows 130 = .ok (.iload_n 2, 1) := by decide +kernel
theorem dX1_seekRows_131 : decode cX1_seekRows 131 = .ok (.invokevirtual 96, 3) := by decide +kernel
theorem dX1_seekRows_134 : decode cX1_seekRows 134 = .ok (.aload_n 1, 1) := by decide +kernel
theorem dX1_seekRows_135 : decode cX1_seekRows 135 = .ok (.iload_n 2, 1) := by decide +kernel
theorem dX1_seekRows_136 : decode cX1_seekRows 136 = .ok (.invokevirtual 99, 3) := by decide +kernel
theorem dX1_seekRows_139 : decode cX1_seekRows 139 = .ok (.invokestatic 102, 3) := by decide +kernel
theorem dX1_seekRows_142 : decode cX1_seekRows 142 = .ok (.ifCond .eq 12, 3) := by decide +kernel
theorem dX1_seekRows_145 : decode cX1_seekRows 145 = .ok (.iload 7, 2) := by decide +kernel
theorem dX1_seekRows_147 : decode cX1_seekRows 147 = .ok (.iconst 1, 1) := by decide +kernel
theorem dX1_seekRows_148 : decode cX1_seekRows 148 = .ok (.iload 8, 2) := by decide +kernel
theorem dX1_seekRows_150 : decode cX1_seekRows 150 = .ok (.ishl, 1) := by decide +kernel
theorem dX1_seekRows_151 : decode cX1_seekRows 151 = .ok (.ior, 1) := by decide +kernel
theorem dX1_seekRows_152 : decode cX1_seekRows 152 = .ok (.istore 7, 2) := by decide +kernel
theorem dX1_seekRows_154 : decode cX1_seekRows 154 = .ok (.iinc 8 1, 3) := by decide +kernel
theorem dX1_seekRows_157 : decode cX1_seekRows 157 = .ok (.goto (-109), 3) := by decide +kernel
theorem dX1_seekRows_160 : decode cX1_seekRows 160 = .ok (.iload 7, 2) := by decide +kernel
theorem dX1_seekRows_162 : decode cX1_seekRows 162 = .ok (.ireturn, 1) := by decide +kernel
theorem dX1_holds_0 : decode cX1_holds 0 = .ok (.iload_n 1, 1) := by decide +kernel
theorem dX1_holds_1 : decode cX1_holds 1 = .ok (.lookupswitch 49 #[(0, 27), (1, 38)], 27) := by decide +kernel
theorem dX1_holds_28 : decode cX1_holds 28 = .ok (.iload_n 0, 1) := by decide +kernel
theorem dX1_holds_29 : decode cX1_holds 29 = .ok (.iload_n 2, 1) := by decide +kernel
theorem dX1_holds_30 : decode cX1_holds 30 = .ok (.if_icmp .le 7, 3) := by decide +kernel
theorem dX1_holds_33 : decode cX1_holds 33 = .ok (.iconst 1, 1) := by decide +kernel
theorem dX1_holds_34 : decode cX1_holds 34 = .ok (.goto 4, 3) := by decide +kernel
theorem dX1_holds_37 : decode cX1_holds 37 = .ok (.iconst 0, 1) := by decide +kernel
theorem dX1_holds_38 : decode cX1_holds 38 = .ok (.ireturn, 1) := by decide +kernel
theorem dX1_holds_39 : decode cX1_holds 39 = .ok (.iload_n 0, 1) := by decide +kernel
theorem dX1_holds_40 : decode cX1_holds 40 = .ok (.iload_n 2, 1) := by decide +kernel
theorem dX1_holds_41 : decode cX1_holds 41 = .ok (.if_icmp .ge 7, 3) := by decide +kernel
theorem dX1_holds_44 : decode cX1_holds 44 = .ok (.iconst 1, 1) := by decide +kernel
theorem dX1_holds_45 : decode cX1_holds 45 = .ok (.goto 4, 3) := by decide +kernel
theorem dX1_holds_48 : decode cX1_holds 48 = .ok (.iconst 0, 1) := by decide +kernel
theorem dX1_holds_49 : decode cX1_holds 49 = .ok (.ireturn, 1) := by decide +kernel
theorem dX1_holds_50 : decode cX1_holds 50 = .ok (.iload_n 0, 1) := by decide +kernel
theorem dX1_holds_51 : decode cX1_holds 51 = .ok (.iload_n 2, 1) := by decide +kernel
theorem dX1_holds_52 : decode cX1_holds 52 = .ok (.if_icmp .ne 7, 3) := by decide +kernel
theorem dX1_holds_55 : decode cX1_holds 55 = .ok (.iconst 1, 1) := by decide +kernel
theorem dX1_holds_56 : decode cX1_holds 56 = .ok (.goto 4, 3) := by decide +kernel
theorem dX1_holds_59 : decode cX1_holds 59 = .ok (.iconst 0, 1) := by decide +kernel
theorem dX1_holds_60 : decode cX1_holds 60 = .ok (.ireturn, 1) := by decide +kernel
theorem dX1_joined_0 : decode cX1_joined 0 = .ok (.iload_n 0, 1) := by decide +kernel
theorem dX1_joined_1 : decode cX1_joined 1 = .ok (.iconst 1, 1) := by decide +kernel
theorem dX1_joined_2 : decode cX1_joined 2 = .ok (.if_icmp .ne 7, 3) := by decide +kernel
theorem dX1_joined_5 : decode cX1_joined 5 = .ok (.iload_n 1, 1) := by decide +kernel
theorem dX1_joined_6 : decode cX1_joined 6 = .ok (.iload_n 2, 1) := by decide +kernel
theorem dX1_joined_7 : decode cX1_joined 7 = .ok (.iadd, 1) := by decide +kernel
theorem dX1_joined_8 : decode cX1_joined 8 = .ok (.ireturn, 1) := by decide +kernel
theorem dX1_joined_9 : decode cX1_joined 9 = .ok (.iload_n 1, 1) := by decide +kernel
theorem dX1_joined_10 : decode cX1_joined 10 = .ok (.ldc 56, 2) := by decide +kernel
theorem dX1_joined_12 : decode cX1_joined 12 = .ok (.if_icmp .ne 5, 3) := by decide +kernel
theorem dX1_joined_15 : decode cX1_joined 15 = .ok (.iload_n 2, 1) := by decide +kernel
theorem dX1_joined_16 : decode cX1_joined 16 = .ok (.ireturn, 1) := by decide +kernel
theorem dX1_joined_17 : decode cX1_joined 17 = .ok (.iload_n 0, 1) := by decide +kernel
theorem dX1_joined_18 : decode cX1_joined 18 = .ok (.iconst 2, 1) := by decide +kernel
theorem dX1_joined_19 : decode cX1_joined 19 = .ok (.if_icmp .ne 11, 3) := by decide +kernel
theorem dX1_joined_22 : decode cX1_joined 22 = .ok (.iload_n 1, 1) := by decide +kernel
theorem dX1_joined_23 : decode cX1_joined 23 = .ok (.iload_n 2, 1) := by decide +kernel
theorem dX1_joined_24 : decode cX1_joined 24 = .ok (.invokestatic 106, 3) := by decide +kernel
theorem dX1_joined_27 : decode cX1_joined 27 = .ok (.goto 8, 3) := by decide +kernel
theorem dX1_joined_30 : decode cX1_joined 30 = .ok (.iload_n 1, 1) := by decide +kernel
theorem dX1_joined_31 : decode cX1_joined 31 = .ok (.iload_n 2, 1) := by decide +kernel
theorem dX1_joined_32 : decode cX1_joined 32 = .ok (.invokestatic 111, 3) := by decide +kernel
theorem dX1_joined_35 : decode cX1_joined 35 = .ok (.ireturn, 1) := by decide +kernel
theorem dX1_isLesserSet_0 : decode cX1_isLesserSet 0 = .ok (.iload_n 0, 1) := by decide +kernel
theorem dX1_isLesserSet_1 : decode cX1_isLesserSet 1 = .ok (.invokestatic 51, 3) := by decide +kernel
theorem dX1_isLesserSet_4 : decode cX1_isLesserSet 4 = .ok (.iload_n 1, 1) := by decide +kernel
theorem dX1_isLesserSet_5 : decode cX1_isLesserSet 5 = .ok (.invokestatic 51, 3) := by decide +kernel
theorem dX1_isLesserSet_8 : decode cX1_isLesserSet 8 = .ok (.invokestatic 114, 3) := by decide +kernel
theorem dX1_isLesserSet_11 : decode cX1_isLesserSet 11 = .ok (.istore_n 2, 1) := by decide +kernel
theorem dX1_isLesserSet_12 : decode cX1_isLesserSet 12 = .ok (.iload_n 2, 1) := by decide +kernel
theorem dX1_isLesserSet_13 : decode cX1_isLesserSet 13 = .ok (.ifCond .lt 12, 3) := by decide +kernel
theorem dX1_isLesserSet_16 : decode cX1_isLesserSet 16 = .ok (.iload_n 2, 1) := by decide +kernel
theorem dX1_isLesserSet_17 : decode cX1_isLesserSet 17 = .ok (.ifCond .ne 12, 3) := by decide +kernel
theorem dX1_isLesserSet_20 : decode cX1_isLesserSet 20 = .ok (.iload_n 0, 1) := by decide +kernel
theorem dX1_isLesserSet_21 : decode cX1_isLesserSet 21 = .ok (.iload_n 1, 1) := by decide +kernel
theorem dX1_isLesserSet_22 : decode cX1_isLesserSet 22 = .ok (.if_icmp .ge 7, 3) := by decide +kernel
theorem dX1_isLesserSet_25 : decode cX1_isLesserSet 25 = .ok (.iconst 1, 1) := by decide +kernel
theorem dX1_isLesserSet_26 : decode cX1_isLesserSet 26 = .ok (.goto 4, 3) := by decide +kernel
theorem dX1_isLesserSet_29 : decode cX1_isLesserSet 29 = .ok (.iconst 0, 1) := by decide +kernel
theorem dX1_isLesserSet_30 : decode cX1_isLesserSet 30 = .ok (.ireturn, 1) := by decide +kernel
theorem dX2_init_0 : decode cX2_init 0 = .ok (.aload_n 0, 1) := by decide +kernel
theorem dX2_init_1 : decode cX2_init 1 = .ok (.invokespecial 3, 3) := by decide +kernel
theorem dX2_init_4 : decode cX2_init 4 = .ok (.aload_n 0, 1) := by decide +kernel
theorem dX2_init_5 : decode cX2_init 5 = .ok (.bipush 8, 2) := by decide +kernel
theorem dX2_init_7 : decode cX2_init 7 = .ok (.newarray .int, 2) := by decide +kernel
theorem dX2_init_9 : decode cX2_init 9 = .ok (.putfield 9, 3) := by decide +kernel
theorem dX2_init_12 : decode cX2_init 12 = .ok (.aload_n 0, 1) := by decide +kernel
theorem dX2_init_13 : decode cX2_init 13 = .ok (.bipush 8, 2) := by decide +kernel
theorem dX2_init_15 : decode cX2_init 15 = .ok (.newarray .int, 2) := by decide +kernel
theorem dX2_init_17 : decode cX2_init 17 = .ok (.putfield 15, 3) := by decide +kernel
theorem dX2_init_20 : decode cX2_init 20 = .ok (.aload_n 0, 1) := by decide +kernel
theorem dX2_init_21 : decode cX2_init 21 = .ok (.bipush 8, 2) := by decide +kernel
theorem dX2_init_23 : decode cX2_init 23 = .ok (.newarray .int, 2) := by decide +kernel
theorem dX2_init_25 : decode cX2_init 25 = .ok (.putfield 18, 3) := by decide +kernel
theorem dX2_init_28 : decode cX2_init 28 = .ok (.aload_n 0, 1) := by decide +kernel
theorem dX2_init_29 : decode cX2_init 29 = .ok (.bipush 8, 2) := by decide +kernel
theorem dX2_init_31 : decode cX2_init 31 = .ok (.newarray .int, 2) := by decide +kernel
theorem dX2_init_33 : decode cX2_init 33 = .ok (.putfield 21, 3) := by decide +kernel
theorem dX2_init_36 : decode cX2_init 36 = .ok (.aload_n 0, 1) := by decide +kernel
theorem dX2_init_37 : decode cX2_init 37 = .ok (.bipush 8, 2) := by decide +kernel
theorem dX2_init_39 : decode cX2_init 39 = .ok (.newarray .int, 2) := by decide +kernel
theorem dX2_init_41 : decode cX2_init 41 = .ok (.putfield 24, 3) := by decide +kernel
theorem dX2_init_44 : decode cX2_init 44 = .ok (.return_, 1) := by decide +kernel
theorem dX2_doing_0 : decode cX2_doing 0 = .ok (.aload_n 0, 1) := by decide +kernel
theorem dX2_doing_1 : decode cX2_doing 1 = .ok (.getfield 27, 3) := by decide +kernel
theorem dX2_doing_4 : decode cX2_doing 4 = .ok (.ireturn, 1) := by decide +kernel
theorem dX2_from_0 : decode cX2_from 0 = .ok (.aload_n 0, 1) := by decide +kernel
theorem dX2_from_1 : decode cX2_from 1 = .ok (.getfield 31, 3) := by decide +kernel
theorem dX2_from_4 : decode cX2_from 4 = .ok (.ireturn, 1) := by decide +kernel
theorem dX2_wanted_0 : decode cX2_wanted 0 = .ok (.aload_n 0, 1) := by decide +kernel
theorem dX2_wanted_1 : decode cX2_wanted 1 = .ok (.getfield 34, 3) := by decide +kernel
theorem dX2_wanted_4 : decode cX2_wanted 4 = .ok (.ireturn, 1) := by decide +kernel
theorem dX2_tests_0 : decode cX2_tests 0 = .ok (.aload_n 0, 1) := by decide +kernel
theorem dX2_tests_1 : decode cX2_tests 1 = .ok (.getfield 37, 3) := by decide +kernel
theorem dX2_tests_4 : decode cX2_tests 4 = .ok (.ireturn, 1) := by decide +kernel
theorem dX2_tableOf_0 : decode cX2_tableOf 0 = .ok (.aload_n 0, 1) := by decide +kernel
theorem dX2_tableOf_1 : decode cX2_tableOf 1 = .ok (.getfield 9, 3) := by decide +kernel
theorem dX2_tableOf_4 : decode cX2_tableOf 4 = .ok (.iload_n 1, 1) := by decide +kernel
theorem dX2_tableOf_5 : decode cX2_tableOf 5 = .ok (.iaload, 1) := by decide +kernel
theorem dX2_tableOf_6 : decode cX2_tableOf 6 = .ok (.ireturn, 1) := by decide +kernel
theorem dX2_columnOf_0 : decode cX2_columnOf 0 = .ok (.aload_n 0, 1) := by decide +kernel
theorem dX2_columnOf_1 : decode cX2_columnOf 1 = .ok (.getfield 15, 3) := by decide +kernel
theorem dX2_columnOf_4 : decode cX2_columnOf 4 = .ok (.iload_n 1, 1) := by decide +kernel
theorem dX2_columnOf_5 : decode cX2_columnOf 5 = .ok (.iaload, 1) := by decide +kernel
theorem dX2_columnOf_6 : decode cX2_columnOf 6 = .ok (.ireturn, 1) := by decide +kernel
theorem dX2_thanOf_0 : decode cX2_thanOf 0 = .ok (.aload_n 0, 1) := by decide +kernel
theorem dX2_thanOf_1 : decode cX2_thanOf 1 = .ok (.getfield 18, 3) := by decide +kernel
theorem dX2_thanOf_4 : decode cX2_thanOf 4 = .ok (.iload_n 1, 1) := by decide +kernel
theorem dX2_thanOf_5 : decode cX2_thanOf 5 = .ok (.iaload, 1) := by decide +kernel
theorem dX2_thanOf_6 : decode cX2_thanOf 6 = .ok (.ireturn, 1) := by decide +kernel
theorem dX2_numberOf_0 : decode cX2_numberOf 0 = .ok (.aload_n 0, 1) := by decide +kernel
theorem dX2_numberOf_1 : decode cX2_numberOf 1 = .ok (.getfield 21, 3) := by decide +kernel
theorem dX2_numberOf_4 : decode cX2_numberOf 4 = .ok (.iload_n 1, 1) := by decide +kernel
theorem dX2_numberOf_5 : decode cX2_numberOf 5 = .ok (.iaload, 1) := by decide +kernel
theorem dX2_numberOf_6 : decode cX2_numberOf 6 = .ok (.ireturn, 1) := by decide +kernel
theorem dX2_originOf_0 : decode cX2_originOf 0 = .ok (.aload_n 0, 1) := by decide +kernel
theorem dX2_originOf_1 : decode cX2_originOf 1 = .ok (.getfield 24, 3) := by decide +kernel
theorem dX2_originOf_4 : decode cX2_originOf 4 = .ok (.iload_n 1, 1) := by decide +kernel
theorem dX2_originOf_5 : decode cX2_originOf 5 = .ok (.iaload, 1) := by decide +kernel
theorem dX2_originOf_6 : decode cX2_originOf 6 = .ok (.ireturn, 1) := by decide +kernel
theorem dX2_start_0 : decode cX2_start 0 = .ok (.aload_n 0, 1) := by decide +kernel
theorem dX2_start_1 : decode cX2_start 1 = .ok (.iconst 0, 1) := by decide +kernel
theorem dX2_start_2 : decode cX2_start 2 = .ok (.putfield 40, 3) := by decide +kernel
theorem dX2_start_5 : decode cX2_start 5 = .ok (.aload_n 0, 1) := by decide +kernel
theorem dX2_start_6 : decode cX2_start 6 = .ok (.iconst 0, 1) := by decide +kernel
theorem dX2_start_7 : decode cX2_start 7 = .ok (.putfield 27, 3) := by decide +kernel
theorem dX2_start_10 : decode cX2_start 10 = .ok (.aload_n 0, 1) := by decide +kernel
theorem dX2_start_11 : decode cX2_start 11 = .ok (.iconst 0, 1) := by decide +kernel
theorem dX2_start_12 : decode cX2_start 12 = .ok (.putfield 43, 3) := by decide +kernel
theorem dX2_start_15 : decode cX2_start 15 = .ok (.aload_n 0, 1) := by decide +kernel
theorem dX2_start_16 : decode cX2_start 16 = .ok (.iconst (-1), 1) := by decide +kernel
theorem dX2_start_17 : decode cX2_start 17 = .ok (.putfield 31, 3) := by decide +kernel
theorem dX2_start_20 : decode cX2_start 20 = .ok (.aload_n 0, 1) := by decide +kernel
theorem dX2_start_21 : decode cX2_start 21 = .ok (.iconst 0, 1) := by decide +kernel
theorem dX2_start_22 : decode cX2_start 22 = .ok (.putfield 46, 3) := by decide +kernel
theorem dX2_start_25 : decode cX2_start 25 = .ok (.aload_n 0, 1) := by decide +kernel
theorem dX2_start_26 : decode cX2_start 26 = .ok (.iconst (-1), 1) := by decide +kernel
theorem dX2_start_27 : decode cX2_start 27 = .ok (.putfield 34, 3) := by decide +kernel
theorem dX2_start_30 : decode cX2_start 30 = .ok (.aload_n 0, 1) := by decide +kernel
theorem dX2_start_31 : decode cX2_start 31 = .ok (.iconst (-1), 1) := by decide +kernel
theorem dX2_start_32 : decode cX2_start 32 = .ok (.putfield 49, 3) := by decide +kernel
theorem dX2_start_35 : decode cX2_start 35 = .ok (.aload_n 0, 1) := by decide +kernel
theorem dX2_start_36 : decode cX2_start 36 = .ok (.iconst 0, 1) := by decide +kernel
theorem dX2_start_37 : decode cX2_start 37 = .ok (.putfield 37, 3) := by decide +kernel
theorem dX2_start_40 : decode cX2_start 40 = .ok (.return_, 1) := by decide +kernel
theorem dX2_tellTable_0 : decode cX2_tellTable 0 = .ok (.aload_n 0, 1) := by decide +kernel
theorem dX2_tellTable_1 : decode cX2_tellTable 1 = .ok (.dup, 1) := by decide +kernel
theorem dX2_tellTable_2 : decode cX2_tellTable 2 = .ok (.getfield 43, 3) := by decide +kernel
theorem dX2_tellTable_5 : decode cX2_tellTable 5 = .ok (.iconst 1, 1) := by decide +kernel
theorem dX2_tellTable_6 : decode cX2_tellTable 6 = .ok (.iadd, 1) := by decide +kernel
theorem dX2_tellTable_7 : decode cX2_tellTable 7 = .ok (.putfield 43, 3) := by decide +kernel
theorem dX2_tellTable_10 : decode cX2_tellTable 10 = .ok (.aload_n 0, 1) := by decide +kernel
theorem dX2_tellTable_11 : decode cX2_tellTable 11 = .ok (.iload_n 1, 1) := by decide +kernel
theorem dX2_tellTable_12 : decode cX2_tellTable 12 = .ok (.putfield 31, 3) := by decide +kernel
theorem dX2_tellTable_15 : decode cX2_tellTable 15 = .ok (.return_, 1) := by decide +kernel
theorem dX2_tellDoing_0 : decode cX2_tellDoing 0 = .ok (.aload_n 0, 1) := by decide +kernel
theorem dX2_tellDoing_1 : decode cX2_tellDoing 1 = .ok (.dup, 1) := by decide +kernel
theorem dX2_tellDoing_2 : decode cX2_tellDoing 2 = .ok (.getfield 40, 3) := by decide +kernel
theorem dX2_tellDoing_5 : decode cX2_tellDoing 5 = .ok (.iconst 1, 1) := by decide +kernel
theorem dX2_tellDoing_6 : decode cX2_tellDoing 6 = .ok (.iadd, 1) := by decide +kernel
theorem dX2_tellDoing_7 : decode cX2_tellDoing 7 = .ok (.putfield 40, 3) := by decide +kernel
theorem dX2_tellDoing_10 : decode cX2_tellDoing 10 = .ok (.aload_n 0, 1) := by decide +kernel
theorem dX2_tellDoing_11 : decode cX2_tellDoing 11 = .ok (.iload_n 1, 1) := by decide +kernel
theorem dX2_tellDoing_12 : decode cX2_tellDoing 12 = .ok (.putfield 27, 3) := by decide +kernel
theorem dX2_tellDoing_15 : decode cX2_tellDoing 15 = .ok (.return_, 1) := by decide +kernel
theorem dX2_tellWanted_0 : decode cX2_tellWanted 0 = .ok (.aload_n 0, 1) := by decide +kernel
theorem dX2_tellWanted_1 : decode cX2_tellWanted 1 = .ok (.dup, 1) := by decide +kernel
theorem dX2_tellWanted_2 : decode cX2_tellWanted 2 = .ok (.getfield 46, 3) := by decide +kernel
theorem dX2_tellWanted_5 : decode cX2_tellWanted 5 = .ok (.iconst 1, 1) := by decide +kernel
theorem dX2_tellWanted_6 : decode cX2_tellWanted 6 = .ok (.iadd, 1) := by decide +kernel
theorem dX2_tellWanted_7 : decode cX2_tellWanted 7 = .ok (.putfield 46, 3) := by decide +kernel
theorem dX2_tellWanted_10 : decode cX2_tellWanted 10 = .ok (.aload_n 0, 1) := by decide +kernel
theorem dX2_tellWanted_11 : decode cX2_tellWanted 11 = .ok (.iload_n 1, 1) := by decide +kernel
theorem dX2_tellWanted_12 : decode cX2_tellWanted 12 = .ok (.putfield 49, 3) := by decide +kernel
theorem dX2_tellWanted_15 : decode cX2_tellWanted 15 = .ok (.aload_n 0, 1) := by decide +kernel
theorem dX2_tellWanted_16 : decode cX2_tellWanted 16 = .ok (.iload_n 2, 1) := by decide +kernel
theorem dX2_tellWanted_17 : decode cX2_tellWanted 17 = .ok (.putfield 34, 3) := by decide +kernel
theorem dX2_tellWanted_20 : decode cX2_tellWanted 20 = .ok (.return_, 1) := by decide +kernel
theorem dX2_tellTest_0 : decode cX2_tellTest 0 = .ok (.aload_n 0, 1) := by decide +kernel
theorem dX2_tellTest_1 : decode cX2_tellTest 1 = .ok (.getfield 24, 3) := by decide +kernel
theorem dX2_tellTest_4 : decode cX2_tellTest 4 = .ok (.aload_n 0, 1) := by decide +kernel
theorem dX2_tellTest_5 : decode cX2_tellTest 5 = .ok (.getfield 37, 3) := by decide +kernel
theorem dX2_tellTest_8 : decode cX2_tellTest 8 = .ok (.iload_n 1, 1) := by decide +kernel
theorem dX2_tellTest_9 : decode cX2_tellTest 9 = .ok (.iastore, 1) := by decide +kernel
theorem dX2_tellTest_10 : decode cX2_tellTest 10 = .ok (.aload_n 0, 1) := by decide +kernel
theorem dX2_tellTest_11 : decode cX2_tellTest 11 = .ok (.getfield 9, 3) := by decide +kernel
theorem dX2_tellTest_14 : decode cX2_tellTest 14 = .ok (.aload_n 0, 1) := by decide +kernel
theorem dX2_tellTest_15 : decode cX2_tellTest 15 = .ok (.getfield 37, 3) := by decide +kernel
theorem dX2_tellTest_18 : decode cX2_tellTest 18 = .ok (.iload_n 2, 1) := by decide +kernel
theorem dX2_tellTest_19 : decode cX2_tellTest 19 = .ok (.iastore, 1) := by decide +kernel
theorem dX2_tellTest_20 : decode cX2_tellTest 20 = .ok (.aload_n 0, 1) := by decide +kernel
theorem dX2_tellTest_21 : decode cX2_tellTest 21 = .ok (.getfield 15, 3) := by decide +kernel
theorem dX2_tellTest_24 : decode cX2_tellTest 24 = .ok (.aload_n 0, 1) := by decide +kernel
theorem dX2_tellTest_25 : decode cX2_tellTest 25 = .ok (.getfield 37, 3) := by decide +kernel
theorem dX2_tellTest_28 : decode cX2_tellTest 28 = .ok (.iload_n 3, 1) := by decide +kernel
theorem dX2_tellTest_29 : decode cX2_tellTest 29 = .ok (.iastore, 1) := by decide +kernel
theorem dX2_tellTest_30 : decode cX2_tellTest 30 = .ok (.aload_n 0, 1) := by decide +kernel
theorem dX2_tellTest_31 : decode cX2_tellTest 31 = .ok (.getfield 18, 3) := by decide +kernel
theorem dX2_tellTest_34 : decode cX2_tellTest 34 = .ok (.aload_n 0, 1) := by decide +kernel
theorem dX2_tellTest_35 : decode cX2_tellTest 35 = .ok (.getfield 37, 3) := by decide +kernel
theorem dX2_tellTest_38 : decode cX2_tellTest 38 = .ok (.iload 4, 2) := by decide +kernel
theorem dX2_tellTest_40 : decode cX2_tellTest 40 = .ok (.iastore, 1) := by decide +kernel
theorem dX2_tellTest_41 : decode cX2_tellTest 41 = .ok (.aload_n 0, 1) := by decide +kernel
theorem dX2_tellTest_42 : decode cX2_tellTest 42 = .ok (.getfield 21, 3) := by decide +kernel
theorem dX2_tellTest_45 : decode cX2_tellTest 45 = .ok (.aload_n 0, 1) := by decide +kernel
theorem dX2_tellTest_46 : decode cX2_tellTest 46 = .ok (.getfield 37, 3) := by decide +kernel
theorem dX2_tellTest_49 : decode cX2_tellTest 49 = .ok (.iload 5, 2) := by decide +kernel
theorem dX2_tellTest_51 : decode cX2_tellTest 51 = .ok (.iastore, 1) := by decide +kernel
theorem dX2_tellTest_52 : decode cX2_tellTest 52 = .ok (.aload_n 0, 1) := by decide +kernel
theorem dX2_tellTest_53 : decode cX2_tellTest 53 = .ok (.dup, 1) := by decide +kernel
theorem dX2_tellTest_54 : decode cX2_tellTest 54 = .ok (.getfield 37, 3) := by decide +kernel
theorem dX2_tellTest_57 : decode cX2_tellTest 57 = .ok (.iconst 1, 1) := by decide +kernel
theorem dX2_tellTest_58 : decode cX2_tellTest 58 = .ok (.iadd, 1) := by decide +kernel
theorem dX2_tellTest_59 : decode cX2_tellTest 59 = .ok (.putfield 37, 3) := by decide +kernel
theorem dX2_tellTest_62 : decode cX2_tellTest 62 = .ok (.return_, 1) := by decide +kernel
theorem dX2_end_0 : decode cX2_end 0 = .ok (.aload_n 0, 1) := by decide +kernel
theorem dX2_end_1 : decode cX2_end 1 = .ok (.getfield 43, 3) := by decide +kernel
theorem dX2_end_4 : decode cX2_end 4 = .ok (.ifCond .ne 11, 3) := by decide +kernel
theorem dX2_end_7 : decode cX2_end 7 = .ok (.aload_n 0, 1) := by decide +kernel
theorem dX2_end_8 : decode cX2_end 8 = .ok (.aload_n 0, 1) := by decide +kernel
theorem dX2_end_9 : decode cX2_end 9 = .ok (.getfield 49, 3) := by decide +kernel
theorem dX2_end_12 : decode cX2_end 12 = .ok (.putfield 31, 3) := by decide +kernel
theorem dX2_end_15 : decode cX2_end 15 = .ok (.return_, 1) := by decide +kernel
theorem dX2_stands_0 : decode cX2_stands 0 = .ok (.aload_n 0, 1) := by decide +kernel
theorem dX2_stands_1 : decode cX2_stands 1 = .ok (.getfield 40, 3) := by decide +kernel
theorem dX2_stands_4 : decode cX2_stands 4 = .ok (.iconst 1, 1) := by decide +kernel
theorem dX2_stands_5 : decode cX2_stands 5 = .ok (.if_icmp .gt 26, 3) := by decide +kernel
theorem dX2_stands_8 : decode cX2_stands 8 = .ok (.aload_n 0, 1) := by decide +kernel
theorem dX2_stands_9 : decode cX2_stands 9 = .ok (.getfield 43, 3) := by decide +kernel
theorem dX2_stands_12 : decode cX2_stands 12 = .ok (.iconst 1, 1) := by decide +kernel
theorem dX2_stands_13 : decode cX2_stands 13 = .ok (.if_icmp .gt 18, 3) := by decide +kernel
theorem dX2_stands_16 : decode cX2_stands 16 = .ok (.aload_n 0, 1) := by decide +kernel
theorem dX2_stands_17 : decode cX2_stands 17 = .ok (.getfield 46, 3) := by decide +kernel
theorem dX2_stands_20 : decode cX2_stands 20 = .ok (.iconst 1, 1) := by decide +kernel
theorem dX2_stands_21 : decode cX2_stands 21 = .ok (.if_icmp .gt 10, 3) := by decide +kernel
theorem dX2_stands_24 : decode cX2_stands 24 = .ok (.aload_n 0, 1) := by decide +kernel
theorem dX2_stands_25 : decode cX2_stands 25 = .ok (.getfield 31, 3) := by decide +kernel
theorem dX2_stands_28 : decode cX2_stands 28 = .ok (.ifCond .ge 5, 3) := by decide +kernel
theorem dX2_stands_31 : decode cX2_stands 31 = .ok (.iconst 0, 1) := by decide +kernel
theorem dX2_stands_32 : decode cX2_stands 32 = .ok (.ireturn, 1) := by decide +kernel
theorem dX2_stands_33 : decode cX2_stands 33 = .ok (.aload_n 0, 1) := by decide +kernel
theorem dX2_stands_34 : decode cX2_stands 34 = .ok (.getfield 46, 3) := by decide +kernel
theorem dX2_stands_37 : decode cX2_stands 37 = .ok (.iconst 1, 1) := by decide +kernel
theorem dX2_stands_38 : decode cX2_stands 38 = .ok (.if_icmp .ne 7, 3) := by decide +kernel
theorem dX2_stands_41 : decode cX2_stands 41 = .ok (.iconst 1, 1) := by decide +kernel
theorem dX2_stands_42 : decode cX2_stands 42 = .ok (.goto 4, 3) := by decide +kernel
theorem dX2_stands_45 : decode cX2_stands 45 = .ok (.iconst 0, 1) := by decide +kernel
theorem dX2_stands_46 : decode cX2_stands 46 = .ok (.aload_n 0, 1) := by decide +kernel
theorem dX2_stands_47 : decode cX2_stands 47 = .ok (.getfield 27, 3) := by decide +kernel
theorem dX2_stands_50 : decode cX2_stands 50 = .ok (.ifCond .eq 7, 3) := by decide +kernel
theorem dX2_stands_53 : decode cX2_stands 53 = .ok (.iconst 1, 1) := by decide +kernel
theorem dX2_stands_54 : decode cX2_stands 54 = .ok (.goto 4, 3) := by decide +kernel
theorem dX2_stands_57 : decode cX2_stands 57 = .ok (.iconst 0, 1) := by decide +kernel
theorem dX2_stands_58 : decode cX2_stands 58 = .ok (.if_icmp .eq 5, 3) := by decide +kernel
theorem dX2_stands_61 : decode cX2_stands 61 = .ok (.iconst 0, 1) := by decide +kernel
theorem dX2_stands_62 : decode cX2_stands 62 = .ok (.ireturn, 1) := by decide +kernel
theorem dX2_stands_63 : decode cX2_stands 63 = .ok (.aload_n 0, 1) := by decide +kernel
theorem dX2_stands_64 : decode cX2_stands 64 = .ok (.getfield 46, 3) := by decide +kernel
theorem dX2_stands_67 : decode cX2_stands 67 = .ok (.iconst 1, 1) := by decide +kernel
theorem dX2_stands_68 : decode cX2_stands 68 = .ok (.if_icmp .ne 16, 3) := by decide +kernel
theorem dX2_stands_71 : decode cX2_stands 71 = .ok (.aload_n 0, 1) := by decide +kernel
theorem dX2_stands_72 : decode cX2_stands 72 = .ok (.getfield 49, 3) := by decide +kernel
theorem dX2_stands_75 : decode cX2_stands 75 = .ok (.aload_n 0, 1) := by decide +kernel
theorem dX2_stands_76 : decode cX2_stands 76 = .ok (.getfield 31, 3) := by decide +kernel
theorem dX2_stands_79 : decode cX2_stands 79 = .ok (.if_icmp .eq 5, 3) := by decide +kernel
theorem dX2_stands_82 : decode cX2_stands 82 = .ok (.iconst 0, 1) := by decide +kernel
theorem dX2_stands_83 : decode cX2_stands 83 = .ok (.ireturn, 1) := by decide +kernel
theorem dX2_stands_84 : decode cX2_stands 84 = .ok (.aload_n 0, 1) := by decide +kernel
theorem dX2_stands_85 : decode cX2_stands 85 = .ok (.aload_n 1, 1) := by decide +kernel
theorem dX2_stands_86 : decode cX2_stands 86 = .ok (.invokevirtual 52, 3) := by decide +kernel
theorem dX2_stands_89 : decode cX2_stands 89 = .ok (.ireturn, 1) := by decide +kernel
theorem dX2_testsReach_0 : decode cX2_testsReach 0 = .ok (.iconst 0, 1) := by decide +kernel
theorem dX2_testsReach_1 : decode cX2_testsReach 1 = .ok (.istore_n 2, 1) := by decide +kernel
theorem dX2_testsReach_2 : decode cX2_testsReach 2 = .ok (.iload_n 2, 1) := by decide +kernel
theorem dX2_testsReach_3 : decode cX2_testsReach 3 = .ok (.aload_n 0, 1) := by decide +kernel
theorem dX2_testsReach_4 : decode cX2_testsReach 4 = .ok (.getfield 37, 3) := by decide +kernel
theorem dX2_testsReach_7 : decode cX2_testsReach 7 = .ok (.if_icmp .ge 41, 3) := by decide +kernel
theorem dX2_testsReach_10 : decode cX2_testsReach 10 = .ok (.aload_n 0, 1) := by decide +kernel
theorem dX2_testsReach_11 : decode cX2_testsReach 11 = .ok (.getfield 9, 3) := by decide +kernel
theorem dX2_testsReach_14 : decode cX2_testsReach 14 = .ok (.iload_n 2, 1) := by decide +kernel
theorem dX2_testsReach_15 : decode cX2_testsReach 15 = .ok (.iaload, 1) := by decide +kernel
theorem dX2_testsReach_16 : decode cX2_testsReach 16 = .ok (.aload_n 0, 1) := by decide +kernel
theorem dX2_testsReach_17 : decode cX2_testsReach 17 = .ok (.getfield 31, 3) := by decide +kernel
theorem dX2_testsReach_20 : decode cX2_testsReach 20 = .ok (.if_icmp .eq 22, 3) := by decide +kernel
theorem dX2_testsReach_23 : decode cX2_testsReach 23 = .ok (.aload_n 1, 1) := by decide +kernel
theorem dX2_testsReach_24 : decode cX2_testsReach 24 = .ok (.aload_n 0, 1) := by decide +kernel
theorem dX2_testsReach_25 : decode cX2_testsReach 25 = .ok (.getfield 31, 3) := by decide +kernel
theorem dX2_testsReach_28 : decode cX2_testsReach 28 = .ok (.aload_n 0, 1) := by decide +kernel
theorem dX2_testsReach_29 : decode cX2_testsReach 29 = .ok (.getfield 9, 3) := by decide +kernel
theorem dX2_testsReach_32 : decode cX2_testsReach 32 = .ok (.iload_n 2, 1) := by decide +kernel
theorem dX2_testsReach_33 : decode cX2_testsReach 33 = .ok (.iaload, 1) := by decide +kernel
theorem dX2_testsReach_34 : decode cX2_testsReach 34 = .ok (.invokevirtual 56, 3) := by decide +kernel
theorem dX2_testsReach_37 : decode cX2_testsReach 37 = .ok (.ifCond .ge 5, 3) := by decide +kernel
theorem dX2_testsReach_40 : decode cX2_testsReach 40 = .ok (.iconst 0, 1) := by decide +kernel
theorem dX2_testsReach_41 : decode cX2_testsReach 41 = .ok (.ireturn, 1) := by decide +kernel
theorem dX2_testsReach_42 : decode cX2_testsReach 42 = .ok (.iinc 2 1, 3) := by decide +kernel
theorem dX2_testsReach_45 : decode cX2_testsReach 45 = .ok (.goto (-43), 3) := by decide +kernel
theorem dX2_testsReach_48 : decode cX2_testsReach 48 = .ok (.iconst 1, 1) := by decide +kernel
theorem dX2_testsReach_49 : decode cX2_testsReach 49 = .ok (.ireturn, 1) := by decide +kernel
theorem dX3_init_0 : decode cX3_init 0 = .ok (.aload_n 0, 1) := by decide +kernel
theorem dX3_init_1 : decode cX3_init 1 = .ok (.invokespecial 3, 3) := by decide +kernel
theorem dX3_init_4 : decode cX3_init 4 = .ok (.aload_n 0, 1) := by decide +kernel
theorem dX3_init_5 : decode cX3_init 5 = .ok (.bipush 8, 2) := by decide +kernel
theorem dX3_init_7 : decode cX3_init 7 = .ok (.newarray .boolean, 2) := by decide +kernel
theorem dX3_init_9 : decode cX3_init 9 = .ok (.putfield 9, 3) := by decide +kernel
theorem dX3_init_12 : decode cX3_init 12 = .ok (.aload_n 0, 1) := by decide +kernel
theorem dX3_init_13 : decode cX3_init 13 = .ok (.bipush 8, 2) := by decide +kernel
theorem dX3_init_15 : decode cX3_init 15 = .ok (.newarray .int, 2) := by decide +kernel
theorem dX3_init_17 : decode cX3_init 17 = .ok (.putfield 15, 3) := by decide +kernel
theorem dX3_init_20 : decode cX3_init 20 = .ok (.return_, 1) := by decide +kernel
theorem dX3_size_0 : decode cX3_size 0 = .ok (.aload_n 0, 1) := by decide +kernel
theorem dX3_size_1 : decode cX3_size 1 = .ok (.getfield 19, 3) := by decide +kernel
theorem dX3_size_4 : decode cX3_size 4 = .ok (.ireturn, 1) := by decide +kernel
theorem dX3_has_0 : decode cX3_has 0 = .ok (.iload_n 1, 1) := by decide +kernel
theorem dX3_has_1 : decode cX3_has 1 = .ok (.ifCond .lt 15, 3) := by decide +kernel
theorem dX3_has_4 : decode cX3_has 4 = .ok (.iload_n 1, 1) := by decide +kernel
theorem dX3_has_5 : decode cX3_has 5 = .ok (.aload_n 0, 1) := by decide +kernel
theorem dX3_has_6 : decode cX3_has 6 = .ok (.getfield 19, 3) := by decide +kernel
theorem dX3_has_9 : decode cX3_has 9 = .ok (.if_icmp .ge 7, 3) := by decide +kernel
theorem dX3_has_12 : decode cX3_has 12 = .ok (.iconst 1, 1) := by decide +kernel
theorem dX3_has_13 : decode cX3_has 13 = .ok (.goto 4, 3) := by decide +kernel
theorem dX3_has_16 : decode cX3_has 16 = .ok (.iconst 0, 1) := by decide +kernel
theorem dX3_has_17 : decode cX3_has 17 = .ok (.ireturn, 1) := by decide +kernel
theorem dX3_isNumber_0 : decode cX3_isNumber 0 = .ok (.iload_n 1, 1) := by decide +kernel
theorem dX3_isNumber_1 : decode cX3_isNumber 1 = .ok (.ifCond .lt 24, 3) := by decide +kernel
theorem dX3_isNumber_4 : decode cX3_isNumber 4 = .ok (.iload_n 1, 1) := by decide +kernel
theorem dX3_isNumber_5 : decode cX3_isNumber 5 = .ok (.aload_n 0, 1) := by decide +kernel
theorem dX3_isNumber_6 : decode cX3_isNumber 6 = .ok (.getfield 19, 3) := by decide +kernel
theorem dX3_isNumber_9 : decode cX3_isNumber 9 = .ok (.if_icmp .ge 16, 3) := by decide +kernel
theorem dX3_isNumber_12 : decode cX3_isNumber 12 = .ok (.aload_n 0, 1) := by decide +kernel
theorem dX3_isNumber_13 : decode cX3_isNumber 13 = .ok (.getfield 9, 3) := by decide +kernel
theorem dX3_isNumber_16 : decode cX3_isNumber 16 = .ok (.iload_n 1, 1) := by decide +kernel
theorem dX3_isNumber_17 : decode cX3_isNumber 17 = .ok (.baload, 1) := by decide +kernel
theorem dX3_isNumber_18 : decode cX3_isNumber 18 = .ok (.ifCond .eq 7, 3) := by decide +kernel
theorem dX3_isNumber_21 : decode cX3_isNumber 21 = .ok (.iconst 1, 1) := by decide +kernel
theorem dX3_isNumber_22 : decode cX3_isNumber 22 = .ok (.goto 4, 3) := by decide +kernel
theorem dX3_isNumber_25 : decode cX3_isNumber 25 = .ok (.iconst 0, 1) := by decide +kernel
theorem dX3_isNumber_26 : decode cX3_isNumber 26 = .ok (.ireturn, 1) := by decide +kernel
theorem dX3_isWordAt_0 : decode cX3_isWordAt 0 = .ok (.iload_n 1, 1) := by decide +kernel
theorem dX3_isWordAt_1 : decode cX3_isWordAt 1 = .ok (.ifCond .lt 24, 3) := by decide +kernel
theorem dX3_isWordAt_4 : decode cX3_isWordAt 4 = .ok (.iload_n 1, 1) := by decide +kernel
theorem dX3_isWordAt_5 : decode cX3_isWordAt 5 = .ok (.aload_n 0, 1) := by decide +kernel
theorem dX3_isWordAt_6 : decode cX3_isWordAt 6 = .ok (.getfield 19, 3) := by decide +kernel
theorem dX3_isWordAt_9 : decode cX3_isWordAt 9 = .ok (.if_icmp .ge 16, 3) := by decide +kernel
theorem dX3_isWordAt_12 : decode cX3_isWordAt 12 = .ok (.aload_n 0, 1) := by decide +kernel
theorem dX3_isWordAt_13 : decode cX3_isWordAt 13 = .ok (.getfield 9, 3) := by decide +kernel
theorem dX3_isWordAt_16 : decode cX3_isWordAt 16 = .ok (.iload_n 1, 1) := by decide +kernel
theorem dX3_isWordAt_17 : decode cX3_isWordAt 17 = .ok (.baload, 1) := by decide +kernel
theorem dX3_isWordAt_18 : decode cX3_isWordAt 18 = .ok (.ifCond .ne 7, 3) := by decide +kernel
theorem dX3_isWordAt_21 : decode cX3_isWordAt 21 = .ok (.iconst 1, 1) := by decide +kernel
theorem dX3_isWordAt_22 : decode cX3_isWordAt 22 = .ok (.goto 4, 3) := by decide +kernel
theorem dX3_isWordAt_25 : decode cX3_isWordAt 25 = .ok (.iconst 0, 1) := by decide +kernel
theorem dX3_isWordAt_26 : decode cX3_isWordAt 26 = .ok (.ireturn, 1) := by decide +kernel
theorem dX3_tokenAt_0 : decode cX3_tokenAt 0 = .ok (.aload_n 0, 1) := by decide +kernel
theorem dX3_tokenAt_1 : decode cX3_tokenAt 1 = .ok (.getfield 15, 3) := by decide +kernel
theorem dX3_tokenAt_4 : decode cX3_tokenAt 4 = .ok (.iload_n 1, 1) := by decide +kernel
theorem dX3_tokenAt_5 : decode cX3_tokenAt 5 = .ok (.iaload, 1) := by decide +kernel
theorem dX3_tokenAt_6 : decode cX3_tokenAt 6 = .ok (.ireturn, 1) := by decide +kernel
theorem dX3_addWord_0 : decode cX3_addWord 0 = .ok (.aload_n 0, 1) := by decide +kernel
theorem dX3_addWord_1 : decode cX3_addWord 1 = .ok (.iload_n 1, 1) := by decide +kernel
theorem dX3_addWord_2 : decode cX3_addWord 2 = .ok (.iconst 0, 1) := by decide +kernel
theorem dX3_addWord_3 : decode cX3_addWord 3 = .ok (.invokevirtual 23, 3) := by decide +kernel
theorem dX3_addWord_6 : decode cX3_addWord 6 = .ok (.ireturn, 1) := by decide +kernel
theorem dX3_addNumber_0 : decode cX3_addNumber 0 = .ok (.aload_n 0, 1) := by decide +kernel
theorem dX3_addNumber_1 : decode cX3_addNumber 1 = .ok (.iload_n 1, 1) := by decide +kernel
theorem dX3_addNumber_2 : decode cX3_addNumber 2 = .ok (.iconst 1, 1) := by decide +kernel
theorem dX3_addNumber_3 : decode cX3_addNumber 3 = .ok (.invokevirtual 23, 3) := by decide +kernel
theorem dX3_addNumber_6 : decode cX3_addNumber 6 = .ok (.ireturn, 1) := by decide +kernel
theorem dX3_empty_0 : decode cX3_empty 0 = .ok (.aload_n 0, 1) := by decide +kernel
theorem dX3_empty_1 : decode cX3_empty 1 = .ok (.getfield 19, 3) := by decide +kernel
theorem dX3_empty_4 : decode cX3_empty 4 = .ok (.istore_n 1, 1) := by decide +kernel
theorem dX3_empty_5 : decode cX3_empty 5 = .ok (.aload_n 0, 1) := by decide +kernel
theorem dX3_empty_6 : decode cX3_empty 6 = .ok (.iconst 0, 1) := by decide +kernel
theorem dX3_empty_7 : decode cX3_empty 7 = .ok (.putfield 19, 3) := by decide +kernel
theorem dX3_empty_10 : decode cX3_empty 10 = .ok (.iload_n 1, 1) := by decide +kernel
theorem dX3_empty_11 : decode cX3_empty 11 = .ok (.ireturn, 1) := by decide +kernel
theorem dX3_isFirstOfWord_0 : decode cX3_isFirstOfWord 0 = .ok (.aload_n 0, 1) := by decide +kernel
theorem dX3_isFirstOfWord_1 : decode cX3_isFirstOfWord 1 = .ok (.iload_n 1, 1) := by decide +kernel
theorem dX3_isFirstOfWord_2 : decode cX3_isFirstOfWord 2 = .ok (.invokevirtual 27, 3) := by decide +kernel
theorem dX3_isFirstOfWord_5 : decode cX3_isFirstOfWord 5 = .ok (.ifCond .ne 5, 3) := by decide +kernel
theorem dX3_isFirstOfWord_8 : decode cX3_isFirstOfWord 8 = .ok (.iconst 0, 1) := by decide +kernel
theorem dX3_isFirstOfWord_9 : decode cX3_isFirstOfWord 9 = .ok (.ireturn, 1) := by decide +kernel
theorem dX3_isFirstOfWord_10 : decode cX3_isFirstOfWord 10 = .ok (.iconst 0, 1) := by decide +kernel
theorem dX3_isFirstOfWord_11 : decode cX3_isFirstOfWord 11 = .ok (.istore_n 2, 1) := by decide +kernel
theorem dX3_isFirstOfWord_12 : decode cX3_isFirstOfWord 12 = .ok (.iload_n 2, 1) := by decide +kernel
theorem dX3_isFirstOfWord_13 : decode cX3_isFirstOfWord 13 = .ok (.iload_n 1, 1) := by decide +kernel
theorem dX3_isFirstOfWord_14 : decode cX3_isFirstOfWord 14 = .ok (.if_icmp .ge 34, 3) := by decide +kernel
theorem dX3_isFirstOfWord_17 : decode cX3_isFirstOfWord 17 = .ok (.aload_n 0, 1) := by decide +kernel
theorem dX3_isFirstOfWord_18 : decode cX3_isFirstOfWord 18 = .ok (.iload_n 2, 1) := by decide +kernel
theorem dX3_isFirstOfWord_19 : decode cX3_isFirstOfWord 19 = .ok (.invokevirtual 27, 3) := by decide +kernel
theorem dX3_isFirstOfWord_22 : decode cX3_isFirstOfWord 22 = .ok (.ifCond .eq 20, 3) := by decide +kernel
theorem dX3_isFirstOfWord_25 : decode cX3_isFirstOfWord 25 = .ok (.aload_n 0, 1) := by decide +kernel
theorem dX3_isFirstOfWord_26 : decode cX3_isFirstOfWord 26 = .ok (.getfield 15, 3) := by decide +kernel
theorem dX3_isFirstOfWord_29 : decode cX3_isFirstOfWord 29 = .ok (.iload_n 2, 1) := by decide +kernel
theorem dX3_isFirstOfWord_30 : decode cX3_isFirstOfWord 30 = .ok (.iaload, 1) := by decide +kernel
theorem dX3_isFirstOfWord_31 : decode cX3_isFirstOfWord 31 = .ok (.aload_n 0, 1) := by decide +kernel
theorem dX3_isFirstOfWord_32 : decode cX3_isFirstOfWord 32 = .ok (.getfield 15, 3) := by decide +kernel
theorem dX3_isFirstOfWord_35 : decode cX3_isFirstOfWord 35 = .ok (.iload_n 1, 1) := by decide +kernel
theorem dX3_isFirstOfWord_36 : decode cX3_isFirstOfWord 36 = .ok (.iaload, 1) := by decide +kernel
theorem dX3_isFirstOfWord_37 : decode cX3_isFirstOfWord 37 = .ok (.if_icmp .ne 5, 3) := by decide +kernel
theorem dX3_isFirstOfWord_40 : decode cX3_isFirstOfWord 40 = .ok (.iconst 0, 1) := by decide +kernel
theorem dX3_isFirstOfWord_41 : decode cX3_isFirstOfWord 41 = .ok (.ireturn, 1) := by decide +kernel
theorem dX3_isFirstOfWord_42 : decode cX3_isFirstOfWord 42 = .ok (.iinc 2 1, 3) := by decide +kernel
theorem dX3_isFirstOfWord_45 : decode cX3_isFirstOfWord 45 = .ok (.goto (-33), 3) := by decide +kernel
theorem dX3_isFirstOfWord_48 : decode cX3_isFirstOfWord 48 = .ok (.iconst 1, 1) := by decide +kernel
theorem dX3_isFirstOfWord_49 : decode cX3_isFirstOfWord 49 = .ok (.ireturn, 1) := by decide +kernel
theorem dX3_add_0 : decode cX3_add 0 = .ok (.aload_n 0, 1) := by decide +kernel
theorem dX3_add_1 : decode cX3_add 1 = .ok (.getfield 15, 3) := by decide +kernel
theorem dX3_add_4 : decode cX3_add 4 = .ok (.aload_n 0, 1) := by decide +kernel
theorem dX3_add_5 : decode cX3_add 5 = .ok (.getfield 19, 3) := by decide +kernel
theorem dX3_add_8 : decode cX3_add 8 = .ok (.iload_n 1, 1) := by decide +kernel
theorem dX3_add_9 : decode cX3_add 9 = .ok (.iastore, 1) := by decide +kernel
theorem dX3_add_10 : decode cX3_add 10 = .ok (.aload_n 0, 1) := by decide +kernel
theorem dX3_add_11 : decode cX3_add 11 = .ok (.getfield 9, 3) := by decide +kernel
theorem dX3_add_14 : decode cX3_add 14 = .ok (.aload_n 0, 1) := by decide +kernel
theorem dX3_add_15 : decode cX3_add 15 = .ok (.getfield 19, 3) := by decide +kernel
theorem dX3_add_18 : decode cX3_add 18 = .ok (.iload_n 2, 1) := by decide +kernel
theorem dX3_add_19 : decode cX3_add 19 = .ok (.bastore, 1) := by decide +kernel
theorem dX3_add_20 : decode cX3_add 20 = .ok (.aload_n 0, 1) := by decide +kernel
theorem dX3_add_21 : decode cX3_add 21 = .ok (.dup, 1) := by decide +kernel
theorem dX3_add_22 : decode cX3_add 22 = .ok (.getfield 19, 3) := by decide +kernel
theorem dX3_add_25 : decode cX3_add 25 = .ok (.iconst 1, 1) := by decide +kernel
theorem dX3_add_26 : decode cX3_add 26 = .ok (.iadd, 1) := by decide +kernel
theorem dX3_add_27 : decode cX3_add 27 = .ok (.putfield 19, 3) := by decide +kernel
theorem dX3_add_30 : decode cX3_add 30 = .ok (.aload_n 0, 1) := by decide +kernel
theorem dX3_add_31 : decode cX3_add 31 = .ok (.getfield 19, 3) := by decide +kernel
theorem dX3_add_34 : decode cX3_add 34 = .ok (.ireturn, 1) := by decide +kernel
theorem dX4_init_0 : decode cX4_init 0 = .ok (.aload_n 0, 1) := by decide +kernel
theorem dX4_init_1 : decode cX4_init 1 = .ok (.invokespecial 3, 3) := by decide +kernel
theorem dX4_init_4 : decode cX4_init 4 = .ok (.aload_n 0, 1) := by decide +kernel
theorem dX4_init_5 : decode cX4_init 5 = .ok (.sipush 8192, 3) := by decide +kernel
theorem dX4_init_8 : decode cX4_init 8 = .ok (.newarray .int, 2) := by decide +kernel
theorem dX4_init_10 : decode cX4_init 10 = .ok (.putfield 9, 3) := by decide +kernel
theorem dX4_init_13 : decode cX4_init 13 = .ok (.aload_n 0, 1) := by decide +kernel
theorem dX4_init_14 : decode cX4_init 14 = .ok (.sipush 8192, 3) := by decide +kernel
theorem dX4_init_17 : decode cX4_init 17 = .ok (.newarray .int, 2) := by decide +kernel
theorem dX4_init_19 : decode cX4_init 19 = .ok (.putfield 13, 3) := by decide +kernel
theorem dX4_init_22 : decode cX4_init 22 = .ok (.return_, 1) := by decide +kernel
theorem dX4_size_0 : decode cX4_size 0 = .ok (.aload_n 0, 1) := by decide +kernel
theorem dX4_size_1 : decode cX4_size 1 = .ok (.getfield 16, 3) := by decide +kernel
theorem dX4_size_4 : decode cX4_size 4 = .ok (.ireturn, 1) := by decide +kernel
theorem dX4_empty_0 : decode cX4_empty 0 = .ok (.aload_n 0, 1) := by decide +kernel
theorem dX4_empty_1 : decode cX4_empty 1 = .ok (.dup, 1) := by decide +kernel
theorem dX4_empty_2 : decode cX4_empty 2 = .ok (.getfield 20, 3) := by decide +kernel
theorem dX4_empty_5 : decode cX4_empty 5 = .ok (.iconst 1, 1) := by decide +kernel
theorem dX4_empty_6 : decode cX4_empty 6 = .ok (.iadd, 1) := by decide +kernel
theorem dX4_empty_7 : decode cX4_empty 7 = .ok (.putfield 20, 3) := by decide +kernel
theorem dX4_empty_10 : decode cX4_empty 10 = .ok (.aload_n 0, 1) := by decide +kernel
theorem dX4_empty_11 : decode cX4_empty 11 = .ok (.iconst 0, 1) := by decide +kernel
theorem dX4_empty_12 : decode cX4_empty 12 = .ok (.putfield 16, 3) := by decide +kernel
theorem dX4_empty_15 : decode cX4_empty 15 = .ok (.return_, 1) := by decide +kernel
theorem dX4_add_0 : decode cX4_add 0 = .ok (.iload_n 1, 1) := by decide +kernel
theorem dX4_add_1 : decode cX4_add 1 = .ok (.ldc 23, 2) := by decide +kernel
theorem dX4_add_3 : decode cX4_add 3 = .ok (.imul, 1) := by decide +kernel
theorem dX4_add_4 : decode cX4_add 4 = .ok (.bipush 19, 2) := by decide +kernel
theorem dX4_add_6 : decode cX4_add 6 = .ok (.iushr, 1) := by decide +kernel
theorem dX4_add_7 : decode cX4_add 7 = .ok (.istore_n 2, 1) := by decide +kernel
theorem dX4_add_8 : decode cX4_add 8 = .ok (.iconst 0, 1) := by decide +kernel
theorem dX4_add_9 : decode cX4_add 9 = .ok (.istore_n 3, 1) := by decide +kernel
theorem dX4_add_10 : decode cX4_add 10 = .ok (.iload_n 3, 1) := by decide +kernel
theorem dX4_add_11 : decode cX4_add 11 = .ok (.sipush 8192, 3) := by decide +kernel
theorem dX4_add_14 : decode cX4_add 14 = .ok (.if_icmp .ge 69, 3) := by decide +kernel
theorem dX4_add_17 : decode cX4_add 17 = .ok (.aload_n 0, 1) := by decide +kernel
theorem dX4_add_18 : decode cX4_add 18 = .ok (.getfield 13, 3) := by decide +kernel
theorem dX4_add_21 : decode cX4_add 21 = .ok (.iload_n 2, 1) := by decide +kernel
theorem dX4_add_22 : decode cX4_add 22 = .ok (.iaload, 1) := by decide +kernel
theorem dX4_add_23 : decode cX4_add 23 = .ok (.aload_n 0, 1) := by decide +kernel
theorem dX4_add_24 : decode cX4_add 24 = .ok (.getfield 20, 3) := by decide +kernel
theorem dX4_add_27 : decode cX4_add 27 = .ok (.if_icmp .eq 31, 3) := by decide +kernel
theorem dX4_add_30 : decode cX4_add 30 = .ok (.aload_n 0, 1) := by decide +kernel
theorem dX4_add_31 : decode cX4_add 31 = .ok (.getfield 13, 3) := by decide +kernel
theorem dX4_add_34 : decode cX4_add 34 = .ok (.iload_n 2, 1) := by decide +kernel
theorem dX4_add_35 : decode cX4_add 35 = .ok (.aload_n 0, 1) := by decide +kernel
theorem dX4_add_36 : decode cX4_add 36 = .ok (.getfield 20, 3) := by decide +kernel
theorem dX4_add_39 : decode cX4_add 39 = .ok (.iastore, 1) := by decide +kernel
theorem dX4_add_40 : decode cX4_add 40 = .ok (.aload_n 0, 1) := by decide +kernel
theorem dX4_add_41 : decode cX4_add 41 = .ok (.getfield 9, 3) := by decide +kernel
theorem dX4_add_44 : decode cX4_add 44 = .ok (.iload_n 2, 1) := by decide +kernel
theorem dX4_add_45 : decode cX4_add 45 = .ok (.iload_n 1, 1) := by decide +kernel
theorem dX4_add_46 : decode cX4_add 46 = .ok (.iastore, 1) := by decide +kernel
theorem dX4_add_47 : decode cX4_add 47 = .ok (.aload_n 0, 1) := by decide +kernel
theorem dX4_add_48 : decode cX4_add 48 = .ok (.dup, 1) := by decide +kernel
theorem dX4_add_49 : decode cX4_add 49 = .ok (.getfield 16, 3) := by decide +kernel
theorem dX4_add_52 : decode cX4_add 52 = .ok (.iconst 1, 1) := by decide +kernel
theorem dX4_add_53 : decode cX4_add 53 = .ok (.iadd, 1) := by decide +kernel
theorem dX4_add_54 : decode cX4_add 54 = .ok (.putfield 16, 3) := by decide +kernel
theorem dX4_add_57 : decode cX4_add 57 = .ok (.return_, 1) := by decide +kernel
theorem dX4_add_58 : decode cX4_add 58 = .ok (.aload_n 0, 1) := by decide +kernel
theorem dX4_add_59 : decode cX4_add 59 = .ok (.getfield 9, 3) := by decide +kernel
theorem dX4_add_62 : decode cX4_add 62 = .ok (.iload_n 2, 1) := by decide +kernel
theorem dX4_add_63 : decode cX4_add 63 = .ok (.iaload, 1) := by decide +kernel
theorem dX4_add_64 : decode cX4_add 64 = .ok (.iload_n 1, 1) := by decide +kernel
theorem dX4_add_65 : decode cX4_add 65 = .ok (.if_icmp .ne 4, 3) := by decide +kernel
theorem dX4_add_68 : decode cX4_add 68 = .ok (.return_, 1) := by decide +kernel
theorem dX4_add_69 : decode cX4_add 69 = .ok (.iload_n 2, 1) := by decide +kernel
theorem dX4_add_70 : decode cX4_add 70 = .ok (.iconst 1, 1) := by decide +kernel
theorem dX4_add_71 : decode cX4_add 71 = .ok (.iadd, 1) := by decide +kernel
theorem dX4_add_72 : decode cX4_add 72 = .ok (.sipush 8192, 3) := by decide +kernel
theorem dX4_add_75 : decode cX4_add 75 = .ok (.irem, 1) := by decide +kernel
theorem dX4_add_76 : decode cX4_add 76 = .ok (.istore_n 2, 1) := by decide +kernel
theorem dX4_add_77 : decode cX4_add 77 = .ok (.iinc 3 1, 3) := by decide +kernel
theorem dX4_add_80 : decode cX4_add 80 = .ok (.goto (-70), 3) := by decide +kernel
theorem dX4_add_83 : decode cX4_add 83 = .ok (.return_, 1) := by decide +kernel
theorem dX5_init_0 : decode cX5_init 0 = .ok (.aload_n 0, 1) := by decide +kernel
theorem dX5_init_1 : decode cX5_init 1 = .ok (.invokespecial 5, 3) := by decide +kernel
theorem dX5_init_4 : decode cX5_init 4 = .ok (.aload_n 0, 1) := by decide +kernel
theorem dX5_init_5 : decode cX5_init 5 = .ok (.new 11, 3) := by decide +kernel
theorem dX5_init_8 : decode cX5_init 8 = .ok (.dup, 1) := by decide +kernel
theorem dX5_init_9 : decode cX5_init 9 = .ok (.invokespecial 13, 3) := by decide +kernel
theorem dX5_init_12 : decode cX5_init 12 = .ok (.putfield 14, 3) := by decide +kernel
theorem dX5_init_15 : decode cX5_init 15 = .ok (.aload_n 0, 1) := by decide +kernel
theorem dX5_init_16 : decode cX5_init 16 = .ok (.sipush 794, 3) := by decide +kernel
theorem dX5_init_19 : decode cX5_init 19 = .ok (.newarray .int, 2) := by decide +kernel
theorem dX5_init_21 : decode cX5_init 21 = .ok (.putfield 18, 3) := by decide +kernel
theorem dX5_init_24 : decode cX5_init 24 = .ok (.aload_n 0, 1) := by decide +kernel
theorem dX5_init_25 : decode cX5_init 25 = .ok (.bipush 9, 2) := by decide +kernel
theorem dX5_init_27 : decode cX5_init 27 = .ok (.newarray .int, 2) := by decide +kernel
theorem dX5_init_29 : decode cX5_init 29 = .ok (.putfield 22, 3) := by decide +kernel
theorem dX5_init_32 : decode cX5_init 32 = .ok (.aload_n 0, 1) := by decide +kernel
theorem dX5_init_33 : decode cX5_init 33 = .ok (.bipush 9, 2) := by decide +kernel
theorem dX5_init_35 : decode cX5_init 35 = .ok (.newarray .int, 2) := by decide +kernel
theorem dX5_init_37 : decode cX5_init 37 = .ok (.putfield 25, 3) := by decide +kernel
theorem dX5_init_40 : decode cX5_init 40 = .ok (.aload_n 0, 1) := by decide +kernel
theorem dX5_init_41 : decode cX5_init 41 = .ok (.sipush 6561, 3) := by decide +kernel
theorem dX5_init_44 : decode cX5_init 44 = .ok (.newarray .int, 2) := by decide +kernel
theorem dX5_init_46 : decode cX5_init 46 = .ok (.putfield 28, 3) := by decide +kernel
theorem dX5_init_49 : decode cX5_init 49 = .ok (.aload_n 0, 1) := by decide +kernel
theorem dX5_init_50 : decode cX5_init 50 = .ok (.sipush 6561, 3) := by decide +kernel
theorem dX5_init_53 : decode cX5_init 53 = .ok (.newarray .int, 2) := by decide +kernel
theorem dX5_init_55 : decode cX5_init 55 = .ok (.putfield 31, 3) := by decide +kernel
theorem dX5_init_58 : decode cX5_init 58 = .ok (.aload_n 0, 1) := by decide +kernel
theorem dX5_init_59 : decode cX5_init 59 = .ok (.aload_n 1, 1) := by decide +kernel
theorem dX5_init_60 : decode cX5_init 60 = .ok (.putfield 34, 3) := by decide +kernel
theorem dX5_init_63 : decode cX5_init 63 = .ok (.aload_n 0, 1) := by decide +kernel
theorem dX5_init_64 : decode cX5_init 64 = .ok (.aload_n 2, 1) := by decide +kernel
theorem dX5_init_65 : decode cX5_init 65 = .ok (.putfield 38, 3) := by decide +kernel
theorem dX5_init_68 : decode cX5_init 68 = .ok (.aload_n 0, 1) := by decide +kernel
theorem dX5_init_69 : decode cX5_init 69 = .ok (.aload_n 3, 1) := by decide +kernel
theorem dX5_init_70 : decode cX5_init 70 = .ok (.putfield 42, 3) := by decide +kernel
theorem dX5_init_73 : decode cX5_init 73 = .ok (.return_, 1) := by decide +kernel
theorem dX5_spoil_0 : decode cX5_spoil 0 = .ok (.aload_n 0, 1) := by decide +kernel
theorem dX5_spoil_1 : decode cX5_spoil 1 = .ok (.iconst 0, 1) := by decide +kernel
theorem dX5_spoil_2 : decode cX5_spoil 2 = .ok (.putfield 46, 3) := by decide +kernel
theorem dX5_spoil_5 : decode cX5_spoil 5 = .ok (.return_, 1) := by decide +kernel
theorem dX5_size_0 : decode cX5_size 0 = .ok (.aload_n 0, 1) := by decide +kernel
theorem dX5_size_1 : decode cX5_size 1 = .ok (.invokevirtual 50, 3) := by decide +kernel
theorem dX5_size_4 : decode cX5_size 4 = .ok (.aload_n 0, 1) := by decide +kernel
theorem dX5_size_5 : decode cX5_size 5 = .ok (.getfield 53, 3) := by decide +kernel
theorem dX5_size_8 : decode cX5_size 8 = .ok (.ireturn, 1) := by decide +kernel
theorem dX5_has_0 : decode cX5_has 0 = .ok (.aload_n 0, 1) := by decide +kernel
theorem dX5_has_1 : decode cX5_has 1 = .ok (.invokevirtual 50, 3) := by decide +kernel
theorem dX5_has_4 : decode cX5_has 4 = .ok (.iload_n 1, 1) := by decide +kernel
theorem dX5_has_5 : decode cX5_has 5 = .ok (.ifCond .lt 15, 3) := by decide +kernel
theorem dX5_has_8 : decode cX5_has 8 = .ok (.iload_n 1, 1) := by decide +kernel
theorem dX5_has_9 : decode cX5_has 9 = .ok (.aload_n 0, 1) := by decide +kernel
theorem dX5_has_10 : decode cX5_has 10 = .ok (.getfield 53, 3) := by decide +kernel
theorem dX5_has_13 : decode cX5_has 13 = .ok (.if_icmp .ge 7, 3) := by decide +kernel
theorem dX5_has_16 : decode cX5_has 16 = .ok (.iconst 1, 1) := by decide +kernel
theorem dX5_has_17 : decode cX5_has 17 = .ok (.goto 4, 3) := by decide +kernel
theorem dX5_has_20 : decode cX5_has 20 = .ok (.iconst 0, 1) := by decide +kernel
theorem dX5_has_21 : decode cX5_has 21 = .ok (.ireturn, 1) := by decide +kernel
theorem dX5_costAt_0 : decode cX5_costAt 0 = .ok (.aload_n 0, 1) := by decide +kernel
theorem dX5_costAt_1 : decode cX5_costAt 1 = .ok (.getfield 28, 3) := by decide +kernel
theorem dX5_costAt_4 : decode cX5_costAt 4 = .ok (.iload_n 1, 1) := by decide +kernel
theorem dX5_costAt_5 : decode cX5_costAt 5 = .ok (.iaload, 1) := by decide +kernel
theorem dX5_costAt_6 : decode cX5_costAt 6 = .ok (.bipush 16, 2) := by decide +kernel
theorem dX5_costAt_8 : decode cX5_costAt 8 = .ok (.ishr, 1) := by decide +kernel
theorem dX5_costAt_9 : decode cX5_costAt 9 = .ok (.ireturn, 1) := by decide +kernel
theorem dX5_meaningAt_0 : decode cX5_meaningAt 0 = .ok (.aload_n 0, 1) := by decide +kernel
theorem dX5_meaningAt_1 : decode cX5_meaningAt 1 = .ok (.getfield 42, 3) := by decide +kernel
theorem dX5_meaningAt_4 : decode cX5_meaningAt 4 = .ok (.iload_n 2, 1) := by decide +kernel
theorem dX5_meaningAt_5 : decode cX5_meaningAt 5 = .ok (.invokevirtual 57, 3) := by decide +kernel
theorem dX5_meaningAt_8 : decode cX5_meaningAt 8 = .ok (.ifCond .eq 7, 3) := by decide +kernel
theorem dX5_meaningAt_11 : decode cX5_meaningAt 11 = .ok (.iconst (-1), 1) := by decide +kernel
theorem dX5_meaningAt_12 : decode cX5_meaningAt 12 = .ok (.goto 13, 3) := by decide +kernel
theorem dX5_meaningAt_15 : decode cX5_meaningAt 15 = .ok (.aload_n 0, 1) := by decide +kernel
theorem dX5_meaningAt_16 : decode cX5_meaningAt 16 = .ok (.getfield 28, 3) := by decide +kernel
theorem dX5_meaningAt_19 : decode cX5_meaningAt 19 = .ok (.iload_n 1, 1) := by decide +kernel
theorem dX5_meaningAt_20 : decode cX5_meaningAt 20 = .ok (.iaload, 1) := by decide +kernel
theorem dX5_meaningAt_21 : decode cX5_meaningAt 21 = .ok (.iload_n 2, 1) := by decide +kernel
theorem dX5_meaningAt_22 : decode cX5_meaningAt 22 = .ok (.invokestatic 63, 3) := by decide +kernel
theorem dX5_meaningAt_25 : decode cX5_meaningAt 25 = .ok (.ireturn, 1) := by decide +kernel
theorem dX5_formOf_0 : decode cX5_formOf 0 = .ok (.aload_n 0, 1) := by decide +kernel
theorem dX5_formOf_1 : decode cX5_formOf 1 = .ok (.aload_n 0, 1) := by decide +kernel
theorem dX5_formOf_2 : decode cX5_formOf 2 = .ok (.getfield 28, 3) := by decide +kernel
theorem dX5_formOf_5 : decode cX5_formOf 5 = .ok (.iload_n 1, 1) := by decide +kernel
theorem dX5_formOf_6 : decode cX5_formOf 6 = .ok (.iaload, 1) := by decide +kernel
theorem dX5_formOf_7 : decode cX5_formOf 7 = .ok (.invokevirtual 67, 3) := by decide +kernel
theorem dX5_formOf_10 : decode cX5_formOf 10 = .ok (.aload_n 0, 1) := by decide +kernel
theorem dX5_formOf_11 : decode cX5_formOf 11 = .ok (.getfield 14, 3) := by decide +kernel
theorem dX5_formOf_14 : decode cX5_formOf 14 = .ok (.areturn, 1) := by decide +kernel
theorem dX5_near_0 : decode cX5_near 0 = .ok (.aload_n 0, 1) := by decide +kernel
theorem dX5_near_1 : decode cX5_near 1 = .ok (.invokevirtual 50, 3) := by decide +kernel
theorem dX5_near_4 : decode cX5_near 4 = .ok (.iconst 0, 1) := by decide +kernel
theorem dX5_near_5 : decode cX5_near 5 = .ok (.istore_n 2, 1) := by decide +kernel
theorem dX5_near_6 : decode cX5_near 6 = .ok (.iload_n 2, 1) := by decide +kernel
theorem dX5_near_7 : decode cX5_near 7 = .ok (.aload_n 0, 1) := by decide +kernel
theorem dX5_near_8 : decode cX5_near 8 = .ok (.getfield 53, 3) := by decide +kernel
theorem dX5_near_11 : decode cX5_near 11 = .ok (.if_icmp .ge 24, 3) := by decide +kernel
theorem dX5_near_14 : decode cX5_near 14 = .ok (.aload_n 0, 1) := by decide +kernel
theorem dX5_near_15 : decode cX5_near 15 = .ok (.iload_n 2, 1) := by decide +kernel
theorem dX5_near_16 : decode cX5_near 16 = .ok (.invokevirtual 71, 3) := by decide +kernel
theorem dX5_near_19 : decode cX5_near 19 = .ok (.aload_n 0, 1) := by decide +kernel
theorem dX5_near_20 : decode cX5_near 20 = .ok (.iconst 0, 1) := by decide +kernel
theorem dX5_near_21 : decode cX5_near 21 = .ok (.invokevirtual 71, 3) := by decide +kernel
theorem dX5_near_24 : decode cX5_near 24 = .ok (.iload_n 1, 1) := by decide +kernel
theorem dX5_near_25 : decode cX5_near 25 = .ok (.iadd, 1) := by decide +kernel
theorem dX5_near_26 : decode cX5_near 26 = .ok (.if_icmp .gt 9, 3) := by decide +kernel
theorem dX5_near_29 : decode cX5_near 29 = .ok (.iinc 2 1, 3) := by decide +kernel
theorem dX5_near_32 : decode cX5_near 32 = .ok (.goto (-26), 3) := by decide +kernel
theorem dX5_near_35 : decode cX5_near 35 = .ok (.iload_n 2, 1) := by decide +kernel
theorem dX5_near_36 : decode cX5_near 36 = .ok (.ireturn, 1) := by decide +kernel
theorem dX5_refresh_0 : decode cX5_refresh 0 = .ok (.aload_n 0, 1) := by decide +kernel
theorem dX5_refresh_1 : decode cX5_refresh 1 = .ok (.getfield 46, 3) := by decide +kernel
theorem dX5_refresh_4 : decode cX5_refresh 4 = .ok (.ifCond .eq 4, 3) := by decide +kernel
theorem dX5_refresh_7 : decode cX5_refresh 7 = .ok (.return_, 1) := by decide +kernel
theorem dX5_refresh_8 : decode cX5_refresh 8 = .ok (.aload_n 0, 1) := by decide +kernel
theorem dX5_refresh_9 : decode cX5_refresh 9 = .ok (.iconst 1, 1) := by decide +kernel
theorem dX5_refresh_10 : decode cX5_refresh 10 = .ok (.putfield 46, 3) := by decide +kernel
theorem dX5_refresh_13 : decode cX5_refresh 13 = .ok (.aload_n 0, 1) := by decide +kernel
theorem dX5_refresh_14 : decode cX5_refresh 14 = .ok (.aload_n 0, 1) := by decide +kernel
theorem dX5_refresh_15 : decode cX5_refresh 15 = .ok (.aload_n 0, 1) := by decide +kernel
theorem dX5_refresh_16 : decode cX5_refresh 16 = .ok (.invokevirtual 75, 3) := by decide +kernel
theorem dX5_refresh_19 : decode cX5_refresh 19 = .ok (.invokevirtual 79, 3) := by decide +kernel
theorem dX5_refresh_22 : decode cX5_refresh 22 = .ok (.putfield 53, 3) := by decide +kernel
theorem dX5_refresh_25 : decode cX5_refresh 25 = .ok (.aload_n 0, 1) := by decide +kernel
theorem dX5_refresh_26 : decode cX5_refresh 26 = .ok (.invokevirtual 82, 3) := by decide +kernel
theorem dX5_refresh_29 : decode cX5_refresh 29 = .ok (.return_, 1) := by decide +kernel
theorem dX5_growKeys_0 : decode cX5_growKeys 0 = .ok (.aload_n 0, 1) := by decide +kernel
theorem dX5_growKeys_1 : decode cX5_growKeys 1 = .ok (.getfield 28, 3) := by decide +kernel
theorem dX5_growKeys_4 : decode cX5_growKeys 4 = .ok (.iconst 0, 1) := by decide +kernel
theorem dX5_growKeys_5 : decode cX5_growKeys 5 = .ok (.iconst 0, 1) := by decide +kernel
theorem dX5_growKeys_6 : decode cX5_growKeys 6 = .ok (.iastore, 1) := by decide +kernel
theorem dX5_growKeys_7 : decode cX5_growKeys 7 = .ok (.iconst 1, 1) := by decide +kernel
theorem dX5_growKeys_8 : decode cX5_growKeys 8 = .ok (.istore_n 1, 1) := by decide +kernel
theorem dX5_growKeys_9 : decode cX5_growKeys 9 = .ok (.iconst 0, 1) := by decide +kernel
theorem dX5_growKeys_10 : decode cX5_growKeys 10 = .ok (.istore_n 2, 1) := by decide +kernel
theorem dX5_growKeys_11 : decode cX5_growKeys 11 = .ok (.iload_n 2, 1) := by decide +kernel
theorem dX5_growKeys_12 : decode cX5_growKeys 12 = .ok (.aload_n 0, 1) := by decide +kernel
theorem dX5_growKeys_13 : decode cX5_growKeys 13 = .ok (.getfield 42, 3) := by decide +kernel
theorem dX5_growKeys_16 : decode cX5_growKeys 16 = .ok (.invokevirtual 85, 3) := by decide +kernel
theorem dX5_growKeys_19 : decode cX5_growKeys 19 = .ok (.if_icmp .ge 36, 3) := by decide +kernel
theorem dX5_growKeys_22 : decode cX5_growKeys 22 = .ok (.aload_n 0, 1) := by decide +kernel
theorem dX5_growKeys_23 : decode cX5_growKeys 23 = .ok (.getfield 42, 3) := by decide +kernel
theorem dX5_growKeys_26 : decode cX5_growKeys 26 = .ok (.iload_n 2, 1) := by decide +kernel
theorem dX5_growKeys_27 : decode cX5_growKeys 27 = .ok (.invokevirtual 57, 3) := by decide +kernel
theorem dX5_growKeys_30 : decode cX5_growKeys 30 = .ok (.ifCond .eq 12, 3) := by decide +kernel
theorem dX5_growKeys_33 : decode cX5_growKeys 33 = .ok (.aload_n 0, 1) := by decide +kernel
theorem dX5_growKeys_34 : decode cX5_growKeys 34 = .ok (.iload_n 2, 1) := by decide +kernel
theorem dX5_growKeys_35 : decode cX5_growKeys 35 = .ok (.iload_n 1, 1) := by decide +kernel
theorem dX5_growKeys_36 : decode cX5_growKeys 36 = .ok (.invokevirtual 87, 3) := by decide +kernel
theorem dX5_growKeys_39 : decode cX5_growKeys 39 = .ok (.goto 9, 3) := by decide +kernel
theorem dX5_growKeys_42 : decode cX5_growKeys 42 = .ok (.aload_n 0, 1) := by decide +kernel
theorem dX5_growKeys_43 : decode cX5_growKeys 43 = .ok (.iload_n 2, 1) := by decide +kernel
theorem dX5_growKeys_44 : decode cX5_growKeys 44 = .ok (.iload_n 1, 1) := by decide +kernel
theorem dX5_growKeys_45 : decode cX5_growKeys 45 = .ok (.invokevirtual 90, 3) := by decide +kernel
theorem dX5_growKeys_48 : decode cX5_growKeys 48 = .ok (.istore_n 1, 1) := by decide +kernel
theorem dX5_growKeys_49 : decode cX5_growKeys 49 = .ok (.iinc 2 1, 3) := by decide +kernel
theorem dX5_growKeys_52 : decode cX5_growKeys 52 = .ok (.goto (-41), 3) := by decide +kernel
theorem dX5_growKeys_55 : decode cX5_growKeys 55 = .ok (.iload_n 1, 1) := by decide +kernel
theorem dX5_growKeys_56 : decode cX5_growKeys 56 = .ok (.ireturn, 1) := by decide +kernel
theorem dX5_passNumber_0 : decode cX5_passNumber 0 = .ok (.iconst 0, 1) := by decide +kernel
theorem dX5_passNumber_1 : decode cX5_passNumber 1 = .ok (.istore_n 3, 1) := by decide +kernel
theorem dX5_passNumber_2 : decode cX5_passNumber 2 = .ok (.iconst 0, 1) := by decide +kernel
theorem dX5_passNumber_3 : decode cX5_passNumber 3 = .ok (.istore 4, 2) := by decide +kernel
theorem dX5_passNumber_5 : decode cX5_passNumber 5 = .ok (.iload 4, 2) := by decide +kernel
theorem dX5_passNumber_7 : decode cX5_passNumber 7 = .ok (.iload_n 2, 1) := by decide +kernel
theorem dX5_passNumber_8 : decode cX5_passNumber 8 = .ok (.if_icmp .ge 43, 3) := by decide +kernel
theorem dX5_passNumber_11 : decode cX5_passNumber 11 = .ok (.aload_n 0, 1) := by decide +kernel
theorem dX5_passNumber_12 : decode cX5_passNumber 12 = .ok (.aload_n 0, 1) := by decide +kernel
theorem dX5_passNumber_13 : decode cX5_passNumber 13 = .ok (.getfield 28, 3) := by decide +kernel
theorem dX5_passNumber_16 : decode cX5_passNumber 16 = .ok (.iload 4, 2) := by decide +kernel
theorem dX5_passNumber_18 : decode cX5_passNumber 18 = .ok (.iaload, 1) := by decide +kernel
theorem dX5_passNumber_19 : decode cX5_passNumber 19 = .ok (.iload_n 1, 1) := by decide +kernel
theorem dX5_passNumber_20 : decode cX5_passNumber 20 = .ok (.iconst 1, 1) := by decide +kernel
theorem dX5_passNumber_21 : decode cX5_passNumber 21 = .ok (.isub, 1) := by decide +kernel
theorem dX5_passNumber_22 : decode cX5_passNumber 22 = .ok (.iconst 4, 1) := by decide +kernel
theorem dX5_passNumber_23 : decode cX5_passNumber 23 = .ok (.invokevirtual 93, 3) := by decide +kernel
theorem dX5_passNumber_26 : decode cX5_passNumber 26 = .ok (.ifCond .eq 19, 3) := by decide +kernel
theorem dX5_passNumber_29 : decode cX5_passNumber 29 = .ok (.aload_n 0, 1) := by decide +kernel
theorem dX5_passNumber_30 : decode cX5_passNumber 30 = .ok (.getfield 28, 3) := by decide +kernel
theorem dX5_passNumber_33 : decode cX5_passNumber 33 = .ok (.iload_n 3, 1) := by decide +kernel
theorem dX5_passNumber_34 : decode cX5_passNumber 34 = .ok (.aload_n 0, 1) := by decide +kernel
theorem dX5_passNumber_35 : decode cX5_passNumber 35 = .ok (.getfield 28, 3) := by decide +kernel
theorem dX5_passNumber_38 : decode cX5_passNumber 38 = .ok (.iload 4, 2) := by decide +kernel
theorem dX5_passNumber_40 : decode cX5_passNumber 40 = .ok (.iaload, 1) := by decide +kernel
theorem dX5_passNumber_41 : decode cX5_passNumber 41 = .ok (.iastore, 1) := by decide +kernel
theorem dX5_passNumber_42 : decode cX5_passNumber 42 = .ok (.iinc 3 1, 3) := by decide +kernel
theorem dX5_passNumber_45 : decode cX5_passNumber 45 = .ok (.iinc 4 1, 3) := by decide +kernel
theorem dX5_passNumber_48 : decode cX5_passNumber 48 = .ok (.goto (-43), 3) := by decide +kernel
theorem dX5_passNumber_51 : decode cX5_passNumber 51 = .ok (.iload_n 3, 1) := by decide +kernel
theorem dX5_passNumber_52 : decode cX5_passNumber 52 = .ok (.ireturn, 1) := by decide +kernel
theorem dX5_growByWord_0 : decode cX5_growByWord 0 = .ok (.aload_n 0, 1) := by decide +kernel
theorem dX5_growByWord_1 : decode cX5_growByWord 1 = .ok (.getfield 42, 3) := by decide +kernel
theorem dX5_growByWord_4 : decode cX5_growByWord 4 = .ok (.iload_n 1, 1) := by decide +kernel
theorem dX5_growByWord_5 : decode cX5_growByWord 5 = .ok (.invokevirtual 97, 3) := by decide +kernel
theorem dX5_growByWord_8 : decode cX5_growByWord 8 = .ok (.istore_n 3, 1) := by decide +kernel
theorem dX5_growByWord_9 : decode cX5_growByWord 9 = .ok (.aload_n 0, 1) := by decide +kernel
theorem dX5_growByWord_10 : decode cX5_growByWord 10 = .ok (.getfield 42, 3) := by decide +kernel
theorem dX5_growByWord_13 : decode cX5_growByWord 13 = .ok (.iload_n 1, 1) := by decide +kernel
theorem dX5_growByWord_14 : decode cX5_growByWord 14 = .ok (.iconst 1, 1) := by decide +kernel
theorem dX5_growByWord_15 : decode cX5_growByWord 15 = .ok (.iadd, 1) := by decide +kernel
theorem dX5_growByWord_16 : decode cX5_growByWord 16 = .ok (.invokevirtual 57, 3) := by decide +kernel
theorem dX5_growByWord_19 : decode cX5_growByWord 19 = .ok (.istore 4, 2) := by decide +kernel
theorem dX5_growByWord_21 : decode cX5_growByWord 21 = .ok (.iconst 0, 1) := by decide +kernel
theorem dX5_growByWord_22 : decode cX5_growByWord 22 = .ok (.istore 5, 2) := by decide +kernel
theorem dX5_growByWord_24 : decode cX5_growByWord 24 = .ok (.iconst 0, 1) := by decide +kernel
theorem dX5_growByWord_25 : decode cX5_growByWord 25 = .ok (.istore 6, 2) := by decide +kernel
theorem dX5_growByWord_27 : decode cX5_growByWord 27 = .ok (.iload 6, 2) := by decide +kernel
theorem dX5_growByWord_29 : decode cX5_growByWord 29 = .ok (.iload_n 2, 1) := by decide +kernel
theorem dX5_growByWord_30 : decode cX5_growByWord 30 = .ok (.if_icmp .ge 132, 3) := by decide +kernel
theorem dX5_growByWord_33 : decode cX5_growByWord 33 = .ok (.iload 4, 2) := by decide +kernel
theorem dX5_growByWord_35 : decode cX5_growByWord 35 = .ok (.ifCond .eq 25, 3) := by decide +kernel
theorem dX5_growByWord_38 : decode cX5_growByWord 38 = .ok (.aload_n 0, 1) := by decide +kernel
theorem dX5_growByWord_39 : decode cX5_growByWord 39 = .ok (.aload_n 0, 1) := by decide +kernel
theorem dX5_growByWord_40 : decode cX5_growByWord 40 = .ok (.getfield 28, 3) := by decide +kernel
theorem dX5_growByWord_43 : decode cX5_growByWord 43 = .ok (.iload 6, 2) := by decide +kernel
theorem dX5_growByWord_45 : decode cX5_growByWord 45 = .ok (.iaload, 1) := by decide +kernel
theorem dX5_growByWord_46 : decode cX5_growByWord 46 = .ok (.iload_n 1, 1) := by decide +kernel
theorem dX5_growByWord_47 : decode cX5_growByWord 47 = .ok (.iconst 1, 1) := by decide +kernel
theorem dX5_growByWord_48 : decode cX5_growByWord 48 = .ok (.isub, 1) := by decide +kernel
theorem dX5_growByWord_49 : decode cX5_growByWord 49 = .ok (.iconst 1, 1) := by decide +kernel
theorem dX5_growByWord_50 : decode cX5_growByWord 50 = .ok (.invokevirtual 93, 3) := by decide +kernel
theorem dX5_growByWord_53 : decode cX5_growByWord 53 = .ok (.ifCond .eq 7, 3) := by decide +kernel
theorem dX5_growByWord_56 : decode cX5_growByWord 56 = .ok (.iconst 1, 1) := by decide +kernel
theorem dX5_growByWord_57 : decode cX5_growByWord 57 = .ok (.goto 4, 3) := by decide +kernel
theorem dX5_growByWord_60 : decode cX5_growByWord 60 = .ok (.iconst 0, 1) := by decide +kernel
theorem dX5_growByWord_61 : decode cX5_growByWord 61 = .ok (.istore 7, 2) := by decide +kernel
theorem dX5_growByWord_63 : decode cX5_growByWord 63 = .ok (.iconst 0, 1) := by decide +kernel
theorem dX5_growByWord_64 : decode cX5_growByWord 64 = .ok (.istore 8, 2) := by decide +kernel
theorem dX5_growByWord_66 : decode cX5_growByWord 66 = .ok (.iload 8, 2) := by decide +kernel
theorem dX5_growByWord_68 : decode cX5_growByWord 68 = .ok (.aload_n 0, 1) := by decide +kernel
theorem dX5_growByWord_69 : decode cX5_growByWord 69 = .ok (.getfield 38, 3) := by decide +kernel
theorem dX5_growByWord_72 : decode cX5_growByWord 72 = .ok (.iload_n 3, 1) := by decide +kernel
theorem dX5_growByWord_73 : decode cX5_growByWord 73 = .ok (.invokevirtual 100, 3) := by decide +kernel
theorem dX5_growByWord_76 : decode cX5_growByWord 76 = .ok (.if_icmp .ge 80, 3) := by decide +kernel
theorem dX5_growByWord_79 : decode cX5_growByWord 79 = .ok (.iload 5, 2) := by decide +kernel
theorem dX5_growByWord_81 : decode cX5_growByWord 81 = .ok (.sipush 6561, 3) := by decide +kernel
theorem dX5_growByWord_84 : decode cX5_growByWord 84 = .ok (.if_icmp .ge 72, 3) := by decide +kernel
theorem dX5_growByWord_87 : decode cX5_growByWord 87 = .ok (.aload_n 0, 1) := by decide +kernel
theorem dX5_growByWord_88 : decode cX5_growByWord 88 = .ok (.getfield 38, 3) := by decide +kernel
theorem dX5_growByWord_91 : decode cX5_growByWord 91 = .ok (.iload_n 3, 1) := by decide +kernel
theorem dX5_growByWord_92 : decode cX5_growByWord 92 = .ok (.iload 8, 2) := by decide +kernel
theorem dX5_growByWord_94 : decode cX5_growByWord 94 = .ok (.invokevirtual 105, 3) := by decide +kernel
theorem dX5_growByWord_97 : decode cX5_growByWord 97 = .ok (.istore 9, 2) := by decide +kernel
theorem dX5_growByWord_99 : decode cX5_growByWord 99 = .ok (.iload 7, 2) := by decide +kernel
theorem dX5_growByWord_101 : decode cX5_growByWord 101 = .ok (.ifCond .ne 16, 3) := by decide +kernel
theorem dX5_growByWord_104 : decode cX5_growByWord 104 = .ok (.aload_n 0, 1) := by decide +kernel
theorem dX5_growByWord_105 : decode cX5_growByWord 105 = .ok (.getfield 38, 3) := by decide +kernel
theorem dX5_growByWord_108 : decode cX5_growByWord 108 = .ok (.iload 9, 2) := by decide +kernel
theorem dX5_growByWord_110 : decode cX5_growByWord 110 = .ok (.invokevirtual 108, 3) := by decide +kernel
theorem dX5_growByWord_113 : decode cX5_growByWord 113 = .ok (.iconst 4, 1) := by decide +kernel
theorem dX5_growByWord_114 : decode cX5_growByWord 114 = .ok (.if_icmp .eq 36, 3) := by decide +kernel
theorem dX5_growByWord_117 : decode cX5_growByWord 117 = .ok (.aload_n 0, 1) := by decide +kernel
theorem dX5_growByWord_118 : decode cX5_growByWord 118 = .ok (.getfield 31, 3) := by decide +kernel
theorem dX5_growByWord_121 : decode cX5_growByWord 121 = .ok (.iload 5, 2) := by decide +kernel
theorem dX5_growByWord_123 : decode cX5_growByWord 123 = .ok (.aload_n 0, 1) := by decide +kernel
theorem dX5_growByWord_124 : decode cX5_growByWord 124 = .ok (.getfield 28, 3) := by decide +kernel
theorem dX5_growByWord_127 : decode cX5_growByWord 127 = .ok (.iload 6, 2) := by decide +kernel
theorem dX5_growByWord_129 : decode cX5_growByWord 129 = .ok (.iaload, 1) := by decide +kernel
theorem dX5_growByWord_130 : decode cX5_growByWord 130 = .ok (.iload_n 1, 1) := by decide +kernel
theorem dX5_growByWord_131 : decode cX5_growByWord 131 = .ok (.iload 8, 2) := by decide +kernel
theorem dX5_growByWord_133 : decode cX5_growByWord 133 = .ok (.aload_n 0, 1) := by decide +kernel
theorem dX5_growByWord_134 : decode cX5_growByWord 134 = .ok (.getfield 38, 3) := by decide +kernel
theorem dX5_growByWord_137 : decode cX5_growByWord 137 = .ok (.iload 9, 2) := by decide +kernel
theorem dX5_growByWord_139 : decode cX5_growByWord 139 = .ok (.invokevirtual 111, 3) := by decide +kernel
theorem dX5_growByWord_142 : decode cX5_growByWord 142 = .ok (.invokestatic 112, 3) := by decide +kernel
theorem dX5_growByWord_145 : decode cX5_growByWord 145 = .ok (.iadd, 1) := by decide +kernel
theorem dX5_growByWord_146 : decode cX5_growByWord 146 = .ok (.iastore, 1) := by decide +kernel
theorem dX5_growByWord_147 : decode cX5_growByWord 147 = .ok (.iinc 5 1, 3) := by decide +kernel
theorem dX5_growByWord_150 : decode cX5_growByWord 150 = .ok (.iinc 8 1, 3) := by decide +kernel
theorem dX5_growByWord_153 : decode cX5_growByWord 153 = .ok (.goto (-87), 3) := by decide +kernel
theorem dX5_growByWord_156 : decode cX5_growByWord 156 = .ok (.iinc 6 1, 3) := by decide +kernel
theorem dX5_growByWord_159 : decode cX5_growByWord 159 = .ok (.goto (-132), 3) := by decide +kernel
theorem dX5_growByWord_162 : decode cX5_growByWord 162 = .ok (.aload_n 0, 1) := by decide +kernel
theorem dX5_growByWord_163 : decode cX5_growByWord 163 = .ok (.invokevirtual 116, 3) := by decide +kernel
theorem dX5_growByWord_166 : decode cX5_growByWord 166 = .ok (.iload 5, 2) := by decide +kernel
theorem dX5_growByWord_168 : decode cX5_growByWord 168 = .ok (.ireturn, 1) := by decide +kernel
theorem dX5_hasSort_0 : decode cX5_hasSort 0 = .ok (.aload_n 0, 1) := by decide +kernel
theorem dX5_hasSort_1 : decode cX5_hasSort 1 = .ok (.getfield 42, 3) := by decide +kernel
theorem dX5_hasSort_4 : decode cX5_hasSort 4 = .ok (.iload_n 2, 1) := by decide +kernel
theorem dX5_hasSort_5 : decode cX5_hasSort 5 = .ok (.invokevirtual 119, 3) := by decide +kernel
theorem dX5_hasSort_8 : decode cX5_hasSort 8 = .ok (.ifCond .eq 38, 3) := by decide +kernel
theorem dX5_hasSort_11 : decode cX5_hasSort 11 = .ok (.aload_n 0, 1) := by decide +kernel
theorem dX5_hasSort_12 : decode cX5_hasSort 12 = .ok (.getfield 38, 3) := by decide +kernel
theorem dX5_hasSort_15 : decode cX5_hasSort 15 = .ok (.aload_n 0, 1) := by decide +kernel
theorem dX5_hasSort_16 : decode cX5_hasSort 16 = .ok (.getfield 38, 3) := by decide +kernel
theorem dX5_hasSort_19 : decode cX5_hasSort 19 = .ok (.aload_n 0, 1) := by decide +kernel
theorem dX5_hasSort_20 : decode cX5_hasSort 20 = .ok (.getfield 42, 3) := by decide +kernel
theorem dX5_hasSort_23 : decode cX5_hasSort 23 = .ok (.iload_n 2, 1) := by decide +kernel
theorem dX5_hasSort_24 : decode cX5_hasSort 24 = .ok (.invokevirtual 97, 3) := by decide +kernel
theorem dX5_hasSort_27 : decode cX5_hasSort 27 = .ok (.iload_n 1, 1) := by decide +kernel
theorem dX5_hasSort_28 : decode cX5_hasSort 28 = .ok (.iload_n 2, 1) := by decide +kernel
theorem dX5_hasSort_29 : decode cX5_hasSort 29 = .ok (.invokestatic 63, 3) := by decide +kernel
theorem dX5_hasSort_32 : decode cX5_hasSort 32 = .ok (.invokevirtual 105, 3) := by decide +kernel
theorem dX5_hasSort_35 : decode cX5_hasSort 35 = .ok (.invokevirtual 108, 3) := by decide +kernel
theorem dX5_hasSort_38 : decode cX5_hasSort 38 = .ok (.iload_n 3, 1) := by decide +kernel
theorem dX5_hasSort_39 : decode cX5_hasSort 39 = .ok (.if_icmp .ne 7, 3) := by decide +kernel
theorem dX5_hasSort_42 : decode cX5_hasSort 42 = .ok (.iconst 1, 1) := by decide +kernel
theorem dX5_hasSort_43 : decode cX5_hasSort 43 = .ok (.goto 4, 3) := by decide +kernel
theorem dX5_hasSort_46 : decode cX5_hasSort 46 = .ok (.iconst 0, 1) := by decide +kernel
theorem dX5_hasSort_47 : decode cX5_hasSort 47 = .ok (.ireturn, 1) := by decide +kernel
theorem dX5_keepStanding_0 : decode cX5_keepStanding 0 = .ok (.iconst 0, 1) := by decide +kernel
theorem dX5_keepStanding_1 : decode cX5_keepStanding 1 = .ok (.istore_n 2, 1) := by decide +kernel
theorem dX5_keepStanding_2 : decode cX5_keepStanding 2 = .ok (.iconst 0, 1) := by decide +kernel
theorem dX5_keepStanding_3 : decode cX5_keepStanding 3 = .ok (.istore_n 3, 1) := by decide +kernel
theorem dX5_keepStanding_4 : decode cX5_keepStanding 4 = .ok (.iload_n 3, 1) := by decide +kernel
theorem dX5_keepStanding_5 : decode cX5_keepStanding 5 = .ok (.iload_n 1, 1) := by decide +kernel
theorem dX5_keepStanding_6 : decode cX5_keepStanding 6 = .ok (.if_icmp .ge 48, 3) := by decide +kernel
theorem dX5_keepStanding_9 : decode cX5_keepStanding 9 = .ok (.aload_n 0, 1) := by decide +kernel
theorem dX5_keepStanding_10 : decode cX5_keepStanding 10 = .ok (.aload_n 0, 1) := by decide +kernel
theorem dX5_keepStanding_11 : decode cX5_keepStanding 11 = .ok (.getfield 28, 3) := by decide +kernel
theorem dX5_keepStanding_14 : decode cX5_keepStanding 14 = .ok (.iload_n 3, 1) := by decide +kernel
theorem dX5_keepStanding_15 : decode cX5_keepStanding 15 = .ok (.iaload, 1) := by decide +kernel
theorem dX5_keepStanding_16 : decode cX5_keepStanding 16 = .ok (.invokevirtual 67, 3) := by decide +kernel
theorem dX5_keepStanding_19 : decode cX5_keepStanding 19 = .ok (.aload_n 0, 1) := by decide +kernel
theorem dX5_keepStanding_20 : decode cX5_keepStanding 20 = .ok (.getfield 14, 3) := by decide +kernel
theorem dX5_keepStanding_23 : decode cX5_keepStanding 23 = .ok (.aload_n 0, 1) := by decide +kernel
theorem dX5_keepStanding_24 : decode cX5_keepStanding 24 = .ok (.getfield 34, 3) := by decide +kernel
theorem dX5_keepStanding_27 : decode cX5_keepStanding 27 = .ok (.invokevirtual 122, 3) := by decide +kernel
theorem dX5_keepStanding_30 : decode cX5_keepStanding 30 = .ok (.ifCond .eq 18, 3) := by decide +kernel
theorem dX5_keepStanding_33 : decode cX5_keepStanding 33 = .ok (.aload_n 0, 1) := by decide +kernel
theorem dX5_keepStanding_34 : decode cX5_keepStanding 34 = .ok (.getfield 28, 3) := by decide +kernel
theorem dX5_keepStanding_37 : decode cX5_keepStanding 37 = .ok (.iload_n 2, 1) := by decide +kernel
theorem dX5_keepStanding_38 : decode cX5_keepStanding 38 = .ok (.aload_n 0, 1) := by decide +kernel
theorem dX5_keepStanding_39 : decode cX5_keepStanding 39 = .ok (.getfield 28, 3) := by decide +kernel
theorem dX5_keepStanding_42 : decode cX5_keepStanding 42 = .ok (.iload_n 3, 1) := by decide +kernel
theorem dX5_keepStanding_43 : decode cX5_keepStanding 43 = .ok (.iaload, 1) := by decide +kernel
theorem dX5_keepStanding_44 : decode cX5_keepStanding 44 = .ok (.iastore, 1) := by decide +kernel
theorem dX5_keepStanding_45 : decode cX5_keepStanding 45 = .ok (.iinc 2 1, 3) := by decide +kernel
theorem dX5_keepStanding_48 : decode cX5_keepStanding 48 = .ok (.iinc 3 1, 3) := by decide +kernel
theorem dX5_keepStanding_51 : decode cX5_keepStanding 51 = .ok (.goto (-47), 3) := by decide +kernel
theorem dX5_keepStanding_54 : decode cX5_keepStanding 54 = .ok (.iload_n 2, 1) := by decide +kernel
theorem dX5_keepStanding_55 : decode cX5_keepStanding 55 = .ok (.ireturn, 1) := by decide +kernel
theorem dX5_sortByCost_0 : decode cX5_sortByCost 0 = .ok (.aload_n 0, 1) := by decide +kernel
theorem dX5_sortByCost_1 : decode cX5_sortByCost 1 = .ok (.getfield 18, 3) := by decide +kernel
theorem dX5_sortByCost_4 : decode cX5_sortByCost 4 = .ok (.iconst 0, 1) := by decide +kernel
theorem dX5_sortByCost_5 : decode cX5_sortByCost 5 = .ok (.invokestatic 126, 3) := by decide +kernel
theorem dX5_sortByCost_8 : decode cX5_sortByCost 8 = .ok (.iconst 0, 1) := by decide +kernel
theorem dX5_sortByCost_9 : decode cX5_sortByCost 9 = .ok (.istore_n 1, 1) := by decide +kernel
theorem dX5_sortByCost_10 : decode cX5_sortByCost 10 = .ok (.iload_n 1, 1) := by decide +kernel
theorem dX5_sortByCost_11 : decode cX5_sortByCost 11 = .ok (.aload_n 0, 1) := by decide +kernel
theorem dX5_sortByCost_12 : decode cX5_sortByCost 12 = .ok (.getfield 53, 3) := by decide +kernel
theorem dX5_sortByCost_15 : decode cX5_sortByCost 15 = .ok (.if_icmp .ge 25, 3) := by decide +kernel
theorem dX5_sortByCost_18 : decode cX5_sortByCost 18 = .ok (.aload_n 0, 1) := by decide +kernel
theorem dX5_sortByCost_19 : decode cX5_sortByCost 19 = .ok (.getfield 18, 3) := by decide +kernel
theorem dX5_sortByCost_22 : decode cX5_sortByCost 22 = .ok (.aload_n 0, 1) := by decide +kernel
theorem dX5_sortByCost_23 : decode cX5_sortByCost 23 = .ok (.iload_n 1, 1) := by decide +kernel
theorem dX5_sortByCost_24 : decode cX5_sortByCost 24 = .ok (.invokevirtual 71, 3) := by decide +kernel
theorem dX5_sortByCost_27 : decode cX5_sortByCost 27 = .ok (.iconst 1, 1) := by decide +kernel
theorem dX5_sortByCost_28 : decode cX5_sortByCost 28 = .ok (.iadd, 1) := by decide +kernel
theorem dX5_sortByCost_29 : decode cX5_sortByCost 29 = .ok (.dup2, 1) := by decide +kernel
theorem dX5_sortByCost_30 : decode cX5_sortByCost 30 = .ok (.iaload, 1) := by decide +kernel
theorem dX5_sortByCost_31 : decode cX5_sortByCost 31 = .ok (.iconst 1, 1) := by decide +kernel
theorem dX5_sortByCost_32 : decode cX5_sortByCost 32 = .ok (.iadd, 1) := by decide +kernel
theorem dX5_sortByCost_33 : decode cX5_sortByCost 33 = .ok (.iastore, 1) := by decide +kernel
theorem dX5_sortByCost_34 : decode cX5_sortByCost 34 = .ok (.iinc 1 1, 3) := by decide +kernel
theorem dX5_sortByCost_37 : decode cX5_sortByCost 37 = .ok (.goto (-27), 3) := by decide +kernel
theorem dX5_sortByCost_40 : decode cX5_sortByCost 40 = .ok (.iconst 1, 1) := by decide +kernel
theorem dX5_sortByCost_41 : decode cX5_sortByCost 41 = .ok (.istore_n 1, 1) := by decide +kernel
theorem dX5_sortByCost_42 : decode cX5_sortByCost 42 = .ok (.iload_n 1, 1) := by decide +kernel
theorem dX5_sortByCost_43 : decode cX5_sortByCost 43 = .ok (.aload_n 0, 1) := by decide +kernel
theorem dX5_sortByCost_44 : decode cX5_sortByCost 44 = .ok (.getfield 18, 3) := by decide +kernel
theorem dX5_sortByCost_47 : decode cX5_sortByCost 47 = .ok (.arraylength, 1) := by decide +kernel
theorem dX5_sortByCost_48 : decode cX5_sortByCost 48 = .ok (.if_icmp .ge 26, 3) := by decide +kernel
theorem dX5_sortByCost_51 : decode cX5_sortByCost 51 = .ok (.aload_n 0, 1) := by decide +kernel
theorem dX5_sortByCost_52 : decode cX5_sortByCost 52 = .ok (.getfield 18, 3) := by decide +kernel
theorem dX5_sortByCost_55 : decode cX5_sortByCost 55 = .ok (.iload_n 1, 1) := by decide +kernel
theorem dX5_sortByCost_56 : decode cX5_sortByCost 56 = .ok (.dup2, 1) := by decide +kernel
theorem dX5_sortByCost_57 : decode cX5_sortByCost 57 = .ok (.iaload, 1) := by decide +kernel
theorem dX5_sortByCost_58 : decode cX5_sortByCost 58 = .ok (.aload_n 0, 1) := by decide +kernel
theorem dX5_sortByCost_59 : decode cX5_sortByCost 59 = .ok (.getfield 18, 3) := by decide +kernel
theorem dX5_sortByCost_62 : decode cX5_sortByCost 62 = .ok (.iload_n 1, 1) := by decide +kernel
theorem dX5_sortByCost_63 : decode cX5_sortByCost 63 = .ok (.iconst 1, 1) := by decide +kernel
theorem dX5_sortByCost_64 : decode cX5_sortByCost 64 = .ok (.isub, 1) := by decide +kernel
theorem dX5_sortByCost_65 : decode cX5_sortByCost 65 = .ok (.iaload, 1) := by decide +kernel
theorem dX5_sortByCost_66 : decode cX5_sortByCost 66 = .ok (.iadd, 1) := by decide +kernel
theorem dX5_sortByCost_67 : decode cX5_sortByCost 67 = .ok (.iastore, 1) := by decide +kernel
theorem dX5_sortByCost_68 : decode cX5_sortByCost 68 = .ok (.iinc 1 1, 3) := by decide +kernel
theorem dX5_sortByCost_71 : decode cX5_sortByCost 71 = .ok (.goto (-29), 3) := by decide +kernel
theorem dX5_sortByCost_74 : decode cX5_sortByCost 74 = .ok (.iconst 0, 1) := by decide +kernel
theorem dX5_sortByCost_75 : decode cX5_sortByCost 75 = .ok (.istore_n 1, 1) := by decide +kernel
theorem dX5_sortByCost_76 : decode cX5_sortByCost 76 = .ok (.iload_n 1, 1) := by decide +kernel
theorem dX5_sortByCost_77 : decode cX5_sortByCost 77 = .ok (.aload_n 0, 1) := by decide +kernel
theorem dX5_sortByCost_78 : decode cX5_sortByCost 78 = .ok (.getfield 53, 3) := by decide +kernel
theorem dX5_sortByCost_81 : decode cX5_sortByCost 81 = .ok (.if_icmp .ge 42, 3) := by decide +kernel
theorem dX5_sortByCost_84 : decode cX5_sortByCost 84 = .ok (.aload_n 0, 1) := by decide +kernel
theorem dX5_sortByCost_85 : decode cX5_sortByCost 85 = .ok (.iload_n 1, 1) := by decide +kernel
theorem dX5_sortByCost_86 : decode cX5_sortByCost 86 = .ok (.invokevirtual 71, 3) := by decide +kernel
theorem dX5_sortByCost_89 : decode cX5_sortByCost 89 = .ok (.istore_n 2, 1) := by decide +kernel
theorem dX5_sortByCost_90 : decode cX5_sortByCost 90 = .ok (.aload_n 0, 1) := by decide +kernel
theorem dX5_sortByCost_91 : decode cX5_sortByCost 91 = .ok (.getfield 31, 3) := by decide +kernel
theorem dX5_sortByCost_94 : decode cX5_sortByCost 94 = .ok (.aload_n 0, 1) := by decide +kernel
theorem dX5_sortByCost_95 : decode cX5_sortByCost 95 = .ok (.getfield 18, 3) := by decide +kernel
theorem dX5_sortByCost_98 : decode cX5_sortByCost 98 = .ok (.iload_n 2, 1) := by decide +kernel
theorem dX5_sortByCost_99 : decode cX5_sortByCost 99 = .ok (.iaload, 1) := by decide +kernel
theorem dX5_sortByCost_100 : decode cX5_sortByCost 100 = .ok (.aload_n 0, 1) := by decide +kernel
theorem dX5_sortByCost_101 : decode cX5_sortByCost 101 = .ok (.getfield 28, 3) := by decide +kernel
theorem dX5_sortByCost_104 : decode cX5_sortByCost 104 = .ok (.iload_n 1, 1) := by decide +kernel
theorem dX5_sortByCost_105 : decode cX5_sortByCost 105 = .ok (.iaload, 1) := by decide +kernel
theorem dX5_sortByCost_106 : decode cX5_sortByCost 106 = .ok (.iastore, 1) := by decide +kernel
theorem dX5_sortByCost_107 : decode cX5_sortByCost 107 = .ok (.aload_n 0, 1) := by decide +kernel
theorem dX5_sortByCost_108 : decode cX5_sortByCost 108 = .ok (.getfield 18, 3) := by decide +kernel
theorem dX5_sortByCost_111 : decode cX5_sortByCost 111 = .ok (.iload_n 2, 1) := by decide +kernel
theorem dX5_sortByCost_112 : decode cX5_sortByCost 112 = .ok (.dup2, 1) := by decide +kernel
theorem dX5_sortByCost_113 : decode cX5_sortByCost 113 = .ok (.iaload, 1) := by decide +kernel
theorem dX5_sortByCost_114 : decode cX5_sortByCost 114 = .ok (.iconst 1, 1) := by decide +kernel
theorem dX5_sortByCost_115 : decode cX5_sortByCost 115 = .ok (.iadd, 1) := by decide +kernel
theorem dX5_sortByCost_116 : decode cX5_sortByCost 116 = .ok (.iastore, 1) := by decide +kernel
theorem dX5_sortByCost_117 : decode cX5_sortByCost 117 = .ok (.iinc 1 1, 3) := by decide +kernel
theorem dX5_sortByCost_120 : decode cX5_sortByCost 120 = .ok (.goto (-44), 3) := by decide +kernel
theorem dX5_sortByCost_123 : decode cX5_sortByCost 123 = .ok (.aload_n 0, 1) := by decide +kernel
theorem dX5_sortByCost_124 : decode cX5_sortByCost 124 = .ok (.invokevirtual 116, 3) := by decide +kernel
theorem dX5_sortByCost_127 : decode cX5_sortByCost 127 = .ok (.return_, 1) := by decide +kernel
theorem dX5_swap_0 : decode cX5_swap 0 = .ok (.aload_n 0, 1) := by decide +kernel
theorem dX5_swap_1 : decode cX5_swap 1 = .ok (.getfield 28, 3) := by decide +kernel
theorem dX5_swap_4 : decode cX5_swap 4 = .ok (.astore_n 1, 1) := by decide +kernel
theorem dX5_swap_5 : decode cX5_swap 5 = .ok (.aload_n 0, 1) := by decide +kernel
theorem dX5_swap_6 : decode cX5_swap 6 = .ok (.aload_n 0, 1) := by decide +kernel
theorem dX5_swap_7 : decode cX5_swap 7 = .ok (.getfield 31, 3) := by decide +kernel
theorem dX5_swap_10 : decode cX5_swap 10 = .ok (.putfield 28, 3) := by decide +kernel
theorem dX5_swap_13 : decode cX5_swap 13 = .ok (.aload_n 0, 1) := by decide +kernel
theorem dX5_swap_14 : decode cX5_swap 14 = .ok (.aload_n 1, 1) := by decide +kernel
theorem dX5_swap_15 : decode cX5_swap 15 = .ok (.putfield 31, 3) := by decide +kernel
theorem dX5_swap_18 : decode cX5_swap 18 = .ok (.return_, 1) := by decide +kernel
theorem dX5_fillForm_0 : decode cX5_fillForm 0 = .ok (.iconst 0, 1) := by decide +kernel
theorem dX5_fillForm_1 : decode cX5_fillForm 1 = .ok (.istore_n 2, 1) := by decide +kernel
theorem dX5_fillForm_2 : decode cX5_fillForm 2 = .ok (.iload_n 2, 1) := by decide +kernel
theorem dX5_fillForm_3 : decode cX5_fillForm 3 = .ok (.bipush 8, 2) := by decide +kernel
theorem dX5_fillForm_5 : decode cX5_fillForm 5 = .ok (.if_icmp .gt 79, 3) := by decide +kernel
theorem dX5_fillForm_8 : decode cX5_fillForm 8 = .ok (.aload_n 0, 1) := by decide +kernel
theorem dX5_fillForm_9 : decode cX5_fillForm 9 = .ok (.getfield 42, 3) := by decide +kernel
theorem dX5_fillForm_12 : decode cX5_fillForm 12 = .ok (.iload_n 2, 1) := by decide +kernel
theorem dX5_fillForm_13 : decode cX5_fillForm 13 = .ok (.invokevirtual 119, 3) := by decide +kernel
theorem dX5_fillForm_16 : decode cX5_fillForm 16 = .ok (.istore_n 3, 1) := by decide +kernel
theorem dX5_fillForm_17 : decode cX5_fillForm 17 = .ok (.aload_n 0, 1) := by decide +kernel
theorem dX5_fillForm_18 : decode cX5_fillForm 18 = .ok (.getfield 22, 3) := by decide +kernel
theorem dX5_fillForm_21 : decode cX5_fillForm 21 = .ok (.iload_n 2, 1) := by decide +kernel
theorem dX5_fillForm_22 : decode cX5_fillForm 22 = .ok (.iload_n 3, 1) := by decide +kernel
theorem dX5_fillForm_23 : decode cX5_fillForm 23 = .ok (.ifCond .eq 26, 3) := by decide +kernel
theorem dX5_fillForm_26 : decode cX5_fillForm 26 = .ok (.aload_n 0, 1) := by decide +kernel
theorem dX5_fillForm_27 : decode cX5_fillForm 27 = .ok (.getfield 38, 3) := by decide +kernel
theorem dX5_fillForm_30 : decode cX5_fillForm 30 = .ok (.aload_n 0, 1) := by decide +kernel
theorem dX5_fillForm_31 : decode cX5_fillForm 31 = .ok (.getfield 42, 3) := by decide +kernel
theorem dX5_fillForm_34 : decode cX5_fillForm 34 = .ok (.iload_n 2, 1) := by decide +kernel
theorem dX5_fillForm_35 : decode cX5_fillForm 35 = .ok (.invokevirtual 97, 3) := by decide +kernel
theorem dX5_fillForm_38 : decode cX5_fillForm 38 = .ok (.iload_n 1, 1) := by decide +kernel
theorem dX5_fillForm_39 : decode cX5_fillForm 39 = .ok (.iload_n 2, 1) := by decide +kernel
theorem dX5_fillForm_40 : decode cX5_fillForm 40 = .ok (.invokestatic 63, 3) := by decide +kernel
theorem dX5_fillForm_43 : decode cX5_fillForm 43 = .ok (.invokevirtual 105, 3) := by decide +kernel
theorem dX5_fillForm_46 : decode cX5_fillForm 46 = .ok (.goto 4, 3) := by decide +kernel
theorem dX5_fillForm_49 : decode cX5_fillForm 49 = .ok (.iconst (-1), 1) := by decide +kernel
theorem dX5_fillForm_50 : decode cX5_fillForm 50 = .ok (.iastore, 1) := by decide +kernel
theorem dX5_fillForm_51 : decode cX5_fillForm 51 = .ok (.aload_n 0, 1) := by decide +kernel
theorem dX5_fillForm_52 : decode cX5_fillForm 52 = .ok (.getfield 25, 3) := by decide +kernel
theorem dX5_fillForm_55 : decode cX5_fillForm 55 = .ok (.iload_n 2, 1) := by decide +kernel
theorem dX5_fillForm_56 : decode cX5_fillForm 56 = .ok (.iload_n 3, 1) := by decide +kernel
theorem dX5_fillForm_57 : decode cX5_fillForm 57 = .ok (.ifCond .eq 19, 3) := by decide +kernel
theorem dX5_fillForm_60 : decode cX5_fillForm 60 = .ok (.aload_n 0, 1) := by decide +kernel
theorem dX5_fillForm_61 : decode cX5_fillForm 61 = .ok (.getfield 38, 3) := by decide +kernel
theorem dX5_fillForm_64 : decode cX5_fillForm 64 = .ok (.aload_n 0, 1) := by decide +kernel
theorem dX5_fillForm_65 : decode cX5_fillForm 65 = .ok (.getfield 22, 3) := by decide +kernel
theorem dX5_fillForm_68 : decode cX5_fillForm 68 = .ok (.iload_n 2, 1) := by decide +kernel
theorem dX5_fillForm_69 : decode cX5_fillForm 69 = .ok (.iaload, 1) := by decide +kernel
theorem dX5_fillForm_70 : decode cX5_fillForm 70 = .ok (.invokevirtual 108, 3) := by decide +kernel
theorem dX5_fillForm_73 : decode cX5_fillForm 73 = .ok (.goto 4, 3) := by decide +kernel
theorem dX5_fillForm_76 : decode cX5_fillForm 76 = .ok (.iconst (-1), 1) := by decide +kernel
theorem dX5_fillForm_77 : decode cX5_fillForm 77 = .ok (.iastore, 1) := by decide +kernel
theorem dX5_fillForm_78 : decode cX5_fillForm 78 = .ok (.iinc 2 1, 3) := by decide +kernel
theorem dX5_fillForm_81 : decode cX5_fillForm 81 = .ok (.goto (-79), 3) := by decide +kernel
theorem dX5_fillForm_84 : decode cX5_fillForm 84 = .ok (.aload_n 0, 1) := by decide +kernel
theorem dX5_fillForm_85 : decode cX5_fillForm 85 = .ok (.getfield 14, 3) := by decide +kernel
theorem dX5_fillForm_88 : decode cX5_fillForm 88 = .ok (.invokevirtual 132, 3) := by decide +kernel
theorem dX5_fillForm_91 : decode cX5_fillForm 91 = .ok (.iconst 0, 1) := by decide +kernel
theorem dX5_fillForm_92 : decode cX5_fillForm 92 = .ok (.istore_n 2, 1) := by decide +kernel
theorem dX5_fillForm_93 : decode cX5_fillForm 93 = .ok (.iload_n 2, 1) := by decide +kernel
theorem dX5_fillForm_94 : decode cX5_fillForm 94 = .ok (.bipush 8, 2) := by decide +kernel
theorem dX5_fillForm_96 : decode cX5_fillForm 96 = .ok (.if_icmp .ge 29, 3) := by decide +kernel
theorem dX5_fillForm_99 : decode cX5_fillForm 99 = .ok (.aload_n 0, 1) := by decide +kernel
theorem dX5_fillForm_100 : decode cX5_fillForm 100 = .ok (.getfield 22, 3) := by decide +kernel
theorem dX5_fillForm_103 : decode cX5_fillForm 103 = .ok (.iload_n 2, 1) := by decide +kernel
theorem dX5_fillForm_104 : decode cX5_fillForm 104 = .ok (.iaload, 1) := by decide +kernel
theorem dX5_fillForm_105 : decode cX5_fillForm 105 = .ok (.ifCond .lt 14, 3) := by decide +kernel
theorem dX5_fillForm_108 : decode cX5_fillForm 108 = .ok (.aload_n 0, 1) := by decide +kernel
theorem dX5_fillForm_109 : decode cX5_fillForm 109 = .ok (.iload_n 2, 1) := by decide +kernel
theorem dX5_fillForm_110 : decode cX5_fillForm 110 = .ok (.aload_n 0, 1) := by decide +kernel
theorem dX5_fillForm_111 : decode cX5_fillForm 111 = .ok (.getfield 22, 3) := by decide +kernel
theorem dX5_fillForm_114 : decode cX5_fillForm 114 = .ok (.iload_n 2, 1) := by decide +kernel
theorem dX5_fillForm_115 : decode cX5_fillForm 115 = .ok (.iaload, 1) := by decide +kernel
theorem dX5_fillForm_116 : decode cX5_fillForm 116 = .ok (.invokevirtual 135, 3) := by decide +kernel
theorem dX5_fillForm_119 : decode cX5_fillForm 119 = .ok (.iinc 2 1, 3) := by decide +kernel
theorem dX5_fillForm_122 : decode cX5_fillForm 122 = .ok (.goto (-29), 3) := by decide +kernel
theorem dX5_fillForm_125 : decode cX5_fillForm 125 = .ok (.aload_n 0, 1) := by decide +kernel
theorem dX5_fillForm_126 : decode cX5_fillForm 126 = .ok (.getfield 14, 3) := by decide +kernel
theorem dX5_fillForm_129 : decode cX5_fillForm 129 = .ok (.invokevirtual 139, 3) := by decide +kernel
theorem dX5_fillForm_132 : decode cX5_fillForm 132 = .ok (.return_, 1) := by decide +kernel
theorem dX5_tellMeaning_0 : decode cX5_tellMeaning 0 = .ok (.aload_n 0, 1) := by decide +kernel
theorem dX5_tellMeaning_1 : decode cX5_tellMeaning 1 = .ok (.getfield 38, 3) := by decide +kernel
theorem dX5_tellMeaning_4 : decode cX5_tellMeaning 4 = .ok (.iload_n 2, 1) := by decide +kernel
theorem dX5_tellMeaning_5 : decode cX5_tellMeaning 5 = .ok (.invokevirtual 142, 3) := by decide +kernel
theorem dX5_tellMeaning_8 : decode cX5_tellMeaning 8 = .ok (.istore_n 3, 1) := by decide +kernel
theorem dX5_tellMeaning_9 : decode cX5_tellMeaning 9 = .ok (.aload_n 0, 1) := by decide +kernel
theorem dX5_tellMeaning_10 : decode cX5_tellMeaning 10 = .ok (.getfield 38, 3) := by decide +kernel
theorem dX5_tellMeaning_13 : decode cX5_tellMeaning 13 = .ok (.iload_n 2, 1) := by decide +kernel
theorem dX5_tellMeaning_14 : decode cX5_tellMeaning 14 = .ok (.invokevirtual 145, 3) := by decide +kernel
theorem dX5_tellMeaning_17 : decode cX5_tellMeaning 17 = .ok (.istore 4, 2) := by decide +kernel
theorem dX5_tellMeaning_19 : decode cX5_tellMeaning 19 = .ok (.aload_n 0, 1) := by decide +kernel
theorem dX5_tellMeaning_20 : decode cX5_tellMeaning 20 = .ok (.getfield 25, 3) := by decide +kernel
theorem dX5_tellMeaning_23 : decode cX5_tellMeaning 23 = .ok (.iload_n 1, 1) := by decide +kernel
theorem dX5_tellMeaning_24 : decode cX5_tellMeaning 24 = .ok (.iaload, 1) := by decide +kernel
theorem dX5_tellMeaning_25 : decode cX5_tellMeaning 25 = .ok (.tableswitch 192 0 4 #[35, 46, 71, 82, 110], 35) := by decide +kernel
theorem dX5_tellMeaning_60 : decode cX5_tellMeaning 60 = .ok (.aload_n 0, 1) := by decide +kernel
theorem dX5_tellMeaning_61 : decode cX5_tellMeaning 61 = .ok (.getfield 14, 3) := by decide +kernel
theorem dX5_tellMeaning_64 : decode cX5_tellMeaning 64 = .ok (.iload_n 3, 1) := by decide +kernel
theorem dX5_tellMeaning_65 : decode cX5_tellMeaning 65 = .ok (.invokevirtual 148, 3) := by decide +kernel
theorem dX5_tellMeaning_68 : decode cX5_tellMeaning 68 = .ok (.goto 149, 3) := by decide +kernel
theorem dX5_tellMeaning_71 : decode cX5_tellMeaning 71 = .ok (.aload_n 0, 1) := by decide +kernel
theorem dX5_tellMeaning_72 : decode cX5_tellMeaning 72 = .ok (.getfield 25, 3) := by decide +kernel
theorem dX5_tellMeaning_75 : decode cX5_tellMeaning 75 = .ok (.iload_n 1, 1) := by decide +kernel
theorem dX5_tellMeaning_76 : decode cX5_tellMeaning 76 = .ok (.iconst 1, 1) := by decide +kernel
theorem dX5_tellMeaning_77 : decode cX5_tellMeaning 77 = .ok (.iadd, 1) := by decide +kernel
theorem dX5_tellMeaning_78 : decode cX5_tellMeaning 78 = .ok (.iaload, 1) := by decide +kernel
theorem dX5_tellMeaning_79 : decode cX5_tellMeaning 79 = .ok (.iconst 4, 1) := by decide +kernel
theorem dX5_tellMeaning_80 : decode cX5_tellMeaning 80 = .ok (.if_icmp .eq 137, 3) := by decide +kernel
theorem dX5_tellMeaning_83 : decode cX5_tellMeaning 83 = .ok (.aload_n 0, 1) := by decide +kernel
theorem dX5_tellMeaning_84 : decode cX5_tellMeaning 84 = .ok (.getfield 14, 3) := by decide +kernel
theorem dX5_tellMeaning_87 : decode cX5_tellMeaning 87 = .ok (.iload_n 3, 1) := by decide +kernel
theorem dX5_tellMeaning_88 : decode cX5_tellMeaning 88 = .ok (.iload 4, 2) := by decide +kernel
theorem dX5_tellMeaning_90 : decode cX5_tellMeaning 90 = .ok (.invokevirtual 151, 3) := by decide +kernel
theorem dX5_tellMeaning_93 : decode cX5_tellMeaning 93 = .ok (.goto 124, 3) := by decide +kernel
theorem dX5_tellMeaning_96 : decode cX5_tellMeaning 96 = .ok (.aload_n 0, 1) := by decide +kernel
theorem dX5_tellMeaning_97 : decode cX5_tellMeaning 97 = .ok (.getfield 14, 3) := by decide +kernel
theorem dX5_tellMeaning_100 : decode cX5_tellMeaning 100 = .ok (.iload_n 3, 1) := by decide +kernel
theorem dX5_tellMeaning_101 : decode cX5_tellMeaning 101 = .ok (.invokevirtual 154, 3) := by decide +kernel
theorem dX5_tellMeaning_104 : decode cX5_tellMeaning 104 = .ok (.goto 113, 3) := by decide +kernel
theorem dX5_tellMeaning_107 : decode cX5_tellMeaning 107 = .ok (.aload_n 0, 1) := by decide +kernel
theorem dX5_tellMeaning_108 : decode cX5_tellMeaning 108 = .ok (.getfield 14, 3) := by decide +kernel
theorem dX5_tellMeaning_111 : decode cX5_tellMeaning 111 = .ok (.iload_n 1, 1) := by decide +kernel
theorem dX5_tellMeaning_112 : decode cX5_tellMeaning 112 = .ok (.iload_n 2, 1) := by decide +kernel
theorem dX5_tellMeaning_113 : decode cX5_tellMeaning 113 = .ok (.iconst 0, 1) := by decide +kernel
theorem dX5_tellMeaning_114 : decode cX5_tellMeaning 114 = .ok (.invokestatic 157, 3) := by decide +kernel
theorem dX5_tellMeaning_117 : decode cX5_tellMeaning 117 = .ok (.iload_n 3, 1) := by decide +kernel
theorem dX5_tellMeaning_118 : decode cX5_tellMeaning 118 = .ok (.iload 4, 2) := by decide +kernel
theorem dX5_tellMeaning_120 : decode cX5_tellMeaning 120 = .ok (.iconst 2, 1) := by decide +kernel
theorem dX5_tellMeaning_121 : decode cX5_tellMeaning 121 = .ok (.aload_n 0, 1) := by decide +kernel
theorem dX5_tellMeaning_122 : decode cX5_tellMeaning 122 = .ok (.getfield 38, 3) := by decide +kernel
theorem dX5_tellMeaning_125 : decode cX5_tellMeaning 125 = .ok (.iload_n 2, 1) := by decide +kernel
theorem dX5_tellMeaning_126 : decode cX5_tellMeaning 126 = .ok (.invokevirtual 160, 3) := by decide +kernel
theorem dX5_tellMeaning_129 : decode cX5_tellMeaning 129 = .ok (.invokevirtual 163, 3) := by decide +kernel
theorem dX5_tellMeaning_132 : decode cX5_tellMeaning 132 = .ok (.goto 85, 3) := by decide +kernel
theorem dX5_tellMeaning_135 : decode cX5_tellMeaning 135 = .ok (.iload_n 1, 1) := by decide +kernel
theorem dX5_tellMeaning_136 : decode cX5_tellMeaning 136 = .ok (.ifCond .le 14, 3) := by decide +kernel
theorem dX5_tellMeaning_139 : decode cX5_tellMeaning 139 = .ok (.aload_n 0, 1) := by decide +kernel
theorem dX5_tellMeaning_140 : decode cX5_tellMeaning 140 = .ok (.getfield 22, 3) := by decide +kernel
theorem dX5_tellMeaning_143 : decode cX5_tellMeaning 143 = .ok (.iload_n 1, 1) := by decide +kernel
theorem dX5_tellMeaning_144 : decode cX5_tellMeaning 144 = .ok (.iconst 1, 1) := by decide +kernel
theorem dX5_tellMeaning_145 : decode cX5_tellMeaning 145 = .ok (.isub, 1) := by decide +kernel
theorem dX5_tellMeaning_146 : decode cX5_tellMeaning 146 = .ok (.iaload, 1) := by decide +kernel
theorem dX5_tellMeaning_147 : decode cX5_tellMeaning 147 = .ok (.goto 4, 3) := by decide +kernel
theorem dX5_tellMeaning_150 : decode cX5_tellMeaning 150 = .ok (.iconst (-1), 1) := by decide +kernel
theorem dX5_tellMeaning_151 : decode cX5_tellMeaning 151 = .ok (.istore 5, 2) := by decide +kernel
theorem dX5_tellMeaning_153 : decode cX5_tellMeaning 153 = .ok (.iload 5, 2) := by decide +kernel
theorem dX5_tellMeaning_155 : decode cX5_tellMeaning 155 = .ok (.ifCond .lt 62, 3) := by decide +kernel
theorem dX5_tellMeaning_158 : decode cX5_tellMeaning 158 = .ok (.aload_n 0, 1) := by decide +kernel
theorem dX5_tellMeaning_159 : decode cX5_tellMeaning 159 = .ok (.getfield 42, 3) := by decide +kernel
theorem dX5_tellMeaning_162 : decode cX5_tellMeaning 162 = .ok (.iload_n 1, 1) := by decide +kernel
theorem dX5_tellMeaning_163 : decode cX5_tellMeaning 163 = .ok (.iconst 1, 1) := by decide +kernel
theorem dX5_tellMeaning_164 : decode cX5_tellMeaning 164 = .ok (.iadd, 1) := by decide +kernel
theorem dX5_tellMeaning_165 : decode cX5_tellMeaning 165 = .ok (.invokevirtual 57, 3) := by decide +kernel
theorem dX5_tellMeaning_168 : decode cX5_tellMeaning 168 = .ok (.ifCond .eq 49, 3) := by decide +kernel
theorem dX5_tellMeaning_171 : decode cX5_tellMeaning 171 = .ok (.aload_n 0, 1) := by decide +kernel
theorem dX5_tellMeaning_172 : decode cX5_tellMeaning 172 = .ok (.getfield 14, 3) := by decide +kernel
theorem dX5_tellMeaning_175 : decode cX5_tellMeaning 175 = .ok (.iload_n 1, 1) := by decide +kernel
theorem dX5_tellMeaning_176 : decode cX5_tellMeaning 176 = .ok (.iload_n 2, 1) := by decide +kernel
theorem dX5_tellMeaning_177 : decode cX5_tellMeaning 177 = .ok (.iload 5, 2) := by decide +kernel
theorem dX5_tellMeaning_179 : decode cX5_tellMeaning 179 = .ok (.invokestatic 157, 3) := by decide +kernel
theorem dX5_tellMeaning_182 : decode cX5_tellMeaning 182 = .ok (.aload_n 0, 1) := by decide +kernel
theorem dX5_tellMeaning_183 : decode cX5_tellMeaning 183 = .ok (.getfield 38, 3) := by decide +kernel
theorem dX5_tellMeaning_186 : decode cX5_tellMeaning 186 = .ok (.iload 5, 2) := by decide +kernel
theorem dX5_tellMeaning_188 : decode cX5_tellMeaning 188 = .ok (.invokevirtual 142, 3) := by decide +kernel
theorem dX5_tellMeaning_191 : decode cX5_tellMeaning 191 = .ok (.aload_n 0, 1) := by decide +kernel
theorem dX5_tellMeaning_192 : decode cX5_tellMeaning 192 = .ok (.getfield 38, 3) := by decide +kernel
theorem dX5_tellMeaning_195 : decode cX5_tellMeaning 195 = .ok (.iload 5, 2) := by decide +kernel
theorem dX5_tellMeaning_197 : decode cX5_tellMeaning 197 = .ok (.invokevirtual 145, 3) := by decide +kernel
theorem dX5_tellMeaning_200 : decode cX5_tellMeaning 200 = .ok (.iload_n 3, 1) := by decide +kernel
theorem dX5_tellMeaning_201 : decode cX5_tellMeaning 201 = .ok (.aload_n 0, 1) := by decide +kernel
theorem dX5_tellMeaning_202 : decode cX5_tellMeaning 202 = .ok (.getfield 42, 3) := by decide +kernel
theorem dX5_tellMeaning_205 : decode cX5_tellMeaning 205 = .ok (.iload_n 1, 1) := by decide +kernel
theorem dX5_tellMeaning_206 : decode cX5_tellMeaning 206 = .ok (.iconst 1, 1) := by decide +kernel
theorem dX5_tellMeaning_207 : decode cX5_tellMeaning 207 = .ok (.iadd, 1) := by decide +kernel
theorem dX5_tellMeaning_208 : decode cX5_tellMeaning 208 = .ok (.invokevirtual 97, 3) := by decide +kernel
theorem dX5_tellMeaning_211 : decode cX5_tellMeaning 211 = .ok (.invokevirtual 163, 3) := by decide +kernel
theorem dX5_tellMeaning_214 : decode cX5_tellMeaning 214 = .ok (.goto 3, 3) := by decide +kernel
theorem dX5_tellMeaning_217 : decode cX5_tellMeaning 217 = .ok (.return_, 1) := by decide +kernel
theorem dX5_originOf_0 : decode cX5_originOf 0 = .ok (.iload_n 0, 1) := by decide +kernel
theorem dX5_originOf_1 : decode cX5_originOf 1 = .ok (.iconst 3, 1) := by decide +kernel
theorem dX5_originOf_2 : decode cX5_originOf 2 = .ok (.imul, 1) := by decide +kernel
theorem dX5_originOf_3 : decode cX5_originOf 3 = .ok (.iload_n 1, 1) := by decide +kernel
theorem dX5_originOf_4 : decode cX5_originOf 4 = .ok (.iconst 3, 1) := by decide +kernel
theorem dX5_originOf_5 : decode cX5_originOf 5 = .ok (.irem, 1) := by decide +kernel
theorem dX5_originOf_6 : decode cX5_originOf 6 = .ok (.iadd, 1) := by decide +kernel
theorem dX5_originOf_7 : decode cX5_originOf 7 = .ok (.iconst 3, 1) := by decide +kernel
theorem dX5_originOf_8 : decode cX5_originOf 8 = .ok (.imul, 1) := by decide +kernel
theorem dX5_originOf_9 : decode cX5_originOf 9 = .ok (.iload_n 2, 1) := by decide +kernel
theorem dX5_originOf_10 : decode cX5_originOf 10 = .ok (.iconst 3, 1) := by decide +kernel
theorem dX5_originOf_11 : decode cX5_originOf 11 = .ok (.irem, 1) := by decide +kernel
theorem dX5_originOf_12 : decode cX5_originOf 12 = .ok (.iadd, 1) := by decide +kernel
theorem dX5_originOf_13 : decode cX5_originOf 13 = .ok (.ireturn, 1) := by decide +kernel
theorem dX5_keyPart_0 : decode cX5_keyPart 0 = .ok (.iload_n 2, 1) := by decide +kernel
theorem dX5_keyPart_1 : decode cX5_keyPart 1 = .ok (.bipush 16, 2) := by decide +kernel
theorem dX5_keyPart_3 : decode cX5_keyPart 3 = .ok (.ishl, 1) := by decide +kernel
theorem dX5_keyPart_4 : decode cX5_keyPart 4 = .ok (.iload_n 1, 1) := by decide +kernel
theorem dX5_keyPart_5 : decode cX5_keyPart 5 = .ok (.bipush 7, 2) := by decide +kernel
theorem dX5_keyPart_7 : decode cX5_keyPart 7 = .ok (.iload_n 0, 1) := by decide +kernel
theorem dX5_keyPart_8 : decode cX5_keyPart 8 = .ok (.isub, 1) := by decide +kernel
theorem dX5_keyPart_9 : decode cX5_keyPart 9 = .ok (.iconst 2, 1) := by decide +kernel
theorem dX5_keyPart_10 : decode cX5_keyPart 10 = .ok (.imul, 1) := by decide +kernel
theorem dX5_keyPart_11 : decode cX5_keyPart 11 = .ok (.ishl, 1) := by decide +kernel
theorem dX5_keyPart_12 : decode cX5_keyPart 12 = .ok (.iadd, 1) := by decide +kernel
theorem dX5_keyPart_13 : decode cX5_keyPart 13 = .ok (.ireturn, 1) := by decide +kernel
theorem dX5_meaningIn_0 : decode cX5_meaningIn 0 = .ok (.iload_n 0, 1) := by decide +kernel
theorem dX5_meaningIn_1 : decode cX5_meaningIn 1 = .ok (.bipush 7, 2) := by decide +kernel
theorem dX5_meaningIn_3 : decode cX5_meaningIn 3 = .ok (.iload_n 1, 1) := by decide +kernel
theorem dX5_meaningIn_4 : decode cX5_meaningIn 4 = .ok (.isub, 1) := by decide +kernel
theorem dX5_meaningIn_5 : decode cX5_meaningIn 5 = .ok (.iconst 2, 1) := by decide +kernel
theorem dX5_meaningIn_6 : decode cX5_meaningIn 6 = .ok (.imul, 1) := by decide +kernel
theorem dX5_meaningIn_7 : decode cX5_meaningIn 7 = .ok (.ishr, 1) := by decide +kernel
theorem dX5_meaningIn_8 : decode cX5_meaningIn 8 = .ok (.iconst 3, 1) := by decide +kernel
theorem dX5_meaningIn_9 : decode cX5_meaningIn 9 = .ok (.iand, 1) := by decide +kernel
theorem dX5_meaningIn_10 : decode cX5_meaningIn 10 = .ok (.ireturn, 1) := by decide +kernel
theorem dX6_init_0 : decode cX6_init 0 = .ok (.aload_n 0, 1) := by decide +kernel
theorem dX6_init_1 : decode cX6_init 1 = .ok (.invokespecial 3, 3) := by decide +kernel
theorem dX6_init_4 : decode cX6_init 4 = .ok (.aload_n 0, 1) := by decide +kernel
theorem dX6_init_5 : decode cX6_init 5 = .ok (.iconst 4, 1) := by decide +kernel
theorem dX6_init_6 : decode cX6_init 6 = .ok (.newarray .int, 2) := by decide +kernel
theorem dX6_init_8 : decode cX6_init 8 = .ok (.putfield 9, 3) := by decide +kernel
theorem dX6_init_11 : decode cX6_init 11 = .ok (.aload_n 0, 1) := by decide +kernel
theorem dX6_init_12 : decode cX6_init 12 = .ok (.iconst 4, 1) := by decide +kernel
theorem dX6_init_13 : decode cX6_init 13 = .ok (.newarray .int, 2) := by decide +kernel
theorem dX6_init_15 : decode cX6_init 15 = .ok (.putfield 15, 3) := by decide +kernel
theorem dX6_init_18 : decode cX6_init 18 = .ok (.aload_n 0, 1) := by decide +kernel
theorem dX6_init_19 : decode cX6_init 19 = .ok (.bipush 16, 2) := by decide +kernel
theorem dX6_init_21 : decode cX6_init 21 = .ok (.newarray .int, 2) := by decide +kernel
theorem dX6_init_23 : decode cX6_init 23 = .ok (.putfield 18, 3) := by decide +kernel
theorem dX6_init_26 : decode cX6_init 26 = .ok (.aload_n 0, 1) := by decide +kernel
theorem dX6_init_27 : decode cX6_init 27 = .ok (.sipush 320, 3) := by decide +kernel
theorem dX6_init_30 : decode cX6_init 30 = .ok (.newarray .int, 2) := by decide +kernel
theorem dX6_init_32 : decode cX6_init 32 = .ok (.putfield 21, 3) := by decide +kernel
theorem dX6_init_35 : decode cX6_init 35 = .ok (.aload_n 0, 1) := by decide +kernel
theorem dX6_init_36 : decode cX6_init 36 = .ok (.getfield 18, 3) := by decide +kernel
theorem dX6_init_39 : decode cX6_init 39 = .ok (.iconst (-1), 1) := by decide +kernel
theorem dX6_init_40 : decode cX6_init 40 = .ok (.invokestatic 24, 3) := by decide +kernel
theorem dX6_init_43 : decode cX6_init 43 = .ok (.aload_n 0, 1) := by decide +kernel
theorem dX6_init_44 : decode cX6_init 44 = .ok (.getfield 21, 3) := by decide +kernel
theorem dX6_init_47 : decode cX6_init 47 = .ok (.ldc 30, 2) := by decide +kernel
theorem dX6_init_49 : decode cX6_init 49 = .ok (.invokestatic 24, 3) := by decide +kernel
theorem dX6_init_52 : decode cX6_init 52 = .ok (.return_, 1) := by decide +kernel
theorem dX6_size_0 : decode cX6_size 0 = .ok (.aload_n 0, 1) := by decide +kernel
theorem dX6_size_1 : decode cX6_size 1 = .ok (.getfield 31, 3) := by decide +kernel
theorem dX6_size_4 : decode cX6_size 4 = .ok (.ireturn, 1) := by decide +kernel
theorem dX6_rowsOf_0 : decode cX6_rowsOf 0 = .ok (.aload_n 0, 1) := by decide +kernel
theorem dX6_rowsOf_1 : decode cX6_rowsOf 1 = .ok (.getfield 15, 3) := by decide +kernel
theorem dX6_rowsOf_4 : decode cX6_rowsOf 4 = .ok (.iload_n 1, 1) := by decide +kernel
theorem dX6_rowsOf_5 : decode cX6_rowsOf 5 = .ok (.iaload, 1) := by decide +kernel
theorem dX6_rowsOf_6 : decode cX6_rowsOf 6 = .ok (.ireturn, 1) := by decide +kernel
theorem dX6_hasTable_0 : decode cX6_hasTable 0 = .ok (.iload_n 1, 1) := by decide +kernel
theorem dX6_hasTable_1 : decode cX6_hasTable 1 = .ok (.ifCond .lt 15, 3) := by decide +kernel
theorem dX6_hasTable_4 : decode cX6_hasTable 4 = .ok (.iload_n 1, 1) := by decide +kernel
theorem dX6_hasTable_5 : decode cX6_hasTable 5 = .ok (.aload_n 0, 1) := by decide +kernel
theorem dX6_hasTable_6 : decode cX6_hasTable 6 = .ok (.getfield 31, 3) := by decide +kernel
theorem dX6_hasTable_9 : decode cX6_hasTable 9 = .ok (.if_icmp .ge 7, 3) := by decide +kernel
theorem dX6_hasTable_12 : decode cX6_hasTable 12 = .ok (.iconst 1, 1) := by decide +kernel
theorem dX6_hasTable_13 : decode cX6_hasTable 13 = .ok (.goto 4, 3) := by decide +kernel
theorem dX6_hasTable_16 : decode cX6_hasTable 16 = .ok (.iconst 0, 1) := by decide +kernel
theorem dX6_hasTable_17 : decode cX6_hasTable 17 = .ok (.ireturn, 1) := by decide +kernel
theorem dX6_hasColumn_0 : decode cX6_hasColumn 0 = .ok (.aload_n 0, 1) := by decide +kernel
theorem dX6_hasColumn_1 : decode cX6_hasColumn 1 = .ok (.iload_n 1, 1) := by decide +kernel
theorem dX6_hasColumn_2 : decode cX6_hasColumn 2 = .ok (.invokevirtual 35, 3) := by decide +kernel
theorem dX6_hasColumn_5 : decode cX6_hasColumn 5 = .ok (.ifCond .eq 21, 3) := by decide +kernel
theorem dX6_hasColumn_8 : decode cX6_hasColumn 8 = .ok (.iload_n 2, 1) := by decide +kernel
theorem dX6_hasColumn_9 : decode cX6_hasColumn 9 = .ok (.ifCond .lt 17, 3) := by decide +kernel
theorem dX6_hasColumn_12 : decode cX6_hasColumn 12 = .ok (.iload_n 2, 1) := by decide +kernel
theorem dX6_hasColumn_13 : decode cX6_hasColumn 13 = .ok (.aload_n 0, 1) := by decide +kernel
theorem dX6_hasColumn_14 : decode cX6_hasColumn 14 = .ok (.getfield 9, 3) := by decide +kernel
theorem dX6_hasColumn_17 : decode cX6_hasColumn 17 = .ok (.iload_n 1, 1) := by decide +kernel
theorem dX6_hasColumn_18 : decode cX6_hasColumn 18 = .ok (.iaload, 1) := by decide +kernel
theorem dX6_hasColumn_19 : decode cX6_hasColumn 19 = .ok (.if_icmp .ge 7, 3) := by decide +kernel
theorem dX6_hasColumn_22 : decode cX6_hasColumn 22 = .ok (.iconst 1, 1) := by decide +kernel
theorem dX6_hasColumn_23 : decode cX6_hasColumn 23 = .ok (.goto 4, 3) := by decide +kernel
theorem dX6_hasColumn_26 : decode cX6_hasColumn 26 = .ok (.iconst 0, 1) := by decide +kernel
theorem dX6_hasColumn_27 : decode cX6_hasColumn 27 = .ok (.ireturn, 1) := by decide +kernel
theorem dX6_hasCell_0 : decode cX6_hasCell 0 = .ok (.aload_n 0, 1) := by decide +kernel
theorem dX6_hasCell_1 : decode cX6_hasCell 1 = .ok (.iload_n 1, 1) := by decide +kernel
theorem dX6_hasCell_2 : decode cX6_hasCell 2 = .ok (.iload_n 3, 1) := by decide +kernel
theorem dX6_hasCell_3 : decode cX6_hasCell 3 = .ok (.invokevirtual 39, 3) := by decide +kernel
theorem dX6_hasCell_6 : decode cX6_hasCell 6 = .ok (.ifCond .eq 21, 3) := by decide +kernel
theorem dX6_hasCell_9 : decode cX6_hasCell 9 = .ok (.iload_n 2, 1) := by decide +kernel
theorem dX6_hasCell_10 : decode cX6_hasCell 10 = .ok (.ifCond .lt 17, 3) := by decide +kernel
theorem dX6_hasCell_13 : decode cX6_hasCell 13 = .ok (.iload_n 2, 1) := by decide +kernel
theorem dX6_hasCell_14 : decode cX6_hasCell 14 = .ok (.aload_n 0, 1) := by decide +kernel
theorem dX6_hasCell_15 : decode cX6_hasCell 15 = .ok (.getfield 15, 3) := by decide +kernel
theorem dX6_hasCell_18 : decode cX6_hasCell 18 = .ok (.iload_n 1, 1) := by decide +kernel
theorem dX6_hasCell_19 : decode cX6_hasCell 19 = .ok (.iaload, 1) := by decide +kernel
theorem dX6_hasCell_20 : decode cX6_hasCell 20 = .ok (.if_icmp .ge 7, 3) := by decide +kernel
theorem dX6_hasCell_23 : decode cX6_hasCell 23 = .ok (.iconst 1, 1) := by decide +kernel
theorem dX6_hasCell_24 : decode cX6_hasCell 24 = .ok (.goto 4, 3) := by decide +kernel
theorem dX6_hasCell_27 : decode cX6_hasCell 27 = .ok (.iconst 0, 1) := by decide +kernel
theorem dX6_hasCell_28 : decode cX6_hasCell 28 = .ok (.ireturn, 1) := by decide +kernel
theorem dX6_addTable_0 : decode cX6_addTable 0 = .ok (.aload_n 0, 1) := by decide +kernel
theorem dX6_addTable_1 : decode cX6_addTable 1 = .ok (.getfield 9, 3) := by decide +kernel
theorem dX6_addTable_4 : decode cX6_addTable 4 = .ok (.aload_n 0, 1) := by decide +kernel
theorem dX6_addTable_5 : decode cX6_addTable 5 = .ok (.getfield 31, 3) := by decide +kernel
theorem dX6_addTable_8 : decode cX6_addTable 8 = .ok (.iload_n 1, 1) := by decide +kernel
theorem dX6_addTable_9 : decode cX6_addTable 9 = .ok (.iastore, 1) := by decide +kernel
theorem dX6_addTable_10 : decode cX6_addTable 10 = .ok (.aload_n 0, 1) := by decide +kernel
theorem dX6_addTable_11 : decode cX6_addTable 11 = .ok (.dup, 1) := by decide +kernel
theorem dX6_addTable_12 : decode cX6_addTable 12 = .ok (.getfield 31, 3) := by decide +kernel
theorem dX6_addTable_15 : decode cX6_addTable 15 = .ok (.iconst 1, 1) := by decide +kernel
theorem dX6_addTable_16 : decode cX6_addTable 16 = .ok (.iadd, 1) := by decide +kernel
theorem dX6_addTable_17 : decode cX6_addTable 17 = .ok (.putfield 31, 3) := by decide +kernel
theorem dX6_addTable_20 : decode cX6_addTable 20 = .ok (.aload_n 0, 1) := by decide +kernel
theorem dX6_addTable_21 : decode cX6_addTable 21 = .ok (.getfield 31, 3) := by decide +kernel
theorem dX6_addTable_24 : decode cX6_addTable 24 = .ok (.iconst 1, 1) := by decide +kernel
theorem dX6_addTable_25 : decode cX6_addTable 25 = .ok (.isub, 1) := by decide +kernel
theorem dX6_addTable_26 : decode cX6_addTable 26 = .ok (.ireturn, 1) := by decide +kernel
theorem dX6_addRow_0 : decode cX6_addRow 0 = .ok (.aload_n 0, 1) := by decide +kernel
theorem dX6_addRow_1 : decode cX6_addRow 1 = .ok (.getfield 15, 3) := by decide +kernel
theorem dX6_addRow_4 : decode cX6_addRow 4 = .ok (.iload_n 1, 1) := by decide +kernel
theorem dX6_addRow_5 : decode cX6_addRow 5 = .ok (.dup2, 1) := by decide +kernel
theorem dX6_addRow_6 : decode cX6_addRow 6 = .ok (.iaload, 1) := by decide +kernel
theorem dX6_addRow_7 : decode cX6_addRow 7 = .ok (.iconst 1, 1) := by decide +kernel
theorem dX6_addRow_8 : decode cX6_addRow 8 = .ok (.iadd, 1) := by decide +kernel
theorem dX6_addRow_9 : decode cX6_addRow 9 = .ok (.iastore, 1) := by decide +kernel
theorem dX6_addRow_10 : decode cX6_addRow 10 = .ok (.aload_n 0, 1) := by decide +kernel
theorem dX6_addRow_11 : decode cX6_addRow 11 = .ok (.getfield 15, 3) := by decide +kernel
theorem dX6_addRow_14 : decode cX6_addRow 14 = .ok (.iload_n 1, 1) := by decide +kernel
theorem dX6_addRow_15 : decode cX6_addRow 15 = .ok (.iaload, 1) := by decide +kernel
theorem dX6_addRow_16 : decode cX6_addRow 16 = .ok (.iconst 1, 1) := by decide +kernel
theorem dX6_addRow_17 : decode cX6_addRow 17 = .ok (.isub, 1) := by decide +kernel
theorem dX6_addRow_18 : decode cX6_addRow 18 = .ok (.ireturn, 1) := by decide +kernel
theorem dX6_cell_0 : decode cX6_cell 0 = .ok (.aload_n 0, 1) := by decide +kernel
theorem dX6_cell_1 : decode cX6_cell 1 = .ok (.getfield 21, 3) := by decide +kernel
theorem dX6_cell_4 : decode cX6_cell 4 = .ok (.iload_n 1, 1) := by decide +kernel
theorem dX6_cell_5 : decode cX6_cell 5 = .ok (.bipush 20, 2) := by decide +kernel
theorem dX6_cell_7 : decode cX6_cell 7 = .ok (.imul, 1) := by decide +kernel
theorem dX6_cell_8 : decode cX6_cell 8 = .ok (.iload_n 2, 1) := by decide +kernel
theorem dX6_cell_9 : decode cX6_cell 9 = .ok (.iadd, 1) := by decide +kernel
theorem dX6_cell_10 : decode cX6_cell 10 = .ok (.iconst 4, 1) := by decide +kernel
theorem dX6_cell_11 : decode cX6_cell 11 = .ok (.imul, 1) := by decide +kernel
theorem dX6_cell_12 : decode cX6_cell 12 = .ok (.iload_n 3, 1) := by decide +kernel
theorem dX6_cell_13 : decode cX6_cell 13 = .ok (.iadd, 1) := by decide +kernel
theorem dX6_cell_14 : decode cX6_cell 14 = .ok (.iaload, 1) := by decide +kernel
theorem dX6_cell_15 : decode cX6_cell 15 = .ok (.ireturn, 1) := by decide +kernel
theorem dX6_setCell_0 : decode cX6_setCell 0 = .ok (.aload_n 0, 1) := by decide +kernel
theorem dX6_setCell_1 : decode cX6_setCell 1 = .ok (.getfield 21, 3) := by decide +kernel
theorem dX6_setCell_4 : decode cX6_setCell 4 = .ok (.iload_n 1, 1) := by decide +kernel
theorem dX6_setCell_5 : decode cX6_setCell 5 = .ok (.bipush 20, 2) := by decide +kernel
theorem dX6_setCell_7 : decode cX6_setCell 7 = .ok (.imul, 1) := by decide +kernel
theorem dX6_setCell_8 : decode cX6_setCell 8 = .ok (.iload_n 2, 1) := by decide +kernel
theorem dX6_setCell_9 : decode cX6_setCell 9 = .ok (.iadd, 1) := by decide +kernel
theorem dX6_setCell_10 : decode cX6_setCell 10 = .ok (.iconst 4, 1) := by decide +kernel
theorem dX6_setCell_11 : decode cX6_setCell 11 = .ok (.imul, 1) := by decide +kernel
theorem dX6_setCell_12 : decode cX6_setCell 12 = .ok (.iload_n 3, 1) := by decide +kernel
theorem dX6_setCell_13 : decode cX6_setCell 13 = .ok (.iadd, 1) := by decide +kernel
theorem dX6_setCell_14 : decode cX6_setCell 14 = .ok (.iload 4, 2) := by decide +kernel
theorem dX6_setCell_16 : decode cX6_setCell 16 = .ok (.iastore, 1) := by decide +kernel
theorem dX6_setCell_17 : decode cX6_setCell 17 = .ok (.return_, 1) := by decide +kernel
theorem dX6_changeLink_0 : decode cX6_changeLink 0 = .ok (.aload_n 0, 1) := by decide +kernel
theorem dX6_changeLink_1 : decode cX6_changeLink 1 = .ok (.getfield 18, 3) := by decide +kernel
theorem dX6_changeLink_4 : decode cX6_changeLink 4 = .ok (.iload_n 1, 1) := by decide +kernel
theorem dX6_changeLink_5 : decode cX6_changeLink 5 = .ok (.iconst 4, 1) := by decide +kernel
theorem dX6_changeLink_6 : decode cX6_changeLink 6 = .ok (.imul, 1) := by decide +kernel
theorem dX6_changeLink_7 : decode cX6_changeLink 7 = .ok (.iload_n 2, 1) := by decide +kernel
theorem dX6_changeLink_8 : decode cX6_changeLink 8 = .ok (.iadd, 1) := by decide +kernel
theorem dX6_changeLink_9 : decode cX6_changeLink 9 = .ok (.iaload, 1) := by decide +kernel
theorem dX6_changeLink_10 : decode cX6_changeLink 10 = .ok (.istore 4, 2) := by decide +kernel
theorem dX6_changeLink_12 : decode cX6_changeLink 12 = .ok (.aload_n 0, 1) := by decide +kernel
theorem dX6_changeLink_13 : decode cX6_changeLink 13 = .ok (.getfield 18, 3) := by decide +kernel
theorem dX6_changeLink_16 : decode cX6_changeLink 16 = .ok (.iload_n 1, 1) := by decide +kernel
theorem dX6_changeLink_17 : decode cX6_changeLink 17 = .ok (.iconst 4, 1) := by decide +kernel
theorem dX6_changeLink_18 : decode cX6_changeLink 18 = .ok (.imul, 1) := by decide +kernel
theorem dX6_changeLink_19 : decode cX6_changeLink 19 = .ok (.iload_n 2, 1) := by decide +kernel
theorem dX6_changeLink_20 : decode cX6_changeLink 20 = .ok (.iadd, 1) := by decide +kernel
theorem dX6_changeLink_21 : decode cX6_changeLink 21 = .ok (.iload_n 3, 1) := by decide +kernel
theorem dX6_changeLink_22 : decode cX6_changeLink 22 = .ok (.iastore, 1) := by decide +kernel
theorem dX6_changeLink_23 : decode cX6_changeLink 23 = .ok (.iload 4, 2) := by decide +kernel
theorem dX6_changeLink_25 : decode cX6_changeLink 25 = .ok (.ireturn, 1) := by decide +kernel
theorem dX6_linkingColumn_0 : decode cX6_linkingColumn 0 = .ok (.iconst 0, 1) := by decide +kernel
theorem dX6_linkingColumn_1 : decode cX6_linkingColumn 1 = .ok (.istore_n 3, 1) := by decide +kernel
theorem dX6_linkingColumn_2 : decode cX6_linkingColumn 2 = .ok (.iload_n 3, 1) := by decide +kernel
theorem dX6_linkingColumn_3 : decode cX6_linkingColumn 3 = .ok (.aload_n 0, 1) := by decide +kernel
theorem dX6_linkingColumn_4 : decode cX6_linkingColumn 4 = .ok (.getfield 9, 3) := by decide +kernel
theorem dX6_linkingColumn_7 : decode cX6_linkingColumn 7 = .ok (.iload_n 1, 1) := by decide +kernel
theorem dX6_linkingColumn_8 : decode cX6_linkingColumn 8 = .ok (.iaload, 1) := by decide +kernel
theorem dX6_linkingColumn_9 : decode cX6_linkingColumn 9 = .ok (.if_icmp .ge 25, 3) := by decide +kernel
theorem dX6_linkingColumn_12 : decode cX6_linkingColumn 12 = .ok (.aload_n 0, 1) := by decide +kernel
theorem dX6_linkingColumn_13 : decode cX6_linkingColumn 13 = .ok (.getfield 18, 3) := by decide +kernel
theorem dX6_linkingColumn_16 : decode cX6_linkingColumn 16 = .ok (.iload_n 1, 1) := by decide +kernel
theorem dX6_linkingColumn_17 : decode cX6_linkingColumn 17 = .ok (.iconst 4, 1) := by decide +kernel
theorem dX6_linkingColumn_18 : decode cX6_linkingColumn 18 = .ok (.imul, 1) := by decide +kernel
theorem dX6_linkingColumn_19 : decode cX6_linkingColumn 19 = .ok (.iload_n 3, 1) := by decide +kernel
theorem dX6_linkingColumn_20 : decode cX6_linkingColumn 20 = .ok (.iadd, 1) := by decide +kernel
theorem dX6_linkingColumn_21 : decode cX6_linkingColumn 21 = .ok (.iaload, 1) := by decide +kernel
theorem dX6_linkingColumn_22 : decode cX6_linkingColumn 22 = .ok (.iload_n 2, 1) := by decide +kernel
theorem dX6_linkingColumn_23 : decode cX6_linkingColumn 23 = .ok (.if_icmp .ne 5, 3) := by decide +kernel
theorem dX6_linkingColumn_26 : decode cX6_linkingColumn 26 = .ok (.iload_n 3, 1) := by decide +kernel
theorem dX6_linkingColumn_27 : decode cX6_linkingColumn 27 = .ok (.ireturn, 1) := by decide +kernel
theorem dX6_linkingColumn_28 : decode cX6_linkingColumn 28 = .ok (.iinc 3 1, 3) := by decide +kernel
theorem dX6_linkingColumn_31 : decode cX6_linkingColumn 31 = .ok (.goto (-29), 3) := by decide +kernel
theorem dX6_linkingColumn_34 : decode cX6_linkingColumn 34 = .ok (.iconst (-1), 1) := by decide +kernel
theorem dX6_linkingColumn_35 : decode cX6_linkingColumn 35 = .ok (.ireturn, 1) := by decide +kernel
theorem dX6_hasRow_0 : decode cX6_hasRow 0 = .ok (.iload_n 2, 1) := by decide +kernel
theorem dX6_hasRow_1 : decode cX6_hasRow 1 = .ok (.ifCond .lt 17, 3) := by decide +kernel
theorem dX6_hasRow_4 : decode cX6_hasRow 4 = .ok (.iload_n 2, 1) := by decide +kernel
theorem dX6_hasRow_5 : decode cX6_hasRow 5 = .ok (.aload_n 0, 1) := by decide +kernel
theorem dX6_hasRow_6 : decode cX6_hasRow 6 = .ok (.getfield 15, 3) := by decide +kernel
theorem dX6_hasRow_9 : decode cX6_hasRow 9 = .ok (.iload_n 1, 1) := by decide +kernel
theorem dX6_hasRow_10 : decode cX6_hasRow 10 = .ok (.iaload, 1) := by decide +kernel
theorem dX6_hasRow_11 : decode cX6_hasRow 11 = .ok (.if_icmp .ge 7, 3) := by decide +kernel
theorem dX6_hasRow_14 : decode cX6_hasRow 14 = .ok (.iconst 1, 1) := by decide +kernel
theorem dX6_hasRow_15 : decode cX6_hasRow 15 = .ok (.goto 4, 3) := by decide +kernel
theorem dX6_hasRow_18 : decode cX6_hasRow 18 = .ok (.iconst 0, 1) := by decide +kernel
theorem dX6_hasRow_19 : decode cX6_hasRow 19 = .ok (.ireturn, 1) := by decide +kernel
theorem dX7_init_0 : decode cX7_init 0 = .ok (.aload_n 0, 1) := by decide +kernel
theorem dX7_init_1 : decode cX7_init 1 = .ok (.invokespecial 3, 3) := by decide +kernel
theorem dX7_init_4 : decode cX7_init 4 = .ok (.aload_n 0, 1) := by decide +kernel
theorem dX7_init_5 : decode cX7_init 5 = .ok (.bipush 40, 2) := by decide +kernel
theorem dX7_init_7 : decode cX7_init 7 = .ok (.newarray .int, 2) := by decide +kernel
theorem dX7_init_9 : decode cX7_init 9 = .ok (.putfield 9, 3) := by decide +kernel
theorem dX7_init_12 : decode cX7_init 12 = .ok (.aload_n 0, 1) := by decide +kernel
theorem dX7_init_13 : decode cX7_init 13 = .ok (.bipush 120, 2) := by decide +kernel
theorem dX7_init_15 : decode cX7_init 15 = .ok (.newarray .int, 2) := by decide +kernel
theorem dX7_init_17 : decode cX7_init 17 = .ok (.putfield 15, 3) := by decide +kernel
theorem dX7_init_20 : decode cX7_init 20 = .ok (.aload_n 0, 1) := by decide +kernel
theorem dX7_init_21 : decode cX7_init 21 = .ok (.bipush 120, 2) := by decide +kernel
theorem dX7_init_23 : decode cX7_init 23 = .ok (.newarray .int, 2) := by decide +kernel
theorem dX7_init_25 : decode cX7_init 25 = .ok (.putfield 18, 3) := by decide +kernel
theorem dX7_init_28 : decode cX7_init 28 = .ok (.aload_n 0, 1) := by decide +kernel
theorem dX7_init_29 : decode cX7_init 29 = .ok (.bipush 120, 2) := by decide +kernel
theorem dX7_init_31 : decode cX7_init 31 = .ok (.newarray .int, 2) := by decide +kernel
theorem dX7_init_33 : decode cX7_init 33 = .ok (.putfield 21, 3) := by decide +kernel
theorem dX7_init_36 : decode cX7_init 36 = .ok (.aload_n 0, 1) := by decide +kernel
theorem dX7_init_37 : decode cX7_init 37 = .ok (.bipush 120, 2) := by decide +kernel
theorem dX7_init_39 : decode cX7_init 39 = .ok (.newarray .int, 2) := by decide +kernel
theorem dX7_init_41 : decode cX7_init 41 = .ok (.putfield 24, 3) := by decide +kernel
theorem dX7_init_44 : decode cX7_init 44 = .ok (.aload_n 0, 1) := by decide +kernel
theorem dX7_init_45 : decode cX7_init 45 = .ok (.bipush 120, 2) := by decide +kernel
theorem dX7_init_47 : decode cX7_init 47 = .ok (.newarray .int, 2) := by decide +kernel
theorem dX7_init_49 : decode cX7_init 49 = .ok (.putfield 27, 3) := by decide +kernel
theorem dX7_init_52 : decode cX7_init 52 = .ok (.return_, 1) := by decide +kernel
theorem dX7_size_0 : decode cX7_size 0 = .ok (.aload_n 0, 1) := by decide +kernel
theorem dX7_size_1 : decode cX7_size 1 = .ok (.getfield 30, 3) := by decide +kernel
theorem dX7_size_4 : decode cX7_size 4 = .ok (.ireturn, 1) := by decide +kernel
theorem dX7_meaningsOf_0 : decode cX7_meaningsOf 0 = .ok (.aload_n 0, 1) := by decide +kernel
theorem dX7_meaningsOf_1 : decode cX7_meaningsOf 1 = .ok (.getfield 9, 3) := by decide +kernel
theorem dX7_meaningsOf_4 : decode cX7_meaningsOf 4 = .ok (.iload_n 1, 1) := by decide +kernel
theorem dX7_meaningsOf_5 : decode cX7_meaningsOf 5 = .ok (.iaload, 1) := by decide +kernel
theorem dX7_meaningsOf_6 : decode cX7_meaningsOf 6 = .ok (.ireturn, 1) := by decide +kernel
theorem dX7_spotOf_0 : decode cX7_spotOf 0 = .ok (.iload_n 1, 1) := by decide +kernel
theorem dX7_spotOf_1 : decode cX7_spotOf 1 = .ok (.iconst 3, 1) := by decide +kernel
theorem dX7_spotOf_2 : decode cX7_spotOf 2 = .ok (.imul, 1) := by decide +kernel
theorem dX7_spotOf_3 : decode cX7_spotOf 3 = .ok (.iload_n 2, 1) := by decide +kernel
theorem dX7_spotOf_4 : decode cX7_spotOf 4 = .ok (.iadd, 1) := by decide +kernel
theorem dX7_spotOf_5 : decode cX7_spotOf 5 = .ok (.ireturn, 1) := by decide +kernel
theorem dX7_sortAt_0 : decode cX7_sortAt 0 = .ok (.aload_n 0, 1) := by decide +kernel
theorem dX7_sortAt_1 : decode cX7_sortAt 1 = .ok (.getfield 15, 3) := by decide +kernel
theorem dX7_sortAt_4 : decode cX7_sortAt 4 = .ok (.iload_n 1, 1) := by decide +kernel
theorem dX7_sortAt_5 : decode cX7_sortAt 5 = .ok (.iaload, 1) := by decide +kernel
theorem dX7_sortAt_6 : decode cX7_sortAt 6 = .ok (.ireturn, 1) := by decide +kernel
theorem dX7_aAt_0 : decode cX7_aAt 0 = .ok (.aload_n 0, 1) := by decide +kernel
theorem dX7_aAt_1 : decode cX7_aAt 1 = .ok (.getfield 18, 3) := by decide +kernel
theorem dX7_aAt_4 : decode cX7_aAt 4 = .ok (.iload_n 1, 1) := by decide +kernel
theorem dX7_aAt_5 : decode cX7_aAt 5 = .ok (.iaload, 1) := by decide +kernel
theorem dX7_aAt_6 : decode cX7_aAt 6 = .ok (.ireturn, 1) := by decide +kernel
theorem dX7_bAt_0 : decode cX7_bAt 0 = .ok (.aload_n 0, 1) := by decide +kernel
theorem dX7_bAt_1 : decode cX7_bAt 1 = .ok (.getfield 21, 3) := by decide +kernel
theorem dX7_bAt_4 : decode cX7_bAt 4 = .ok (.iload_n 1, 1) := by decide +kernel
theorem dX7_bAt_5 : decode cX7_bAt 5 = .ok (.iaload, 1) := by decide +kernel
theorem dX7_bAt_6 : decode cX7_bAt 6 = .ok (.ireturn, 1) := by decide +kernel
theorem dX7_cAt_0 : decode cX7_cAt 0 = .ok (.aload_n 0, 1) := by decide +kernel
theorem dX7_cAt_1 : decode cX7_cAt 1 = .ok (.getfield 24, 3) := by decide +kernel
theorem dX7_cAt_4 : decode cX7_cAt 4 = .ok (.iload_n 1, 1) := by decide +kernel
theorem dX7_cAt_5 : decode cX7_cAt 5 = .ok (.iaload, 1) := by decide +kernel
theorem dX7_cAt_6 : decode cX7_cAt 6 = .ok (.ireturn, 1) := by decide +kernel
theorem dX7_costAt_0 : decode cX7_costAt 0 = .ok (.aload_n 0, 1) := by decide +kernel
theorem dX7_costAt_1 : decode cX7_costAt 1 = .ok (.getfield 27, 3) := by decide +kernel
theorem dX7_costAt_4 : decode cX7_costAt 4 = .ok (.iload_n 1, 1) := by decide +kernel
theorem dX7_costAt_5 : decode cX7_costAt 5 = .ok (.iaload, 1) := by decide +kernel
theorem dX7_costAt_6 : decode cX7_costAt 6 = .ok (.ireturn, 1) := by decide +kernel
theorem dX7_addMeaning_0 : decode cX7_addMeaning 0 = .ok (.aload_n 0, 1) := by decide +kernel
theorem dX7_addMeaning_1 : decode cX7_addMeaning 1 = .ok (.iload_n 1, 1) := by decide +kernel
theorem dX7_addMeaning_2 : decode cX7_addMeaning 2 = .ok (.aload_n 0, 1) := by decide +kernel
theorem dX7_addMeaning_3 : decode cX7_addMeaning 3 = .ok (.getfield 9, 3) := by decide +kernel
theorem dX7_addMeaning_6 : decode cX7_addMeaning 6 = .ok (.iload_n 1, 1) := by decide +kernel
theorem dX7_addMeaning_7 : decode cX7_addMeaning 7 = .ok (.iaload, 1) := by decide +kernel
theorem dX7_addMeaning_8 : decode cX7_addMeaning 8 = .ok (.invokevirtual 34, 3) := by decide +kernel
theorem dX7_addMeaning_11 : decode cX7_addMeaning 11 = .ok (.istore 7, 2) := by decide +kernel
theorem dX7_addMeaning_13 : decode cX7_addMeaning 13 = .ok (.aload_n 0, 1) := by decide +kernel
theorem dX7_addMeaning_14 : decode cX7_addMeaning 14 = .ok (.getfield 15, 3) := by decide +kernel
theorem dX7_addMeaning_17 : decode cX7_addMeaning 17 = .ok (.iload 7, 2) := by decide +kernel
theorem dX7_addMeaning_19 : decode cX7_addMeaning 19 = .ok (.iload_n 2, 1) := by decide +kernel
theorem dX7_addMeaning_20 : decode cX7_addMeaning 20 = .ok (.iastore, 1) := by decide +kernel
theorem dX7_addMeaning_21 : decode cX7_addMeaning 21 = .ok (.aload_n 0, 1) := by decide +kernel
theorem dX7_addMeaning_22 : decode cX7_addMeaning 22 = .ok (.getfield 18, 3) := by decide +kernel
theorem dX7_addMeaning_25 : decode cX7_addMeaning 25 = .ok (.iload 7, 2) := by decide +kernel
theorem dX7_addMeaning_27 : decode cX7_addMeaning 27 = .ok (.iload_n 3, 1) := by decide +kernel
theorem dX7_addMeaning_28 : decode cX7_addMeaning 28 = .ok (.iastore, 1) := by decide +kernel
theorem dX7_addMeaning_29 : decode cX7_addMeaning 29 = .ok (.aload_n 0, 1) := by decide +kernel
theorem dX7_addMeaning_30 : decode cX7_addMeaning 30 = .ok (.getfield 21, 3) := by decide +kernel
theorem dX7_addMeaning_33 : decode cX7_addMeaning 33 = .ok (.iload 7, 2) := by decide +kernel
theorem dX7_addMeaning_35 : decode cX7_addMeaning 35 = .ok (.iload 4, 2) := by decide +kernel
theorem dX7_addMeaning_37 : decode cX7_addMeaning 37 = .ok (.iastore, 1) := by decide +kernel
theorem dX7_addMeaning_38 : decode cX7_addMeaning 38 = .ok (.aload_n 0, 1) := by decide +kernel
theorem dX7_addMeaning_39 : decode cX7_addMeaning 39 = .ok (.getfield 24, 3) := by decide +kernel
theorem dX7_addMeaning_42 : decode cX7_addMeaning 42 = .ok (.iload 7, 2) := by decide +kernel
theorem dX7_addMeaning_44 : decode cX7_addMeaning 44 = .ok (.iload 5, 2) := by decide +kernel
theorem dX7_addMeaning_46 : decode cX7_addMeaning 46 = .ok (.iastore, 1) := by decide +kernel
theorem dX7_addMeaning_47 : decode cX7_addMeaning 47 = .ok (.aload_n 0, 1) := by decide +kernel
theorem dX7_addMeaning_48 : decode cX7_addMeaning 48 = .ok (.getfield 27, 3) := by decide +kernel
theorem dX7_addMeaning_51 : decode cX7_addMeaning 51 = .ok (.iload 7, 2) := by decide +kernel
theorem dX7_addMeaning_53 : decode cX7_addMeaning 53 = .ok (.iload 6, 2) := by decide +kernel
theorem dX7_addMeaning_55 : decode cX7_addMeaning 55 = .ok (.iastore, 1) := by decide +kernel
theorem dX7_addMeaning_56 : decode cX7_addMeaning 56 = .ok (.aload_n 0, 1) := by decide +kernel
theorem dX7_addMeaning_57 : decode cX7_addMeaning 57 = .ok (.getfield 9, 3) := by decide +kernel
theorem dX7_addMeaning_60 : decode cX7_addMeaning 60 = .ok (.iload_n 1, 1) := by decide +kernel
theorem dX7_addMeaning_61 : decode cX7_addMeaning 61 = .ok (.dup2, 1) := by decide +kernel
theorem dX7_addMeaning_62 : decode cX7_addMeaning 62 = .ok (.iaload, 1) := by decide +kernel
theorem dX7_addMeaning_63 : decode cX7_addMeaning 63 = .ok (.iconst 1, 1) := by decide +kernel
theorem dX7_addMeaning_64 : decode cX7_addMeaning 64 = .ok (.iadd, 1) := by decide +kernel
theorem dX7_addMeaning_65 : decode cX7_addMeaning 65 = .ok (.iastore, 1) := by decide +kernel
theorem dX7_addMeaning_66 : decode cX7_addMeaning 66 = .ok (.aload_n 0, 1) := by decide +kernel
theorem dX7_addMeaning_67 : decode cX7_addMeaning 67 = .ok (.dup, 1) := by decide +kernel
theorem dX7_addMeaning_68 : decode cX7_addMeaning 68 = .ok (.getfield 30, 3) := by decide +kernel
theorem dX7_addMeaning_71 : decode cX7_addMeaning 71 = .ok (.iconst 1, 1) := by decide +kernel
theorem dX7_addMeaning_72 : decode cX7_addMeaning 72 = .ok (.iadd, 1) := by decide +kernel
theorem dX7_addMeaning_73 : decode cX7_addMeaning 73 = .ok (.putfield 30, 3) := by decide +kernel
theorem dX7_addMeaning_76 : decode cX7_addMeaning 76 = .ok (.aload_n 0, 1) := by decide +kernel
theorem dX7_addMeaning_77 : decode cX7_addMeaning 77 = .ok (.getfield 9, 3) := by decide +kernel
theorem dX7_addMeaning_80 : decode cX7_addMeaning 80 = .ok (.iload_n 1, 1) := by decide +kernel
theorem dX7_addMeaning_81 : decode cX7_addMeaning 81 = .ok (.iaload, 1) := by decide +kernel
theorem dX7_addMeaning_82 : decode cX7_addMeaning 82 = .ok (.iconst 1, 1) := by decide +kernel
theorem dX7_addMeaning_83 : decode cX7_addMeaning 83 = .ok (.isub, 1) := by decide +kernel
theorem dX7_addMeaning_84 : decode cX7_addMeaning 84 = .ok (.ireturn, 1) := by decide +kernel
theorem dX7_dropMeanings_0 : decode cX7_dropMeanings 0 = .ok (.aload_n 0, 1) := by decide +kernel
theorem dX7_dropMeanings_1 : decode cX7_dropMeanings 1 = .ok (.getfield 9, 3) := by decide +kernel
theorem dX7_dropMeanings_4 : decode cX7_dropMeanings 4 = .ok (.iload_n 1, 1) := by decide +kernel
theorem dX7_dropMeanings_5 : decode cX7_dropMeanings 5 = .ok (.iaload, 1) := by decide +kernel
theorem dX7_dropMeanings_6 : decode cX7_dropMeanings 6 = .ok (.istore_n 2, 1) := by decide +kernel
theorem dX7_dropMeanings_7 : decode cX7_dropMeanings 7 = .ok (.aload_n 0, 1) := by decide +kernel
theorem dX7_dropMeanings_8 : decode cX7_dropMeanings 8 = .ok (.getfield 9, 3) := by decide +kernel
theorem dX7_dropMeanings_11 : decode cX7_dropMeanings 11 = .ok (.iload_n 1, 1) := by decide +kernel
theorem dX7_dropMeanings_12 : decode cX7_dropMeanings 12 = .ok (.iconst 0, 1) := by decide +kernel
theorem dX7_dropMeanings_13 : decode cX7_dropMeanings 13 = .ok (.iastore, 1) := by decide +kernel
theorem dX7_dropMeanings_14 : decode cX7_dropMeanings 14 = .ok (.aload_n 0, 1) := by decide +kernel
theorem dX7_dropMeanings_15 : decode cX7_dropMeanings 15 = .ok (.dup, 1) := by decide +kernel
theorem dX7_dropMeanings_16 : decode cX7_dropMeanings 16 = .ok (.getfield 30, 3) := by decide +kernel
theorem dX7_dropMeanings_19 : decode cX7_dropMeanings 19 = .ok (.iload_n 2, 1) := by decide +kernel
theorem dX7_dropMeanings_20 : decode cX7_dropMeanings 20 = .ok (.isub, 1) := by decide +kernel
theorem dX7_dropMeanings_21 : decode cX7_dropMeanings 21 = .ok (.putfield 30, 3) := by decide +kernel
theorem dX7_dropMeanings_24 : decode cX7_dropMeanings 24 = .ok (.iload_n 2, 1) := by decide +kernel
theorem dX7_dropMeanings_25 : decode cX7_dropMeanings 25 = .ok (.ireturn, 1) := by decide +kernel
theorem dX7_learn_0 : decode cX7_learn 0 = .ok (.iconst 0, 1) := by decide +kernel
theorem dX7_learn_1 : decode cX7_learn 1 = .ok (.istore_n 3, 1) := by decide +kernel
theorem dX7_learn_2 : decode cX7_learn 2 = .ok (.iconst 0, 1) := by decide +kernel
theorem dX7_learn_3 : decode cX7_learn 3 = .ok (.istore 4, 2) := by decide +kernel
theorem dX7_learn_5 : decode cX7_learn 5 = .ok (.iload 4, 2) := by decide +kernel
theorem dX7_learn_7 : decode cX7_learn 7 = .ok (.aload_n 0, 1) := by decide +kernel
theorem dX7_learn_8 : decode cX7_learn 8 = .ok (.getfield 9, 3) := by decide +kernel
theorem dX7_learn_11 : decode cX7_learn 11 = .ok (.iload_n 1, 1) := by decide +kernel
theorem dX7_learn_12 : decode cX7_learn 12 = .ok (.iaload, 1) := by decide +kernel
theorem dX7_learn_13 : decode cX7_learn 13 = .ok (.if_icmp .ge 75, 3) := by decide +kernel
theorem dX7_learn_16 : decode cX7_learn 16 = .ok (.aload_n 0, 1) := by decide +kernel
theorem dX7_learn_17 : decode cX7_learn 17 = .ok (.iload_n 1, 1) := by decide +kernel
theorem dX7_learn_18 : decode cX7_learn 18 = .ok (.iload 4, 2) := by decide +kernel
theorem dX7_learn_20 : decode cX7_learn 20 = .ok (.invokevirtual 34, 3) := by decide +kernel
theorem dX7_learn_23 : decode cX7_learn 23 = .ok (.istore 5, 2) := by decide +kernel
theorem dX7_learn_25 : decode cX7_learn 25 = .ok (.aload_n 0, 1) := by decide +kernel
theorem dX7_learn_26 : decode cX7_learn 26 = .ok (.getfield 27, 3) := by decide +kernel
theorem dX7_learn_29 : decode cX7_learn 29 = .ok (.iload 5, 2) := by decide +kernel
theorem dX7_learn_31 : decode cX7_learn 31 = .ok (.iaload, 1) := by decide +kernel
theorem dX7_learn_32 : decode cX7_learn 32 = .ok (.istore 6, 2) := by decide +kernel
theorem dX7_learn_34 : decode cX7_learn 34 = .ok (.aload_n 0, 1) := by decide +kernel
theorem dX7_learn_35 : decode cX7_learn 35 = .ok (.getfield 27, 3) := by decide +kernel
theorem dX7_learn_38 : decode cX7_learn 38 = .ok (.iload 5, 2) := by decide +kernel
theorem dX7_learn_40 : decode cX7_learn 40 = .ok (.iload 4, 2) := by decide +kernel
theorem dX7_learn_42 : decode cX7_learn 42 = .ok (.iload_n 2, 1) := by decide +kernel
theorem dX7_learn_43 : decode cX7_learn 43 = .ok (.if_icmp .ne 14, 3) := by decide +kernel
theorem dX7_learn_46 : decode cX7_learn 46 = .ok (.iload 6, 2) := by decide +kernel
theorem dX7_learn_48 : decode cX7_learn 48 = .ok (.iconst 1, 1) := by decide +kernel
theorem dX7_learn_49 : decode cX7_learn 49 = .ok (.isub, 1) := by decide +kernel
theorem dX7_learn_50 : decode cX7_learn 50 = .ok (.iconst 0, 1) := by decide +kernel
theorem dX7_learn_51 : decode cX7_learn 51 = .ok (.invokestatic 38, 3) := by decide +kernel
theorem dX7_learn_54 : decode cX7_learn 54 = .ok (.goto 12, 3) := by decide +kernel
theorem dX7_learn_57 : decode cX7_learn 57 = .ok (.iload 6, 2) := by decide +kernel
theorem dX7_learn_59 : decode cX7_learn 59 = .ok (.iconst 1, 1) := by decide +kernel
theorem dX7_learn_60 : decode cX7_learn 60 = .ok (.iadd, 1) := by decide +kernel
theorem dX7_learn_61 : decode cX7_learn 61 = .ok (.bipush 99, 2) := by decide +kernel
theorem dX7_learn_63 : decode cX7_learn 63 = .ok (.invokestatic 43, 3) := by decide +kernel
theorem dX7_learn_66 : decode cX7_learn 66 = .ok (.iastore, 1) := by decide +kernel
theorem dX7_learn_67 : decode cX7_learn 67 = .ok (.aload_n 0, 1) := by decide +kernel
theorem dX7_learn_68 : decode cX7_learn 68 = .ok (.getfield 27, 3) := by decide +kernel
theorem dX7_learn_71 : decode cX7_learn 71 = .ok (.iload 5, 2) := by decide +kernel
theorem dX7_learn_73 : decode cX7_learn 73 = .ok (.iaload, 1) := by decide +kernel
theorem dX7_learn_74 : decode cX7_learn 74 = .ok (.iload 6, 2) := by decide +kernel
theorem dX7_learn_76 : decode cX7_learn 76 = .ok (.if_icmp .eq 6, 3) := by decide +kernel
theorem dX7_learn_79 : decode cX7_learn 79 = .ok (.iinc 3 1, 3) := by decide +kernel
theorem dX7_learn_82 : decode cX7_learn 82 = .ok (.iinc 4 1, 3) := by decide +kernel
theorem dX7_learn_85 : decode cX7_learn 85 = .ok (.goto (-80), 3) := by decide +kernel
theorem dX7_learn_88 : decode cX7_learn 88 = .ok (.iload_n 3, 1) := by decide +kernel
theorem dX7_learn_89 : decode cX7_learn 89 = .ok (.ireturn, 1) := by decide +kernel
