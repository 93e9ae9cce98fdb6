theorem dX8_init_0 : decode cX8_init 0 = .ok (.aload_n 0, 1) := by decide +kernel
theorem dX8_init_1 : decode cX8_init 1 = .ok (.invokespecial 1, 3) := by decide +kernel
theorem dX8_init_4 : decode cX8_init 4 = .ok (.aload_n 0, 1) := by decide +kernel
theorem dX8_init_5 : decode cX8_init 5 = .ok (.new 7, 3) := by decide +kernel
theorem dX8_init_8 : decode cX8_init 8 = .ok (.dup, 1) := by decide +kernel
theorem dX8_init_9 : decode cX8_init 9 = .ok (.invokespecial 9, 3) := by decide +kernel
theorem dX8_init_12 : decode cX8_init 12 = .ok (.putfield 10, 3) := by decide +kernel
theorem dX8_init_15 : decode cX8_init 15 = .ok (.aload_n 0, 1) := by decide +kernel
theorem dX8_init_16 : decode cX8_init 16 = .ok (.new 16, 3) := by decide +kernel
theorem dX8_init_19 : decode cX8_init 19 = .ok (.dup, 1) := by decide +kernel
theorem dX8_init_20 : decode cX8_init 20 = .ok (.invokespecial 18, 3) := by decide +kernel
theorem dX8_init_23 : decode cX8_init 23 = .ok (.putfield 19, 3) := by decide +kernel
theorem dX8_init_26 : decode cX8_init 26 = .ok (.aload_n 0, 1) := by decide +kernel
theorem dX8_init_27 : decode cX8_init 27 = .ok (.new 23, 3) := by decide +kernel
theorem dX8_init_30 : decode cX8_init 30 = .ok (.dup, 1) := by decide +kernel
theorem dX8_init_31 : decode cX8_init 31 = .ok (.invokespecial 25, 3) := by decide +kernel
theorem dX8_init_34 : decode cX8_init 34 = .ok (.putfield 26, 3) := by decide +kernel
theorem dX8_init_37 : decode cX8_init 37 = .ok (.aload_n 0, 1) := by decide +kernel
theorem dX8_init_38 : decode cX8_init 38 = .ok (.new 30, 3) := by decide +kernel
theorem dX8_init_41 : decode cX8_init 41 = .ok (.dup, 1) := by decide +kernel
theorem dX8_init_42 : decode cX8_init 42 = .ok (.aload_n 0, 1) := by decide +kernel
theorem dX8_init_43 : decode cX8_init 43 = .ok (.getfield 10, 3) := by decide +kernel
theorem dX8_init_46 : decode cX8_init 46 = .ok (.aload_n 0, 1) := by decide +kernel
theorem dX8_init_47 : decode cX8_init 47 = .ok (.getfield 19, 3) := by decide +kernel
theorem dX8_init_50 : decode cX8_init 50 = .ok (.aload_n 0, 1) := by decide +kernel
theorem dX8_init_51 : decode cX8_init 51 = .ok (.getfield 26, 3) := by decide +kernel
theorem dX8_init_54 : decode cX8_init 54 = .ok (.invokespecial 32, 3) := by decide +kernel
theorem dX8_init_57 : decode cX8_init 57 = .ok (.putfield 35, 3) := by decide +kernel
theorem dX8_init_60 : decode cX8_init 60 = .ok (.aload_n 0, 1) := by decide +kernel
theorem dX8_init_61 : decode cX8_init 61 = .ok (.new 39, 3) := by decide +kernel
theorem dX8_init_64 : decode cX8_init 64 = .ok (.dup, 1) := by decide +kernel
theorem dX8_init_65 : decode cX8_init 65 = .ok (.aload_n 0, 1) := by decide +kernel
theorem dX8_init_66 : decode cX8_init 66 = .ok (.getfield 10, 3) := by decide +kernel
theorem dX8_init_69 : decode cX8_init 69 = .ok (.invokespecial 41, 3) := by decide +kernel
theorem dX8_init_72 : decode cX8_init 72 = .ok (.putfield 44, 3) := by decide +kernel
theorem dX8_init_75 : decode cX8_init 75 = .ok (.aload_n 0, 1) := by decide +kernel
theorem dX8_init_76 : decode cX8_init 76 = .ok (.new 48, 3) := by decide +kernel
theorem dX8_init_79 : decode cX8_init 79 = .ok (.dup, 1) := by decide +kernel
theorem dX8_init_80 : decode cX8_init 80 = .ok (.aload_n 0, 1) := by decide +kernel
theorem dX8_init_81 : decode cX8_init 81 = .ok (.getfield 26, 3) := by decide +kernel
theorem dX8_init_84 : decode cX8_init 84 = .ok (.aload_n 0, 1) := by decide +kernel
theorem dX8_init_85 : decode cX8_init 85 = .ok (.getfield 35, 3) := by decide +kernel
theorem dX8_init_88 : decode cX8_init 88 = .ok (.aload_n 0, 1) := by decide +kernel
theorem dX8_init_89 : decode cX8_init 89 = .ok (.getfield 44, 3) := by decide +kernel
theorem dX8_init_92 : decode cX8_init 92 = .ok (.invokespecial 50, 3) := by decide +kernel
theorem dX8_init_95 : decode cX8_init 95 = .ok (.putfield 53, 3) := by decide +kernel
theorem dX8_init_98 : decode cX8_init 98 = .ok (.return_, 1) := by decide +kernel
theorem dX8_table_0 : decode cX8_table 0 = .ok (.iload_n 1, 1) := by decide +kernel
theorem dX8_table_1 : decode cX8_table 1 = .ok (.iconst 1, 1) := by decide +kernel
theorem dX8_table_2 : decode cX8_table 2 = .ok (.if_icmp .lt 8, 3) := by decide +kernel
theorem dX8_table_5 : decode cX8_table 5 = .ok (.iload_n 1, 1) := by decide +kernel
theorem dX8_table_6 : decode cX8_table 6 = .ok (.iconst 4, 1) := by decide +kernel
theorem dX8_table_7 : decode cX8_table 7 = .ok (.if_icmp .le 5, 3) := by decide +kernel
theorem dX8_table_10 : decode cX8_table 10 = .ok (.iconst (-1), 1) := by decide +kernel
theorem dX8_table_11 : decode cX8_table 11 = .ok (.ireturn, 1) := by decide +kernel
theorem dX8_table_12 : decode cX8_table 12 = .ok (.aload_n 0, 1) := by decide +kernel
theorem dX8_table_13 : decode cX8_table 13 = .ok (.getfield 10, 3) := by decide +kernel
theorem dX8_table_16 : decode cX8_table 16 = .ok (.invokevirtual 57, 3) := by decide +kernel
theorem dX8_table_19 : decode cX8_table 19 = .ok (.iconst 4, 1) := by decide +kernel
theorem dX8_table_20 : decode cX8_table 20 = .ok (.if_icmp .lt 6, 3) := by decide +kernel
theorem dX8_table_23 : decode cX8_table 23 = .ok (.bipush (-2), 2) := by decide +kernel
theorem dX8_table_25 : decode cX8_table 25 = .ok (.ireturn, 1) := by decide +kernel
theorem dX8_table_26 : decode cX8_table 26 = .ok (.aload_n 0, 1) := by decide +kernel
theorem dX8_table_27 : decode cX8_table 27 = .ok (.getfield 10, 3) := by decide +kernel
theorem dX8_table_30 : decode cX8_table 30 = .ok (.iload_n 1, 1) := by decide +kernel
theorem dX8_table_31 : decode cX8_table 31 = .ok (.invokevirtual 61, 3) := by decide +kernel
theorem dX8_table_34 : decode cX8_table 34 = .ok (.ireturn, 1) := by decide +kernel
theorem dX8_row_0 : decode cX8_row 0 = .ok (.aload_n 0, 1) := by decide +kernel
theorem dX8_row_1 : decode cX8_row 1 = .ok (.getfield 10, 3) := by decide +kernel
theorem dX8_row_4 : decode cX8_row 4 = .ok (.iload_n 1, 1) := by decide +kernel
theorem dX8_row_5 : decode cX8_row 5 = .ok (.invokevirtual 65, 3) := by decide +kernel
theorem dX8_row_8 : decode cX8_row 8 = .ok (.ifCond .ne 5, 3) := by decide +kernel
theorem dX8_row_11 : decode cX8_row 11 = .ok (.iconst (-1), 1) := by decide +kernel
theorem dX8_row_12 : decode cX8_row 12 = .ok (.ireturn, 1) := by decide +kernel
theorem dX8_row_13 : decode cX8_row 13 = .ok (.aload_n 0, 1) := by decide +kernel
theorem dX8_row_14 : decode cX8_row 14 = .ok (.getfield 10, 3) := by decide +kernel
theorem dX8_row_17 : decode cX8_row 17 = .ok (.iload_n 1, 1) := by decide +kernel
theorem dX8_row_18 : decode cX8_row 18 = .ok (.invokevirtual 69, 3) := by decide +kernel
theorem dX8_row_21 : decode cX8_row 21 = .ok (.bipush 20, 2) := by decide +kernel
theorem dX8_row_23 : decode cX8_row 23 = .ok (.if_icmp .lt 6, 3) := by decide +kernel
theorem dX8_row_26 : decode cX8_row 26 = .ok (.bipush (-2), 2) := by decide +kernel
theorem dX8_row_28 : decode cX8_row 28 = .ok (.ireturn, 1) := by decide +kernel
theorem dX8_row_29 : decode cX8_row 29 = .ok (.aload_n 0, 1) := by decide +kernel
theorem dX8_row_30 : decode cX8_row 30 = .ok (.invokevirtual 72, 3) := by decide +kernel
theorem dX8_row_33 : decode cX8_row 33 = .ok (.aload_n 0, 1) := by decide +kernel
theorem dX8_row_34 : decode cX8_row 34 = .ok (.getfield 10, 3) := by decide +kernel
theorem dX8_row_37 : decode cX8_row 37 = .ok (.iload_n 1, 1) := by decide +kernel
theorem dX8_row_38 : decode cX8_row 38 = .ok (.invokevirtual 75, 3) := by decide +kernel
theorem dX8_row_41 : decode cX8_row 41 = .ok (.ireturn, 1) := by decide +kernel
theorem dX8_put_0 : decode cX8_put 0 = .ok (.aload_n 0, 1) := by decide +kernel
theorem dX8_put_1 : decode cX8_put 1 = .ok (.getfield 10, 3) := by decide +kernel
theorem dX8_put_4 : decode cX8_put 4 = .ok (.iload_n 1, 1) := by decide +kernel
theorem dX8_put_5 : decode cX8_put 5 = .ok (.iload_n 2, 1) := by decide +kernel
theorem dX8_put_6 : decode cX8_put 6 = .ok (.iload_n 3, 1) := by decide +kernel
theorem dX8_put_7 : decode cX8_put 7 = .ok (.invokevirtual 78, 3) := by decide +kernel
theorem dX8_put_10 : decode cX8_put 10 = .ok (.ifCond .eq 19, 3) := by decide +kernel
theorem dX8_put_13 : decode cX8_put 13 = .ok (.iload 4, 2) := by decide +kernel
theorem dX8_put_15 : decode cX8_put 15 = .ok (.sipush (-1000), 3) := by decide +kernel
theorem dX8_put_18 : decode cX8_put 18 = .ok (.if_icmp .eq 13, 3) := by decide +kernel
theorem dX8_put_21 : decode cX8_put 21 = .ok (.iload 4, 2) := by decide +kernel
theorem dX8_put_23 : decode cX8_put 23 = .ok (.invokestatic 82, 3) := by decide +kernel
theorem dX8_put_26 : decode cX8_put 26 = .ok (.ifCond .ne 5, 3) := by decide +kernel
theorem dX8_put_29 : decode cX8_put 29 = .ok (.iconst (-1), 1) := by decide +kernel
theorem dX8_put_30 : decode cX8_put 30 = .ok (.ireturn, 1) := by decide +kernel
theorem dX8_put_31 : decode cX8_put 31 = .ok (.aload_n 0, 1) := by decide +kernel
theorem dX8_put_32 : decode cX8_put 32 = .ok (.invokevirtual 72, 3) := by decide +kernel
theorem dX8_put_35 : decode cX8_put 35 = .ok (.aload_n 0, 1) := by decide +kernel
theorem dX8_put_36 : decode cX8_put 36 = .ok (.getfield 10, 3) := by decide +kernel
theorem dX8_put_39 : decode cX8_put 39 = .ok (.iload_n 1, 1) := by decide +kernel
theorem dX8_put_40 : decode cX8_put 40 = .ok (.iload_n 2, 1) := by decide +kernel
theorem dX8_put_41 : decode cX8_put 41 = .ok (.iload_n 3, 1) := by decide +kernel
theorem dX8_put_42 : decode cX8_put 42 = .ok (.iload 4, 2) := by decide +kernel
theorem dX8_put_44 : decode cX8_put 44 = .ok (.sipush (-1000), 3) := by decide +kernel
theorem dX8_put_47 : decode cX8_put 47 = .ok (.if_icmp .ne 8, 3) := by decide +kernel
theorem dX8_put_50 : decode cX8_put 50 = .ok (.ldc 85, 2) := by decide +kernel
theorem dX8_put_52 : decode cX8_put 52 = .ok (.goto 5, 3) := by decide +kernel
theorem dX8_put_55 : decode cX8_put 55 = .ok (.iload 4, 2) := by decide +kernel
theorem dX8_put_57 : decode cX8_put 57 = .ok (.invokevirtual 86, 3) := by decide +kernel
theorem dX8_put_60 : decode cX8_put 60 = .ok (.iconst 1, 1) := by decide +kernel
theorem dX8_put_61 : decode cX8_put 61 = .ok (.ireturn, 1) := by decide +kernel
theorem dX8_value_0 : decode cX8_value 0 = .ok (.aload_n 0, 1) := by decide +kernel
theorem dX8_value_1 : decode cX8_value 1 = .ok (.getfield 10, 3) := by decide +kernel
theorem dX8_value_4 : decode cX8_value 4 = .ok (.iload_n 1, 1) := by decide +kernel
theorem dX8_value_5 : decode cX8_value 5 = .ok (.iload_n 2, 1) := by decide +kernel
theorem dX8_value_6 : decode cX8_value 6 = .ok (.iload_n 3, 1) := by decide +kernel
theorem dX8_value_7 : decode cX8_value 7 = .ok (.invokevirtual 78, 3) := by decide +kernel
theorem dX8_value_10 : decode cX8_value 10 = .ok (.ifCond .eq 16, 3) := by decide +kernel
theorem dX8_value_13 : decode cX8_value 13 = .ok (.aload_n 0, 1) := by decide +kernel
theorem dX8_value_14 : decode cX8_value 14 = .ok (.getfield 10, 3) := by decide +kernel
theorem dX8_value_17 : decode cX8_value 17 = .ok (.iload_n 1, 1) := by decide +kernel
theorem dX8_value_18 : decode cX8_value 18 = .ok (.iload_n 2, 1) := by decide +kernel
theorem dX8_value_19 : decode cX8_value 19 = .ok (.iload_n 3, 1) := by decide +kernel
theorem dX8_value_20 : decode cX8_value 20 = .ok (.invokevirtual 90, 3) := by decide +kernel
theorem dX8_value_23 : decode cX8_value 23 = .ok (.goto 5, 3) := by decide +kernel
theorem dX8_value_26 : decode cX8_value 26 = .ok (.ldc 94, 2) := by decide +kernel
theorem dX8_value_28 : decode cX8_value 28 = .ok (.ireturn, 1) := by decide +kernel
theorem dX8_link_0 : decode cX8_link 0 = .ok (.iload_n 3, 1) := by decide +kernel
theorem dX8_link_1 : decode cX8_link 1 = .ok (.iconst (-1), 1) := by decide +kernel
theorem dX8_link_2 : decode cX8_link 2 = .ok (.if_icmp .eq 14, 3) := by decide +kernel
theorem dX8_link_5 : decode cX8_link 5 = .ok (.aload_n 0, 1) := by decide +kernel
theorem dX8_link_6 : decode cX8_link 6 = .ok (.getfield 10, 3) := by decide +kernel
theorem dX8_link_9 : decode cX8_link 9 = .ok (.iload_n 3, 1) := by decide +kernel
theorem dX8_link_10 : decode cX8_link 10 = .ok (.invokevirtual 65, 3) := by decide +kernel
theorem dX8_link_13 : decode cX8_link 13 = .ok (.ifCond .eq 7, 3) := by decide +kernel
theorem dX8_link_16 : decode cX8_link 16 = .ok (.iconst 1, 1) := by decide +kernel
theorem dX8_link_17 : decode cX8_link 17 = .ok (.goto 4, 3) := by decide +kernel
theorem dX8_link_20 : decode cX8_link 20 = .ok (.iconst 0, 1) := by decide +kernel
theorem dX8_link_21 : decode cX8_link 21 = .ok (.istore 4, 2) := by decide +kernel
theorem dX8_link_23 : decode cX8_link 23 = .ok (.aload_n 0, 1) := by decide +kernel
theorem dX8_link_24 : decode cX8_link 24 = .ok (.getfield 10, 3) := by decide +kernel
theorem dX8_link_27 : decode cX8_link 27 = .ok (.iload_n 1, 1) := by decide +kernel
theorem dX8_link_28 : decode cX8_link 28 = .ok (.iload_n 2, 1) := by decide +kernel
theorem dX8_link_29 : decode cX8_link 29 = .ok (.invokevirtual 95, 3) := by decide +kernel
theorem dX8_link_32 : decode cX8_link 32 = .ok (.ifCond .eq 13, 3) := by decide +kernel
theorem dX8_link_35 : decode cX8_link 35 = .ok (.iload 4, 2) := by decide +kernel
theorem dX8_link_37 : decode cX8_link 37 = .ok (.ifCond .eq 8, 3) := by decide +kernel
theorem dX8_link_40 : decode cX8_link 40 = .ok (.iload_n 3, 1) := by decide +kernel
theorem dX8_link_41 : decode cX8_link 41 = .ok (.iload_n 1, 1) := by decide +kernel
theorem dX8_link_42 : decode cX8_link 42 = .ok (.if_icmp .ne 6, 3) := by decide +kernel
theorem dX8_link_45 : decode cX8_link 45 = .ok (.bipush (-9), 2) := by decide +kernel
theorem dX8_link_47 : decode cX8_link 47 = .ok (.ireturn, 1) := by decide +kernel
theorem dX8_link_48 : decode cX8_link 48 = .ok (.aload_n 0, 1) := by decide +kernel
theorem dX8_link_49 : decode cX8_link 49 = .ok (.invokevirtual 99, 3) := by decide +kernel
theorem dX8_link_52 : decode cX8_link 52 = .ok (.aload_n 0, 1) := by decide +kernel
theorem dX8_link_53 : decode cX8_link 53 = .ok (.getfield 10, 3) := by decide +kernel
theorem dX8_link_56 : decode cX8_link 56 = .ok (.iload_n 1, 1) := by decide +kernel
theorem dX8_link_57 : decode cX8_link 57 = .ok (.iload_n 2, 1) := by decide +kernel
theorem dX8_link_58 : decode cX8_link 58 = .ok (.iload_n 3, 1) := by decide +kernel
theorem dX8_link_59 : decode cX8_link 59 = .ok (.invokevirtual 102, 3) := by decide +kernel
theorem dX8_link_62 : decode cX8_link 62 = .ok (.ireturn, 1) := by decide +kernel
theorem dX8_mean_0 : decode cX8_mean 0 = .ok (.iload_n 1, 1) := by decide +kernel
theorem dX8_mean_1 : decode cX8_mean 1 = .ok (.invokestatic 105, 3) := by decide +kernel
theorem dX8_mean_4 : decode cX8_mean 4 = .ok (.ifCond .eq 19, 3) := by decide +kernel
theorem dX8_mean_7 : decode cX8_mean 7 = .ok (.iload_n 3, 1) := by decide +kernel
theorem dX8_mean_8 : decode cX8_mean 8 = .ok (.ifCond .lt 15, 3) := by decide +kernel
theorem dX8_mean_11 : decode cX8_mean 11 = .ok (.iload 5, 2) := by decide +kernel
theorem dX8_mean_13 : decode cX8_mean 13 = .ok (.ifCond .lt 10, 3) := by decide +kernel
theorem dX8_mean_16 : decode cX8_mean 16 = .ok (.iload 5, 2) := by decide +kernel
theorem dX8_mean_18 : decode cX8_mean 18 = .ok (.bipush 99, 2) := by decide +kernel
theorem dX8_mean_20 : decode cX8_mean 20 = .ok (.if_icmp .le 5, 3) := by decide +kernel
theorem dX8_mean_23 : decode cX8_mean 23 = .ok (.iconst (-1), 1) := by decide +kernel
theorem dX8_mean_24 : decode cX8_mean 24 = .ok (.ireturn, 1) := by decide +kernel
theorem dX8_mean_25 : decode cX8_mean 25 = .ok (.aload_n 0, 1) := by decide +kernel
theorem dX8_mean_26 : decode cX8_mean 26 = .ok (.iload_n 2, 1) := by decide +kernel
theorem dX8_mean_27 : decode cX8_mean 27 = .ok (.iload_n 3, 1) := by decide +kernel
theorem dX8_mean_28 : decode cX8_mean 28 = .ok (.bipush 100, 2) := by decide +kernel
theorem dX8_mean_30 : decode cX8_mean 30 = .ok (.idiv, 1) := by decide +kernel
theorem dX8_mean_31 : decode cX8_mean 31 = .ok (.iload_n 3, 1) := by decide +kernel
theorem dX8_mean_32 : decode cX8_mean 32 = .ok (.bipush 100, 2) := by decide +kernel
theorem dX8_mean_34 : decode cX8_mean 34 = .ok (.irem, 1) := by decide +kernel
theorem dX8_mean_35 : decode cX8_mean 35 = .ok (.iload 4, 2) := by decide +kernel
theorem dX8_mean_37 : decode cX8_mean 37 = .ok (.invokevirtual 108, 3) := by decide +kernel
theorem dX8_mean_40 : decode cX8_mean 40 = .ok (.ifCond .ne 5, 3) := by decide +kernel
theorem dX8_mean_43 : decode cX8_mean 43 = .ok (.iconst (-1), 1) := by decide +kernel
theorem dX8_mean_44 : decode cX8_mean 44 = .ok (.ireturn, 1) := by decide +kernel
theorem dX8_mean_45 : decode cX8_mean 45 = .ok (.aload_n 0, 1) := by decide +kernel
theorem dX8_mean_46 : decode cX8_mean 46 = .ok (.getfield 19, 3) := by decide +kernel
theorem dX8_mean_49 : decode cX8_mean 49 = .ok (.iload_n 1, 1) := by decide +kernel
theorem dX8_mean_50 : decode cX8_mean 50 = .ok (.invokevirtual 112, 3) := by decide +kernel
theorem dX8_mean_53 : decode cX8_mean 53 = .ok (.iconst 3, 1) := by decide +kernel
theorem dX8_mean_54 : decode cX8_mean 54 = .ok (.if_icmp .lt 6, 3) := by decide +kernel
theorem dX8_mean_57 : decode cX8_mean 57 = .ok (.bipush (-2), 2) := by decide +kernel
theorem dX8_mean_59 : decode cX8_mean 59 = .ok (.ireturn, 1) := by decide +kernel
theorem dX8_mean_60 : decode cX8_mean 60 = .ok (.aload_n 0, 1) := by decide +kernel
theorem dX8_mean_61 : decode cX8_mean 61 = .ok (.invokevirtual 99, 3) := by decide +kernel
theorem dX8_mean_64 : decode cX8_mean 64 = .ok (.aload_n 0, 1) := by decide +kernel
theorem dX8_mean_65 : decode cX8_mean 65 = .ok (.getfield 19, 3) := by decide +kernel
theorem dX8_mean_68 : decode cX8_mean 68 = .ok (.iload_n 1, 1) := by decide +kernel
theorem dX8_mean_69 : decode cX8_mean 69 = .ok (.iload_n 2, 1) := by decide +kernel
theorem dX8_mean_70 : decode cX8_mean 70 = .ok (.iload_n 3, 1) := by decide +kernel
theorem dX8_mean_71 : decode cX8_mean 71 = .ok (.bipush 100, 2) := by decide +kernel
theorem dX8_mean_73 : decode cX8_mean 73 = .ok (.idiv, 1) := by decide +kernel
theorem dX8_mean_74 : decode cX8_mean 74 = .ok (.iload_n 3, 1) := by decide +kernel
theorem dX8_mean_75 : decode cX8_mean 75 = .ok (.bipush 100, 2) := by decide +kernel
theorem dX8_mean_77 : decode cX8_mean 77 = .ok (.irem, 1) := by decide +kernel
theorem dX8_mean_78 : decode cX8_mean 78 = .ok (.iload 4, 2) := by decide +kernel
theorem dX8_mean_80 : decode cX8_mean 80 = .ok (.iload 5, 2) := by decide +kernel
theorem dX8_mean_82 : decode cX8_mean 82 = .ok (.invokevirtual 115, 3) := by decide +kernel
theorem dX8_mean_85 : decode cX8_mean 85 = .ok (.ireturn, 1) := by decide +kernel
theorem dX8_cost_0 : decode cX8_cost 0 = .ok (.iload_n 1, 1) := by decide +kernel
theorem dX8_cost_1 : decode cX8_cost 1 = .ok (.invokestatic 105, 3) := by decide +kernel
theorem dX8_cost_4 : decode cX8_cost 4 = .ok (.ifCond .eq 19, 3) := by decide +kernel
theorem dX8_cost_7 : decode cX8_cost 7 = .ok (.iload_n 2, 1) := by decide +kernel
theorem dX8_cost_8 : decode cX8_cost 8 = .ok (.ifCond .lt 15, 3) := by decide +kernel
theorem dX8_cost_11 : decode cX8_cost 11 = .ok (.iload_n 2, 1) := by decide +kernel
theorem dX8_cost_12 : decode cX8_cost 12 = .ok (.aload_n 0, 1) := by decide +kernel
theorem dX8_cost_13 : decode cX8_cost 13 = .ok (.getfield 19, 3) := by decide +kernel
theorem dX8_cost_16 : decode cX8_cost 16 = .ok (.iload_n 1, 1) := by decide +kernel
theorem dX8_cost_17 : decode cX8_cost 17 = .ok (.invokevirtual 112, 3) := by decide +kernel
theorem dX8_cost_20 : decode cX8_cost 20 = .ok (.if_icmp .lt 5, 3) := by decide +kernel
theorem dX8_cost_23 : decode cX8_cost 23 = .ok (.iconst (-1), 1) := by decide +kernel
theorem dX8_cost_24 : decode cX8_cost 24 = .ok (.ireturn, 1) := by decide +kernel
theorem dX8_cost_25 : decode cX8_cost 25 = .ok (.aload_n 0, 1) := by decide +kernel
theorem dX8_cost_26 : decode cX8_cost 26 = .ok (.getfield 19, 3) := by decide +kernel
theorem dX8_cost_29 : decode cX8_cost 29 = .ok (.aload_n 0, 1) := by decide +kernel
theorem dX8_cost_30 : decode cX8_cost 30 = .ok (.getfield 19, 3) := by decide +kernel
theorem dX8_cost_33 : decode cX8_cost 33 = .ok (.iload_n 1, 1) := by decide +kernel
theorem dX8_cost_34 : decode cX8_cost 34 = .ok (.iload_n 2, 1) := by decide +kernel
theorem dX8_cost_35 : decode cX8_cost 35 = .ok (.invokevirtual 119, 3) := by decide +kernel
theorem dX8_cost_38 : decode cX8_cost 38 = .ok (.invokevirtual 123, 3) := by decide +kernel
theorem dX8_cost_41 : decode cX8_cost 41 = .ok (.ireturn, 1) := by decide +kernel
theorem dX8_forget_0 : decode cX8_forget 0 = .ok (.iload_n 1, 1) := by decide +kernel
theorem dX8_forget_1 : decode cX8_forget 1 = .ok (.invokestatic 105, 3) := by decide +kernel
theorem dX8_forget_4 : decode cX8_forget 4 = .ok (.ifCond .ne 5, 3) := by decide +kernel
theorem dX8_forget_7 : decode cX8_forget 7 = .ok (.iconst (-1), 1) := by decide +kernel
theorem dX8_forget_8 : decode cX8_forget 8 = .ok (.ireturn, 1) := by decide +kernel
theorem dX8_forget_9 : decode cX8_forget 9 = .ok (.aload_n 0, 1) := by decide +kernel
theorem dX8_forget_10 : decode cX8_forget 10 = .ok (.invokevirtual 99, 3) := by decide +kernel
theorem dX8_forget_13 : decode cX8_forget 13 = .ok (.aload_n 0, 1) := by decide +kernel
theorem dX8_forget_14 : decode cX8_forget 14 = .ok (.getfield 19, 3) := by decide +kernel
theorem dX8_forget_17 : decode cX8_forget 17 = .ok (.iload_n 1, 1) := by decide +kernel
theorem dX8_forget_18 : decode cX8_forget 18 = .ok (.invokevirtual 126, 3) := by decide +kernel
theorem dX8_forget_21 : decode cX8_forget 21 = .ok (.ireturn, 1) := by decide +kernel
theorem dX8_word_0 : decode cX8_word 0 = .ok (.iload_n 1, 1) := by decide +kernel
theorem dX8_word_1 : decode cX8_word 1 = .ok (.invokestatic 105, 3) := by decide +kernel
theorem dX8_word_4 : decode cX8_word 4 = .ok (.ifCond .ne 5, 3) := by decide +kernel
theorem dX8_word_7 : decode cX8_word 7 = .ok (.iconst (-1), 1) := by decide +kernel
theorem dX8_word_8 : decode cX8_word 8 = .ok (.ireturn, 1) := by decide +kernel
theorem dX8_word_9 : decode cX8_word 9 = .ok (.aload_n 0, 1) := by decide +kernel
theorem dX8_word_10 : decode cX8_word 10 = .ok (.getfield 26, 3) := by decide +kernel
theorem dX8_word_13 : decode cX8_word 13 = .ok (.invokevirtual 129, 3) := by decide +kernel
theorem dX8_word_16 : decode cX8_word 16 = .ok (.bipush 8, 2) := by decide +kernel
theorem dX8_word_18 : decode cX8_word 18 = .ok (.if_icmp .lt 6, 3) := by decide +kernel
theorem dX8_word_21 : decode cX8_word 21 = .ok (.bipush (-2), 2) := by decide +kernel
theorem dX8_word_23 : decode cX8_word 23 = .ok (.ireturn, 1) := by decide +kernel
theorem dX8_word_24 : decode cX8_word 24 = .ok (.aload_n 0, 1) := by decide +kernel
theorem dX8_word_25 : decode cX8_word 25 = .ok (.invokevirtual 99, 3) := by decide +kernel
theorem dX8_word_28 : decode cX8_word 28 = .ok (.aload_n 0, 1) := by decide +kernel
theorem dX8_word_29 : decode cX8_word 29 = .ok (.getfield 26, 3) := by decide +kernel
theorem dX8_word_32 : decode cX8_word 32 = .ok (.iload_n 1, 1) := by decide +kernel
theorem dX8_word_33 : decode cX8_word 33 = .ok (.invokevirtual 130, 3) := by decide +kernel
theorem dX8_word_36 : decode cX8_word 36 = .ok (.ireturn, 1) := by decide +kernel
theorem dX8_number_0 : decode cX8_number 0 = .ok (.iload_n 1, 1) := by decide +kernel
theorem dX8_number_1 : decode cX8_number 1 = .ok (.invokestatic 82, 3) := by decide +kernel
theorem dX8_number_4 : decode cX8_number 4 = .ok (.ifCond .ne 5, 3) := by decide +kernel
theorem dX8_number_7 : decode cX8_number 7 = .ok (.iconst (-1), 1) := by decide +kernel
theorem dX8_number_8 : decode cX8_number 8 = .ok (.ireturn, 1) := by decide +kernel
theorem dX8_number_9 : decode cX8_number 9 = .ok (.aload_n 0, 1) := by decide +kernel
theorem dX8_number_10 : decode cX8_number 10 = .ok (.getfield 26, 3) := by decide +kernel
theorem dX8_number_13 : decode cX8_number 13 = .ok (.invokevirtual 129, 3) := by decide +kernel
theorem dX8_number_16 : decode cX8_number 16 = .ok (.bipush 8, 2) := by decide +kernel
theorem dX8_number_18 : decode cX8_number 18 = .ok (.if_icmp .lt 6, 3) := by decide +kernel
theorem dX8_number_21 : decode cX8_number 21 = .ok (.bipush (-2), 2) := by decide +kernel
theorem dX8_number_23 : decode cX8_number 23 = .ok (.ireturn, 1) := by decide +kernel
theorem dX8_number_24 : decode cX8_number 24 = .ok (.aload_n 0, 1) := by decide +kernel
theorem dX8_number_25 : decode cX8_number 25 = .ok (.invokevirtual 99, 3) := by decide +kernel
theorem dX8_number_28 : decode cX8_number 28 = .ok (.aload_n 0, 1) := by decide +kernel
theorem dX8_number_29 : decode cX8_number 29 = .ok (.getfield 26, 3) := by decide +kernel
theorem dX8_number_32 : decode cX8_number 32 = .ok (.iload_n 1, 1) := by decide +kernel
theorem dX8_number_33 : decode cX8_number 33 = .ok (.invokevirtual 133, 3) := by decide +kernel
theorem dX8_number_36 : decode cX8_number 36 = .ok (.ireturn, 1) := by decide +kernel
theorem dX8_clear_0 : decode cX8_clear 0 = .ok (.aload_n 0, 1) := by decide +kernel
theorem dX8_clear_1 : decode cX8_clear 1 = .ok (.invokevirtual 99, 3) := by decide +kernel
theorem dX8_clear_4 : decode cX8_clear 4 = .ok (.aload_n 0, 1) := by decide +kernel
theorem dX8_clear_5 : decode cX8_clear 5 = .ok (.getfield 26, 3) := by decide +kernel
theorem dX8_clear_8 : decode cX8_clear 8 = .ok (.invokevirtual 136, 3) := by decide +kernel
theorem dX8_clear_11 : decode cX8_clear 11 = .ok (.ireturn, 1) := by decide +kernel
theorem dX8_readings_0 : decode cX8_readings 0 = .ok (.aload_n 0, 1) := by decide +kernel
theorem dX8_readings_1 : decode cX8_readings 1 = .ok (.getfield 35, 3) := by decide +kernel
theorem dX8_readings_4 : decode cX8_readings 4 = .ok (.invokevirtual 139, 3) := by decide +kernel
theorem dX8_readings_7 : decode cX8_readings 7 = .ok (.ireturn, 1) := by decide +kernel
theorem dX8_reading_0 : decode cX8_reading 0 = .ok (.aload_n 0, 1) := by decide +kernel
theorem dX8_reading_1 : decode cX8_reading 1 = .ok (.getfield 35, 3) := by decide +kernel
theorem dX8_reading_4 : decode cX8_reading 4 = .ok (.iload_n 1, 1) := by decide +kernel
theorem dX8_reading_5 : decode cX8_reading 5 = .ok (.invokevirtual 140, 3) := by decide +kernel
theorem dX8_reading_8 : decode cX8_reading 8 = .ok (.ifCond .ne 6, 3) := by decide +kernel
theorem dX8_reading_11 : decode cX8_reading 11 = .ok (.bipush (-9), 2) := by decide +kernel
theorem dX8_reading_13 : decode cX8_reading 13 = .ok (.ireturn, 1) := by decide +kernel
theorem dX8_reading_14 : decode cX8_reading 14 = .ok (.iload_n 2, 1) := by decide +kernel
theorem dX8_reading_15 : decode cX8_reading 15 = .ok (.bipush 10, 2) := by decide +kernel
theorem dX8_reading_17 : decode cX8_reading 17 = .ok (.if_icmp .lt 35, 3) := by decide +kernel
theorem dX8_reading_20 : decode cX8_reading 20 = .ok (.aload_n 0, 1) := by decide +kernel
theorem dX8_reading_21 : decode cX8_reading 21 = .ok (.getfield 26, 3) := by decide +kernel
theorem dX8_reading_24 : decode cX8_reading 24 = .ok (.iload_n 2, 1) := by decide +kernel
theorem dX8_reading_25 : decode cX8_reading 25 = .ok (.bipush 10, 2) := by decide +kernel
theorem dX8_reading_27 : decode cX8_reading 27 = .ok (.isub, 1) := by decide +kernel
theorem dX8_reading_28 : decode cX8_reading 28 = .ok (.invokevirtual 143, 3) := by decide +kernel
theorem dX8_reading_31 : decode cX8_reading 31 = .ok (.ifCond .eq 18, 3) := by decide +kernel
theorem dX8_reading_34 : decode cX8_reading 34 = .ok (.aload_n 0, 1) := by decide +kernel
theorem dX8_reading_35 : decode cX8_reading 35 = .ok (.getfield 35, 3) := by decide +kernel
theorem dX8_reading_38 : decode cX8_reading 38 = .ok (.iload_n 1, 1) := by decide +kernel
theorem dX8_reading_39 : decode cX8_reading 39 = .ok (.iload_n 2, 1) := by decide +kernel
theorem dX8_reading_40 : decode cX8_reading 40 = .ok (.bipush 10, 2) := by decide +kernel
theorem dX8_reading_42 : decode cX8_reading 42 = .ok (.isub, 1) := by decide +kernel
theorem dX8_reading_43 : decode cX8_reading 43 = .ok (.invokevirtual 144, 3) := by decide +kernel
theorem dX8_reading_46 : decode cX8_reading 46 = .ok (.goto 5, 3) := by decide +kernel
theorem dX8_reading_49 : decode cX8_reading 49 = .ok (.bipush (-9), 2) := by decide +kernel
theorem dX8_reading_51 : decode cX8_reading 51 = .ok (.ireturn, 1) := by decide +kernel
theorem dX8_reading_52 : decode cX8_reading 52 = .ok (.aload_n 0, 1) := by decide +kernel
theorem dX8_reading_53 : decode cX8_reading 53 = .ok (.getfield 35, 3) := by decide +kernel
theorem dX8_reading_56 : decode cX8_reading 56 = .ok (.iload_n 1, 1) := by decide +kernel
theorem dX8_reading_57 : decode cX8_reading 57 = .ok (.invokevirtual 147, 3) := by decide +kernel
theorem dX8_reading_60 : decode cX8_reading 60 = .ok (.astore_n 3, 1) := by decide +kernel
theorem dX8_reading_61 : decode cX8_reading 61 = .ok (.iload_n 2, 1) := by decide +kernel
theorem dX8_reading_62 : decode cX8_reading 62 = .ok (.tableswitch 79 0 5 #[38, 47, 52, 57, 62, 67], 38) := by decide +kernel
theorem dX8_reading_100 : decode cX8_reading 100 = .ok (.aload_n 0, 1) := by decide +kernel
theorem dX8_reading_101 : decode cX8_reading 101 = .ok (.getfield 35, 3) := by decide +kernel
theorem dX8_reading_104 : decode cX8_reading 104 = .ok (.iload_n 1, 1) := by decide +kernel
theorem dX8_reading_105 : decode cX8_reading 105 = .ok (.invokevirtual 151, 3) := by decide +kernel
theorem dX8_reading_108 : decode cX8_reading 108 = .ok (.ireturn, 1) := by decide +kernel
theorem dX8_reading_109 : decode cX8_reading 109 = .ok (.aload_n 3, 1) := by decide +kernel
theorem dX8_reading_110 : decode cX8_reading 110 = .ok (.invokevirtual 152, 3) := by decide +kernel
theorem dX8_reading_113 : decode cX8_reading 113 = .ok (.ireturn, 1) := by decide +kernel
theorem dX8_reading_114 : decode cX8_reading 114 = .ok (.aload_n 3, 1) := by decide +kernel
theorem dX8_reading_115 : decode cX8_reading 115 = .ok (.invokevirtual 157, 3) := by decide +kernel
theorem dX8_reading_118 : decode cX8_reading 118 = .ok (.ireturn, 1) := by decide +kernel
theorem dX8_reading_119 : decode cX8_reading 119 = .ok (.aload_n 3, 1) := by decide +kernel
theorem dX8_reading_120 : decode cX8_reading 120 = .ok (.invokevirtual 160, 3) := by decide +kernel
theorem dX8_reading_123 : decode cX8_reading 123 = .ok (.ireturn, 1) := by decide +kernel
theorem dX8_reading_124 : decode cX8_reading 124 = .ok (.aload_n 3, 1) := by decide +kernel
theorem dX8_reading_125 : decode cX8_reading 125 = .ok (.invokevirtual 163, 3) := by decide +kernel
theorem dX8_reading_128 : decode cX8_reading 128 = .ok (.ireturn, 1) := by decide +kernel
theorem dX8_reading_129 : decode cX8_reading 129 = .ok (.aload_n 0, 1) := by decide +kernel
theorem dX8_reading_130 : decode cX8_reading 130 = .ok (.getfield 44, 3) := by decide +kernel
theorem dX8_reading_133 : decode cX8_reading 133 = .ok (.aload_n 3, 1) := by decide +kernel
theorem dX8_reading_134 : decode cX8_reading 134 = .ok (.invokevirtual 166, 3) := by decide +kernel
theorem dX8_reading_137 : decode cX8_reading 137 = .ok (.invokestatic 170, 3) := by decide +kernel
theorem dX8_reading_140 : decode cX8_reading 140 = .ok (.ireturn, 1) := by decide +kernel
theorem dX8_reading_141 : decode cX8_reading 141 = .ok (.bipush (-9), 2) := by decide +kernel
theorem dX8_reading_143 : decode cX8_reading 143 = .ok (.ireturn, 1) := by decide +kernel
theorem dX8_test_0 : decode cX8_test 0 = .ok (.aload_n 0, 1) := by decide +kernel
theorem dX8_test_1 : decode cX8_test 1 = .ok (.getfield 35, 3) := by decide +kernel
theorem dX8_test_4 : decode cX8_test 4 = .ok (.iload_n 1, 1) := by decide +kernel
theorem dX8_test_5 : decode cX8_test 5 = .ok (.invokevirtual 140, 3) := by decide +kernel
theorem dX8_test_8 : decode cX8_test 8 = .ok (.ifCond .ne 6, 3) := by decide +kernel
theorem dX8_test_11 : decode cX8_test 11 = .ok (.ldc 94, 2) := by decide +kernel
theorem dX8_test_13 : decode cX8_test 13 = .ok (.ireturn, 1) := by decide +kernel
theorem dX8_test_14 : decode cX8_test 14 = .ok (.aload_n 0, 1) := by decide +kernel
theorem dX8_test_15 : decode cX8_test 15 = .ok (.getfield 35, 3) := by decide +kernel
theorem dX8_test_18 : decode cX8_test 18 = .ok (.iload_n 1, 1) := by decide +kernel
theorem dX8_test_19 : decode cX8_test 19 = .ok (.invokevirtual 147, 3) := by decide +kernel
theorem dX8_test_22 : decode cX8_test 22 = .ok (.astore 4, 2) := by decide +kernel
theorem dX8_test_24 : decode cX8_test 24 = .ok (.iload_n 2, 1) := by decide +kernel
theorem dX8_test_25 : decode cX8_test 25 = .ok (.ifCond .lt 12, 3) := by decide +kernel
theorem dX8_test_28 : decode cX8_test 28 = .ok (.iload_n 2, 1) := by decide +kernel
theorem dX8_test_29 : decode cX8_test 29 = .ok (.aload 4, 2) := by decide +kernel
theorem dX8_test_31 : decode cX8_test 31 = .ok (.invokevirtual 163, 3) := by decide +kernel
theorem dX8_test_34 : decode cX8_test 34 = .ok (.if_icmp .lt 6, 3) := by decide +kernel
theorem dX8_test_37 : decode cX8_test 37 = .ok (.ldc 94, 2) := by decide +kernel
theorem dX8_test_39 : decode cX8_test 39 = .ok (.ireturn, 1) := by decide +kernel
theorem dX8_test_40 : decode cX8_test 40 = .ok (.iload_n 3, 1) := by decide +kernel
theorem dX8_test_41 : decode cX8_test 41 = .ok (.tableswitch 59 0 3 #[31, 38, 45, 52], 31) := by decide +kernel
theorem dX8_test_72 : decode cX8_test 72 = .ok (.aload 4, 2) := by decide +kernel
theorem dX8_test_74 : decode cX8_test 74 = .ok (.iload_n 2, 1) := by decide +kernel
theorem dX8_test_75 : decode cX8_test 75 = .ok (.invokevirtual 175, 3) := by decide +kernel
theorem dX8_test_78 : decode cX8_test 78 = .ok (.ireturn, 1) := by decide +kernel
theorem dX8_test_79 : decode cX8_test 79 = .ok (.aload 4, 2) := by decide +kernel
theorem dX8_test_81 : decode cX8_test 81 = .ok (.iload_n 2, 1) := by decide +kernel
theorem dX8_test_82 : decode cX8_test 82 = .ok (.invokevirtual 178, 3) := by decide +kernel
theorem dX8_test_85 : decode cX8_test 85 = .ok (.ireturn, 1) := by decide +kernel
theorem dX8_test_86 : decode cX8_test 86 = .ok (.aload 4, 2) := by decide +kernel
theorem dX8_test_88 : decode cX8_test 88 = .ok (.iload_n 2, 1) := by decide +kernel
theorem dX8_test_89 : decode cX8_test 89 = .ok (.invokevirtual 181, 3) := by decide +kernel
theorem dX8_test_92 : decode cX8_test 92 = .ok (.ireturn, 1) := by decide +kernel
theorem dX8_test_93 : decode cX8_test 93 = .ok (.aload 4, 2) := by decide +kernel
theorem dX8_test_95 : decode cX8_test 95 = .ok (.iload_n 2, 1) := by decide +kernel
theorem dX8_test_96 : decode cX8_test 96 = .ok (.invokevirtual 184, 3) := by decide +kernel
theorem dX8_test_99 : decode cX8_test 99 = .ok (.ireturn, 1) := by decide +kernel
theorem dX8_test_100 : decode cX8_test 100 = .ok (.ldc 94, 2) := by decide +kernel
theorem dX8_test_102 : decode cX8_test 102 = .ok (.ireturn, 1) := by decide +kernel
theorem dX8_answer_0 : decode cX8_answer 0 = .ok (.aload_n 0, 1) := by decide +kernel
theorem dX8_answer_1 : decode cX8_answer 1 = .ok (.getfield 35, 3) := by decide +kernel
theorem dX8_answer_4 : decode cX8_answer 4 = .ok (.iload_n 1, 1) := by decide +kernel
theorem dX8_answer_5 : decode cX8_answer 5 = .ok (.invokevirtual 140, 3) := by decide +kernel
theorem dX8_answer_8 : decode cX8_answer 8 = .ok (.ifCond .eq 21, 3) := by decide +kernel
theorem dX8_answer_11 : decode cX8_answer 11 = .ok (.aload_n 0, 1) := by decide +kernel
theorem dX8_answer_12 : decode cX8_answer 12 = .ok (.getfield 44, 3) := by decide +kernel
theorem dX8_answer_15 : decode cX8_answer 15 = .ok (.aload_n 0, 1) := by decide +kernel
theorem dX8_answer_16 : decode cX8_answer 16 = .ok (.getfield 35, 3) := by decide +kernel
theorem dX8_answer_19 : decode cX8_answer 19 = .ok (.iload_n 1, 1) := by decide +kernel
theorem dX8_answer_20 : decode cX8_answer 20 = .ok (.invokevirtual 147, 3) := by decide +kernel
theorem dX8_answer_23 : decode cX8_answer 23 = .ok (.invokevirtual 187, 3) := by decide +kernel
theorem dX8_answer_26 : decode cX8_answer 26 = .ok (.goto 5, 3) := by decide +kernel
theorem dX8_answer_29 : decode cX8_answer 29 = .ok (.ldc 94, 2) := by decide +kernel
theorem dX8_answer_31 : decode cX8_answer 31 = .ok (.ireturn, 1) := by decide +kernel
theorem dX8_found_0 : decode cX8_found 0 = .ok (.aload_n 0, 1) := by decide +kernel
theorem dX8_found_1 : decode cX8_found 1 = .ok (.getfield 35, 3) := by decide +kernel
theorem dX8_found_4 : decode cX8_found 4 = .ok (.iload_n 1, 1) := by decide +kernel
theorem dX8_found_5 : decode cX8_found 5 = .ok (.invokevirtual 140, 3) := by decide +kernel
theorem dX8_found_8 : decode cX8_found 8 = .ok (.ifCond .eq 7, 3) := by decide +kernel
theorem dX8_found_11 : decode cX8_found 11 = .ok (.iload_n 2, 1) := by decide +kernel
theorem dX8_found_12 : decode cX8_found 12 = .ok (.ifCond .ge 5, 3) := by decide +kernel
theorem dX8_found_15 : decode cX8_found 15 = .ok (.iconst (-1), 1) := by decide +kernel
theorem dX8_found_16 : decode cX8_found 16 = .ok (.ireturn, 1) := by decide +kernel
theorem dX8_found_17 : decode cX8_found 17 = .ok (.aload_n 0, 1) := by decide +kernel
theorem dX8_found_18 : decode cX8_found 18 = .ok (.getfield 44, 3) := by decide +kernel
theorem dX8_found_21 : decode cX8_found 21 = .ok (.aload_n 0, 1) := by decide +kernel
theorem dX8_found_22 : decode cX8_found 22 = .ok (.getfield 35, 3) := by decide +kernel
theorem dX8_found_25 : decode cX8_found 25 = .ok (.iload_n 1, 1) := by decide +kernel
theorem dX8_found_26 : decode cX8_found 26 = .ok (.invokevirtual 147, 3) := by decide +kernel
theorem dX8_found_29 : decode cX8_found 29 = .ok (.invokevirtual 166, 3) := by decide +kernel
theorem dX8_found_32 : decode cX8_found 32 = .ok (.istore_n 3, 1) := by decide +kernel
theorem dX8_found_33 : decode cX8_found 33 = .ok (.iload_n 2, 1) := by decide +kernel
theorem dX8_found_34 : decode cX8_found 34 = .ok (.istore 4, 2) := by decide +kernel
theorem dX8_found_36 : decode cX8_found 36 = .ok (.iconst 0, 1) := by decide +kernel
theorem dX8_found_37 : decode cX8_found 37 = .ok (.istore 5, 2) := by decide +kernel
theorem dX8_found_39 : decode cX8_found 39 = .ok (.iload 5, 2) := by decide +kernel
theorem dX8_found_41 : decode cX8_found 41 = .ok (.bipush 20, 2) := by decide +kernel
theorem dX8_found_43 : decode cX8_found 43 = .ok (.if_icmp .ge 32, 3) := by decide +kernel
theorem dX8_found_46 : decode cX8_found 46 = .ok (.iload_n 3, 1) := by decide +kernel
theorem dX8_found_47 : decode cX8_found 47 = .ok (.iload 5, 2) := by decide +kernel
theorem dX8_found_49 : decode cX8_found 49 = .ok (.invokestatic 190, 3) := by decide +kernel
theorem dX8_found_52 : decode cX8_found 52 = .ok (.ifCond .ne 6, 3) := by decide +kernel
theorem dX8_found_55 : decode cX8_found 55 = .ok (.goto 14, 3) := by decide +kernel
theorem dX8_found_58 : decode cX8_found 58 = .ok (.iload 4, 2) := by decide +kernel
theorem dX8_found_60 : decode cX8_found 60 = .ok (.ifCond .ne 6, 3) := by decide +kernel
theorem dX8_found_63 : decode cX8_found 63 = .ok (.iload 5, 2) := by decide +kernel
theorem dX8_found_65 : decode cX8_found 65 = .ok (.ireturn, 1) := by decide +kernel
theorem dX8_found_66 : decode cX8_found 66 = .ok (.iinc 4 (-1), 3) := by decide +kernel
theorem dX8_found_69 : decode cX8_found 69 = .ok (.iinc 5 1, 3) := by decide +kernel
theorem dX8_found_72 : decode cX8_found 72 = .ok (.goto (-33), 3) := by decide +kernel
theorem dX8_found_75 : decode cX8_found 75 = .ok (.iconst (-1), 1) := by decide +kernel
theorem dX8_found_76 : decode cX8_found 76 = .ok (.ireturn, 1) := by decide +kernel
theorem dX8_answers_0 : decode cX8_answers 0 = .ok (.iload_n 1, 1) := by decide +kernel
theorem dX8_answers_1 : decode cX8_answers 1 = .ok (.invokestatic 193, 3) := by decide +kernel
theorem dX8_answers_4 : decode cX8_answers 4 = .ok (.ifCond .ne 5, 3) := by decide +kernel
theorem dX8_answers_7 : decode cX8_answers 7 = .ok (.iconst (-1), 1) := by decide +kernel
theorem dX8_answers_8 : decode cX8_answers 8 = .ok (.ireturn, 1) := by decide +kernel
theorem dX8_answers_9 : decode cX8_answers 9 = .ok (.aload_n 0, 1) := by decide +kernel
theorem dX8_answers_10 : decode cX8_answers 10 = .ok (.getfield 35, 3) := by decide +kernel
theorem dX8_answers_13 : decode cX8_answers 13 = .ok (.iload_n 1, 1) := by decide +kernel
theorem dX8_answers_14 : decode cX8_answers 14 = .ok (.invokevirtual 196, 3) := by decide +kernel
theorem dX8_answers_17 : decode cX8_answers 17 = .ok (.istore_n 2, 1) := by decide +kernel
theorem dX8_answers_18 : decode cX8_answers 18 = .ok (.aload_n 0, 1) := by decide +kernel
theorem dX8_answers_19 : decode cX8_answers 19 = .ok (.getfield 53, 3) := by decide +kernel
theorem dX8_answers_22 : decode cX8_answers 22 = .ok (.iload_n 2, 1) := by decide +kernel
theorem dX8_answers_23 : decode cX8_answers 23 = .ok (.invokevirtual 199, 3) := by decide +kernel
theorem dX8_answers_26 : decode cX8_answers 26 = .ok (.aload_n 0, 1) := by decide +kernel
theorem dX8_answers_27 : decode cX8_answers 27 = .ok (.getfield 53, 3) := by decide +kernel
theorem dX8_answers_30 : decode cX8_answers 30 = .ok (.iload_n 2, 1) := by decide +kernel
theorem dX8_answers_31 : decode cX8_answers 31 = .ok (.invokevirtual 203, 3) := by decide +kernel
theorem dX8_answers_34 : decode cX8_answers 34 = .ok (.ireturn, 1) := by decide +kernel
theorem dX8_back_0 : decode cX8_back 0 = .ok (.iload_n 1, 1) := by decide +kernel
theorem dX8_back_1 : decode cX8_back 1 = .ok (.invokestatic 193, 3) := by decide +kernel
theorem dX8_back_4 : decode cX8_back 4 = .ok (.ifCond .ne 5, 3) := by decide +kernel
theorem dX8_back_7 : decode cX8_back 7 = .ok (.iconst (-1), 1) := by decide +kernel
theorem dX8_back_8 : decode cX8_back 8 = .ok (.ireturn, 1) := by decide +kernel
theorem dX8_back_9 : decode cX8_back 9 = .ok (.aload_n 0, 1) := by decide +kernel
theorem dX8_back_10 : decode cX8_back 10 = .ok (.getfield 35, 3) := by decide +kernel
theorem dX8_back_13 : decode cX8_back 13 = .ok (.iload_n 1, 1) := by decide +kernel
theorem dX8_back_14 : decode cX8_back 14 = .ok (.invokevirtual 196, 3) := by decide +kernel
theorem dX8_back_17 : decode cX8_back 17 = .ok (.istore_n 2, 1) := by decide +kernel
theorem dX8_back_18 : decode cX8_back 18 = .ok (.aload_n 0, 1) := by decide +kernel
theorem dX8_back_19 : decode cX8_back 19 = .ok (.getfield 53, 3) := by decide +kernel
theorem dX8_back_22 : decode cX8_back 22 = .ok (.iload_n 2, 1) := by decide +kernel
theorem dX8_back_23 : decode cX8_back 23 = .ok (.invokevirtual 199, 3) := by decide +kernel
theorem dX8_back_26 : decode cX8_back 26 = .ok (.aload_n 0, 1) := by decide +kernel
theorem dX8_back_27 : decode cX8_back 27 = .ok (.getfield 53, 3) := by decide +kernel
theorem dX8_back_30 : decode cX8_back 30 = .ok (.iload_n 2, 1) := by decide +kernel
theorem dX8_back_31 : decode cX8_back 31 = .ok (.invokevirtual 206, 3) := by decide +kernel
theorem dX8_back_34 : decode cX8_back 34 = .ok (.ireturn, 1) := by decide +kernel
theorem dX8_agree_0 : decode cX8_agree 0 = .ok (.iload_n 1, 1) := by decide +kernel
theorem dX8_agree_1 : decode cX8_agree 1 = .ok (.invokestatic 193, 3) := by decide +kernel
theorem dX8_agree_4 : decode cX8_agree 4 = .ok (.ifCond .eq 25, 3) := by decide +kernel
theorem dX8_agree_7 : decode cX8_agree 7 = .ok (.aload_n 0, 1) := by decide +kernel
theorem dX8_agree_8 : decode cX8_agree 8 = .ok (.getfield 26, 3) := by decide +kernel
theorem dX8_agree_11 : decode cX8_agree 11 = .ok (.iload_n 2, 1) := by decide +kernel
theorem dX8_agree_12 : decode cX8_agree 12 = .ok (.invokevirtual 143, 3) := by decide +kernel
theorem dX8_agree_15 : decode cX8_agree 15 = .ok (.ifCond .eq 14, 3) := by decide +kernel
theorem dX8_agree_18 : decode cX8_agree 18 = .ok (.aload_n 0, 1) := by decide +kernel
theorem dX8_agree_19 : decode cX8_agree 19 = .ok (.getfield 26, 3) := by decide +kernel
theorem dX8_agree_22 : decode cX8_agree 22 = .ok (.iload_n 2, 1) := by decide +kernel
theorem dX8_agree_23 : decode cX8_agree 23 = .ok (.invokevirtual 209, 3) := by decide +kernel
theorem dX8_agree_26 : decode cX8_agree 26 = .ok (.ifCond .eq 5, 3) := by decide +kernel
theorem dX8_agree_29 : decode cX8_agree 29 = .ok (.iconst (-1), 1) := by decide +kernel
theorem dX8_agree_30 : decode cX8_agree 30 = .ok (.ireturn, 1) := by decide +kernel
theorem dX8_agree_31 : decode cX8_agree 31 = .ok (.aload_n 0, 1) := by decide +kernel
theorem dX8_agree_32 : decode cX8_agree 32 = .ok (.getfield 35, 3) := by decide +kernel
theorem dX8_agree_35 : decode cX8_agree 35 = .ok (.iload_n 1, 1) := by decide +kernel
theorem dX8_agree_36 : decode cX8_agree 36 = .ok (.invokevirtual 196, 3) := by decide +kernel
theorem dX8_agree_39 : decode cX8_agree 39 = .ok (.istore 4, 2) := by decide +kernel
theorem dX8_agree_41 : decode cX8_agree 41 = .ok (.iconst 0, 1) := by decide +kernel
theorem dX8_agree_42 : decode cX8_agree 42 = .ok (.istore 5, 2) := by decide +kernel
theorem dX8_agree_44 : decode cX8_agree 44 = .ok (.iconst 0, 1) := by decide +kernel
theorem dX8_agree_45 : decode cX8_agree 45 = .ok (.istore 6, 2) := by decide +kernel
theorem dX8_agree_47 : decode cX8_agree 47 = .ok (.iload 6, 2) := by decide +kernel
theorem dX8_agree_49 : decode cX8_agree 49 = .ok (.iload 4, 2) := by decide +kernel
theorem dX8_agree_51 : decode cX8_agree 51 = .ok (.if_icmp .ge 26, 3) := by decide +kernel
theorem dX8_agree_54 : decode cX8_agree 54 = .ok (.aload_n 0, 1) := by decide +kernel
theorem dX8_agree_55 : decode cX8_agree 55 = .ok (.getfield 35, 3) := by decide +kernel
theorem dX8_agree_58 : decode cX8_agree 58 = .ok (.iload 6, 2) := by decide +kernel
theorem dX8_agree_60 : decode cX8_agree 60 = .ok (.iload_n 2, 1) := by decide +kernel
theorem dX8_agree_61 : decode cX8_agree 61 = .ok (.invokevirtual 144, 3) := by decide +kernel
theorem dX8_agree_64 : decode cX8_agree 64 = .ok (.iload_n 3, 1) := by decide +kernel
theorem dX8_agree_65 : decode cX8_agree 65 = .ok (.if_icmp .ne 6, 3) := by decide +kernel
theorem dX8_agree_68 : decode cX8_agree 68 = .ok (.iinc 5 1, 3) := by decide +kernel
theorem dX8_agree_71 : decode cX8_agree 71 = .ok (.iinc 6 1, 3) := by decide +kernel
theorem dX8_agree_74 : decode cX8_agree 74 = .ok (.goto (-27), 3) := by decide +kernel
theorem dX8_agree_77 : decode cX8_agree 77 = .ok (.iload 5, 2) := by decide +kernel
theorem dX8_agree_79 : decode cX8_agree 79 = .ok (.ireturn, 1) := by decide +kernel
theorem dX8_take_0 : decode cX8_take 0 = .ok (.aload_n 0, 1) := by decide +kernel
theorem dX8_take_1 : decode cX8_take 1 = .ok (.getfield 35, 3) := by decide +kernel
theorem dX8_take_4 : decode cX8_take 4 = .ok (.iload_n 1, 1) := by decide +kernel
theorem dX8_take_5 : decode cX8_take 5 = .ok (.invokevirtual 140, 3) := by decide +kernel
theorem dX8_take_8 : decode cX8_take 8 = .ok (.ifCond .ne 5, 3) := by decide +kernel
theorem dX8_take_11 : decode cX8_take 11 = .ok (.iconst (-1), 1) := by decide +kernel
theorem dX8_take_12 : decode cX8_take 12 = .ok (.ireturn, 1) := by decide +kernel
theorem dX8_take_13 : decode cX8_take 13 = .ok (.iconst 0, 1) := by decide +kernel
theorem dX8_take_14 : decode cX8_take 14 = .ok (.istore_n 2, 1) := by decide +kernel
theorem dX8_take_15 : decode cX8_take 15 = .ok (.iconst 0, 1) := by decide +kernel
theorem dX8_take_16 : decode cX8_take 16 = .ok (.istore_n 3, 1) := by decide +kernel
theorem dX8_take_17 : decode cX8_take 17 = .ok (.iload_n 3, 1) := by decide +kernel
theorem dX8_take_18 : decode cX8_take 18 = .ok (.aload_n 0, 1) := by decide +kernel
theorem dX8_take_19 : decode cX8_take 19 = .ok (.getfield 26, 3) := by decide +kernel
theorem dX8_take_22 : decode cX8_take 22 = .ok (.invokevirtual 129, 3) := by decide +kernel
theorem dX8_take_25 : decode cX8_take 25 = .ok (.if_icmp .ge 47, 3) := by decide +kernel
theorem dX8_take_28 : decode cX8_take 28 = .ok (.aload_n 0, 1) := by decide +kernel
theorem dX8_take_29 : decode cX8_take 29 = .ok (.getfield 26, 3) := by decide +kernel
theorem dX8_take_32 : decode cX8_take 32 = .ok (.iload_n 3, 1) := by decide +kernel
theorem dX8_take_33 : decode cX8_take 33 = .ok (.invokevirtual 212, 3) := by decide +kernel
theorem dX8_take_36 : decode cX8_take 36 = .ok (.ifCond .eq 30, 3) := by decide +kernel
theorem dX8_take_39 : decode cX8_take 39 = .ok (.iload_n 2, 1) := by decide +kernel
theorem dX8_take_40 : decode cX8_take 40 = .ok (.aload_n 0, 1) := by decide +kernel
theorem dX8_take_41 : decode cX8_take 41 = .ok (.getfield 19, 3) := by decide +kernel
theorem dX8_take_44 : decode cX8_take 44 = .ok (.aload_n 0, 1) := by decide +kernel
theorem dX8_take_45 : decode cX8_take 45 = .ok (.getfield 26, 3) := by decide +kernel
theorem dX8_take_48 : decode cX8_take 48 = .ok (.iload_n 3, 1) := by decide +kernel
theorem dX8_take_49 : decode cX8_take 49 = .ok (.invokevirtual 215, 3) := by decide +kernel
theorem dX8_take_52 : decode cX8_take 52 = .ok (.aload_n 0, 1) := by decide +kernel
theorem dX8_take_53 : decode cX8_take 53 = .ok (.getfield 35, 3) := by decide +kernel
theorem dX8_take_56 : decode cX8_take 56 = .ok (.iload_n 1, 1) := by decide +kernel
theorem dX8_take_57 : decode cX8_take 57 = .ok (.iload_n 3, 1) := by decide +kernel
theorem dX8_take_58 : decode cX8_take 58 = .ok (.invokevirtual 144, 3) := by decide +kernel
theorem dX8_take_61 : decode cX8_take 61 = .ok (.invokevirtual 218, 3) := by decide +kernel
theorem dX8_take_64 : decode cX8_take 64 = .ok (.iadd, 1) := by decide +kernel
theorem dX8_take_65 : decode cX8_take 65 = .ok (.istore_n 2, 1) := by decide +kernel
theorem dX8_take_66 : decode cX8_take 66 = .ok (.iinc 3 1, 3) := by decide +kernel
theorem dX8_take_69 : decode cX8_take 69 = .ok (.goto (-52), 3) := by decide +kernel
theorem dX8_take_72 : decode cX8_take 72 = .ok (.aload_n 0, 1) := by decide +kernel
theorem dX8_take_73 : decode cX8_take 73 = .ok (.invokevirtual 99, 3) := by decide +kernel
theorem dX8_take_76 : decode cX8_take 76 = .ok (.iload_n 2, 1) := by decide +kernel
theorem dX8_take_77 : decode cX8_take 77 = .ok (.ireturn, 1) := by decide +kernel
theorem dX8_why_0 : decode cX8_why 0 = .ok (.aload_n 0, 1) := by decide +kernel
theorem dX8_why_1 : decode cX8_why 1 = .ok (.getfield 35, 3) := by decide +kernel
theorem dX8_why_4 : decode cX8_why 4 = .ok (.iload_n 1, 1) := by decide +kernel
theorem dX8_why_5 : decode cX8_why 5 = .ok (.invokevirtual 140, 3) := by decide +kernel
theorem dX8_why_8 : decode cX8_why 8 = .ok (.ifCond .eq 21, 3) := by decide +kernel
theorem dX8_why_11 : decode cX8_why 11 = .ok (.aload_n 0, 1) := by decide +kernel
theorem dX8_why_12 : decode cX8_why 12 = .ok (.getfield 44, 3) := by decide +kernel
theorem dX8_why_15 : decode cX8_why 15 = .ok (.aload_n 0, 1) := by decide +kernel
theorem dX8_why_16 : decode cX8_why 16 = .ok (.getfield 35, 3) := by decide +kernel
theorem dX8_why_19 : decode cX8_why 19 = .ok (.iload_n 1, 1) := by decide +kernel
theorem dX8_why_20 : decode cX8_why 20 = .ok (.invokevirtual 147, 3) := by decide +kernel
theorem dX8_why_23 : decode cX8_why 23 = .ok (.invokevirtual 221, 3) := by decide +kernel
theorem dX8_why_26 : decode cX8_why 26 = .ok (.goto 4, 3) := by decide +kernel
theorem dX8_why_29 : decode cX8_why 29 = .ok (.iconst (-1), 1) := by decide +kernel
theorem dX8_why_30 : decode cX8_why 30 = .ok (.ireturn, 1) := by decide +kernel
theorem dX8_count_0 : decode cX8_count 0 = .ok (.iload_n 1, 1) := by decide +kernel
theorem dX8_count_1 : decode cX8_count 1 = .ok (.tableswitch 51 0 2 #[27, 35, 43], 27) := by decide +kernel
theorem dX8_count_28 : decode cX8_count 28 = .ok (.aload_n 0, 1) := by decide +kernel
theorem dX8_count_29 : decode cX8_count 29 = .ok (.getfield 10, 3) := by decide +kernel
theorem dX8_count_32 : decode cX8_count 32 = .ok (.invokevirtual 57, 3) := by decide +kernel
theorem dX8_count_35 : decode cX8_count 35 = .ok (.ireturn, 1) := by decide +kernel
theorem dX8_count_36 : decode cX8_count 36 = .ok (.aload_n 0, 1) := by decide +kernel
theorem dX8_count_37 : decode cX8_count 37 = .ok (.getfield 26, 3) := by decide +kernel
theorem dX8_count_40 : decode cX8_count 40 = .ok (.invokevirtual 129, 3) := by decide +kernel
theorem dX8_count_43 : decode cX8_count 43 = .ok (.ireturn, 1) := by decide +kernel
theorem dX8_count_44 : decode cX8_count 44 = .ok (.aload_n 0, 1) := by decide +kernel
theorem dX8_count_45 : decode cX8_count 45 = .ok (.getfield 19, 3) := by decide +kernel
theorem dX8_count_48 : decode cX8_count 48 = .ok (.invokevirtual 224, 3) := by decide +kernel
theorem dX8_count_51 : decode cX8_count 51 = .ok (.ireturn, 1) := by decide +kernel
theorem dX8_count_52 : decode cX8_count 52 = .ok (.iconst (-1), 1) := by decide +kernel
theorem dX8_count_53 : decode cX8_count 53 = .ok (.ireturn, 1) := by decide +kernel
theorem dX8_rowsChanged_0 : decode cX8_rowsChanged 0 = .ok (.aload_n 0, 1) := by decide +kernel
theorem dX8_rowsChanged_1 : decode cX8_rowsChanged 1 = .ok (.getfield 44, 3) := by decide +kernel
theorem dX8_rowsChanged_4 : decode cX8_rowsChanged 4 = .ok (.invokevirtual 225, 3) := by decide +kernel
theorem dX8_rowsChanged_7 : decode cX8_rowsChanged 7 = .ok (.aload_n 0, 1) := by decide +kernel
theorem dX8_rowsChanged_8 : decode cX8_rowsChanged 8 = .ok (.getfield 53, 3) := by decide +kernel
theorem dX8_rowsChanged_11 : decode cX8_rowsChanged 11 = .ok (.invokevirtual 228, 3) := by decide +kernel
theorem dX8_rowsChanged_14 : decode cX8_rowsChanged 14 = .ok (.return_, 1) := by decide +kernel
theorem dX8_questionChanged_0 : decode cX8_questionChanged 0 = .ok (.aload_n 0, 1) := by decide +kernel
theorem dX8_questionChanged_1 : decode cX8_questionChanged 1 = .ok (.getfield 35, 3) := by decide +kernel
theorem dX8_questionChanged_4 : decode cX8_questionChanged 4 = .ok (.invokevirtual 229, 3) := by decide +kernel
theorem dX8_questionChanged_7 : decode cX8_questionChanged 7 = .ok (.aload_n 0, 1) := by decide +kernel
theorem dX8_questionChanged_8 : decode cX8_questionChanged 8 = .ok (.invokevirtual 72, 3) := by decide +kernel
theorem dX8_questionChanged_11 : decode cX8_questionChanged 11 = .ok (.return_, 1) := by decide +kernel
theorem dX8_isMeaning_0 : decode cX8_isMeaning 0 = .ok (.iload_n 1, 1) := by decide +kernel
theorem dX8_isMeaning_1 : decode cX8_isMeaning 1 = .ok (.tableswitch 173 0 5 #[39, 65, 88, 108, 134, 154], 39) := by decide +kernel
theorem dX8_isMeaning_40 : decode cX8_isMeaning 40 = .ok (.aload_n 0, 1) := by decide +kernel
theorem dX8_isMeaning_41 : decode cX8_isMeaning 41 = .ok (.getfield 10, 3) := by decide +kernel
theorem dX8_isMeaning_44 : decode cX8_isMeaning 44 = .ok (.iload_n 2, 1) := by decide +kernel
theorem dX8_isMeaning_45 : decode cX8_isMeaning 45 = .ok (.invokevirtual 65, 3) := by decide +kernel
theorem dX8_isMeaning_48 : decode cX8_isMeaning 48 = .ok (.ifCond .eq 16, 3) := by decide +kernel
theorem dX8_isMeaning_51 : decode cX8_isMeaning 51 = .ok (.iload_n 3, 1) := by decide +kernel
theorem dX8_isMeaning_52 : decode cX8_isMeaning 52 = .ok (.ifCond .ne 12, 3) := by decide +kernel
theorem dX8_isMeaning_55 : decode cX8_isMeaning 55 = .ok (.iload 4, 2) := by decide +kernel
theorem dX8_isMeaning_57 : decode cX8_isMeaning 57 = .ok (.ifCond .ne 7, 3) := by decide +kernel
theorem dX8_isMeaning_60 : decode cX8_isMeaning 60 = .ok (.iconst 1, 1) := by decide +kernel
theorem dX8_isMeaning_61 : decode cX8_isMeaning 61 = .ok (.goto 4, 3) := by decide +kernel
theorem dX8_isMeaning_64 : decode cX8_isMeaning 64 = .ok (.iconst 0, 1) := by decide +kernel
theorem dX8_isMeaning_65 : decode cX8_isMeaning 65 = .ok (.ireturn, 1) := by decide +kernel
theorem dX8_isMeaning_66 : decode cX8_isMeaning 66 = .ok (.aload_n 0, 1) := by decide +kernel
theorem dX8_isMeaning_67 : decode cX8_isMeaning 67 = .ok (.getfield 10, 3) := by decide +kernel
theorem dX8_isMeaning_70 : decode cX8_isMeaning 70 = .ok (.iload_n 2, 1) := by decide +kernel
theorem dX8_isMeaning_71 : decode cX8_isMeaning 71 = .ok (.iload_n 3, 1) := by decide +kernel
theorem dX8_isMeaning_72 : decode cX8_isMeaning 72 = .ok (.invokevirtual 95, 3) := by decide +kernel
theorem dX8_isMeaning_75 : decode cX8_isMeaning 75 = .ok (.ifCond .eq 12, 3) := by decide +kernel
theorem dX8_isMeaning_78 : decode cX8_isMeaning 78 = .ok (.iload 4, 2) := by decide +kernel
theorem dX8_isMeaning_80 : decode cX8_isMeaning 80 = .ok (.ifCond .ne 7, 3) := by decide +kernel
theorem dX8_isMeaning_83 : decode cX8_isMeaning 83 = .ok (.iconst 1, 1) := by decide +kernel
theorem dX8_isMeaning_84 : decode cX8_isMeaning 84 = .ok (.goto 4, 3) := by decide +kernel
theorem dX8_isMeaning_87 : decode cX8_isMeaning 87 = .ok (.iconst 0, 1) := by decide +kernel
theorem dX8_isMeaning_88 : decode cX8_isMeaning 88 = .ok (.ireturn, 1) := by decide +kernel
theorem dX8_isMeaning_89 : decode cX8_isMeaning 89 = .ok (.iload_n 2, 1) := by decide +kernel
theorem dX8_isMeaning_90 : decode cX8_isMeaning 90 = .ok (.iconst 3, 1) := by decide +kernel
theorem dX8_isMeaning_91 : decode cX8_isMeaning 91 = .ok (.if_icmp .gt 16, 3) := by decide +kernel
theorem dX8_isMeaning_94 : decode cX8_isMeaning 94 = .ok (.iload_n 3, 1) := by decide +kernel
theorem dX8_isMeaning_95 : decode cX8_isMeaning 95 = .ok (.ifCond .ne 12, 3) := by decide +kernel
theorem dX8_isMeaning_98 : decode cX8_isMeaning 98 = .ok (.iload 4, 2) := by decide +kernel
theorem dX8_isMeaning_100 : decode cX8_isMeaning 100 = .ok (.ifCond .ne 7, 3) := by decide +kernel
theorem dX8_isMeaning_103 : decode cX8_isMeaning 103 = .ok (.iconst 1, 1) := by decide +kernel
theorem dX8_isMeaning_104 : decode cX8_isMeaning 104 = .ok (.goto 4, 3) := by decide +kernel
theorem dX8_isMeaning_107 : decode cX8_isMeaning 107 = .ok (.iconst 0, 1) := by decide +kernel
theorem dX8_isMeaning_108 : decode cX8_isMeaning 108 = .ok (.ireturn, 1) := by decide +kernel
theorem dX8_isMeaning_109 : decode cX8_isMeaning 109 = .ok (.aload_n 0, 1) := by decide +kernel
theorem dX8_isMeaning_110 : decode cX8_isMeaning 110 = .ok (.getfield 10, 3) := by decide +kernel
theorem dX8_isMeaning_113 : decode cX8_isMeaning 113 = .ok (.iload_n 2, 1) := by decide +kernel
theorem dX8_isMeaning_114 : decode cX8_isMeaning 114 = .ok (.iload_n 3, 1) := by decide +kernel
theorem dX8_isMeaning_115 : decode cX8_isMeaning 115 = .ok (.invokevirtual 95, 3) := by decide +kernel
theorem dX8_isMeaning_118 : decode cX8_isMeaning 118 = .ok (.ifCond .eq 15, 3) := by decide +kernel
theorem dX8_isMeaning_121 : decode cX8_isMeaning 121 = .ok (.iload 4, 2) := by decide +kernel
theorem dX8_isMeaning_123 : decode cX8_isMeaning 123 = .ok (.invokestatic 82, 3) := by decide +kernel
theorem dX8_isMeaning_126 : decode cX8_isMeaning 126 = .ok (.ifCond .eq 7, 3) := by decide +kernel
theorem dX8_isMeaning_129 : decode cX8_isMeaning 129 = .ok (.iconst 1, 1) := by decide +kernel
theorem dX8_isMeaning_130 : decode cX8_isMeaning 130 = .ok (.goto 4, 3) := by decide +kernel
theorem dX8_isMeaning_133 : decode cX8_isMeaning 133 = .ok (.iconst 0, 1) := by decide +kernel
theorem dX8_isMeaning_134 : decode cX8_isMeaning 134 = .ok (.ireturn, 1) := by decide +kernel
theorem dX8_isMeaning_135 : decode cX8_isMeaning 135 = .ok (.iload_n 2, 1) := by decide +kernel
theorem dX8_isMeaning_136 : decode cX8_isMeaning 136 = .ok (.iconst 2, 1) := by decide +kernel
theorem dX8_isMeaning_137 : decode cX8_isMeaning 137 = .ok (.if_icmp .gt 16, 3) := by decide +kernel
theorem dX8_isMeaning_140 : decode cX8_isMeaning 140 = .ok (.iload_n 3, 1) := by decide +kernel
theorem dX8_isMeaning_141 : decode cX8_isMeaning 141 = .ok (.ifCond .ne 12, 3) := by decide +kernel
theorem dX8_isMeaning_144 : decode cX8_isMeaning 144 = .ok (.iload 4, 2) := by decide +kernel
theorem dX8_isMeaning_146 : decode cX8_isMeaning 146 = .ok (.ifCond .ne 7, 3) := by decide +kernel
theorem dX8_isMeaning_149 : decode cX8_isMeaning 149 = .ok (.iconst 1, 1) := by decide +kernel
theorem dX8_isMeaning_150 : decode cX8_isMeaning 150 = .ok (.goto 4, 3) := by decide +kernel
theorem dX8_isMeaning_153 : decode cX8_isMeaning 153 = .ok (.iconst 0, 1) := by decide +kernel
theorem dX8_isMeaning_154 : decode cX8_isMeaning 154 = .ok (.ireturn, 1) := by decide +kernel
theorem dX8_isMeaning_155 : decode cX8_isMeaning 155 = .ok (.iload_n 2, 1) := by decide +kernel
theorem dX8_isMeaning_156 : decode cX8_isMeaning 156 = .ok (.ifCond .ne 16, 3) := by decide +kernel
theorem dX8_isMeaning_159 : decode cX8_isMeaning 159 = .ok (.iload_n 3, 1) := by decide +kernel
theorem dX8_isMeaning_160 : decode cX8_isMeaning 160 = .ok (.ifCond .ne 12, 3) := by decide +kernel
theorem dX8_isMeaning_163 : decode cX8_isMeaning 163 = .ok (.iload 4, 2) := by decide +kernel
theorem dX8_isMeaning_165 : decode cX8_isMeaning 165 = .ok (.ifCond .ne 7, 3) := by decide +kernel
theorem dX8_isMeaning_168 : decode cX8_isMeaning 168 = .ok (.iconst 1, 1) := by decide +kernel
theorem dX8_isMeaning_169 : decode cX8_isMeaning 169 = .ok (.goto 4, 3) := by decide +kernel
theorem dX8_isMeaning_172 : decode cX8_isMeaning 172 = .ok (.iconst 0, 1) := by decide +kernel
theorem dX8_isMeaning_173 : decode cX8_isMeaning 173 = .ok (.ireturn, 1) := by decide +kernel
theorem dX8_isMeaning_174 : decode cX8_isMeaning 174 = .ok (.iconst 0, 1) := by decide +kernel
theorem dX8_isMeaning_175 : decode cX8_isMeaning 175 = .ok (.ireturn, 1) := by decide +kernel
theorem dX8_isWord_0 : decode cX8_isWord 0 = .ok (.iload_n 0, 1) := by decide +kernel
theorem dX8_isWord_1 : decode cX8_isWord 1 = .ok (.ifCond .lt 13, 3) := by decide +kernel
theorem dX8_isWord_4 : decode cX8_isWord 4 = .ok (.iload_n 0, 1) := by decide +kernel
theorem dX8_isWord_5 : decode cX8_isWord 5 = .ok (.bipush 40, 2) := by decide +kernel
theorem dX8_isWord_7 : decode cX8_isWord 7 = .ok (.if_icmp .ge 7, 3) := by decide +kernel
theorem dX8_isWord_10 : decode cX8_isWord 10 = .ok (.iconst 1, 1) := by decide +kernel
theorem dX8_isWord_11 : decode cX8_isWord 11 = .ok (.goto 4, 3) := by decide +kernel
theorem dX8_isWord_14 : decode cX8_isWord 14 = .ok (.iconst 0, 1) := by decide +kernel
theorem dX8_isWord_15 : decode cX8_isWord 15 = .ok (.ireturn, 1) := by decide +kernel
theorem dX8_isValue_0 : decode cX8_isValue 0 = .ok (.iload_n 0, 1) := by decide +kernel
theorem dX8_isValue_1 : decode cX8_isValue 1 = .ok (.sipush (-999), 3) := by decide +kernel
theorem dX8_isValue_4 : decode cX8_isValue 4 = .ok (.if_icmp .lt 14, 3) := by decide +kernel
theorem dX8_isValue_7 : decode cX8_isValue 7 = .ok (.iload_n 0, 1) := by decide +kernel
theorem dX8_isValue_8 : decode cX8_isValue 8 = .ok (.sipush 999, 3) := by decide +kernel
theorem dX8_isValue_11 : decode cX8_isValue 11 = .ok (.if_icmp .gt 7, 3) := by decide +kernel
theorem dX8_isValue_14 : decode cX8_isValue 14 = .ok (.iconst 1, 1) := by decide +kernel
theorem dX8_isValue_15 : decode cX8_isValue 15 = .ok (.goto 4, 3) := by decide +kernel
theorem dX8_isValue_18 : decode cX8_isValue 18 = .ok (.iconst 0, 1) := by decide +kernel
theorem dX8_isValue_19 : decode cX8_isValue 19 = .ok (.ireturn, 1) := by decide +kernel
theorem dX8_isDistance_0 : decode cX8_isDistance 0 = .ok (.iload_n 0, 1) := by decide +kernel
theorem dX8_isDistance_1 : decode cX8_isDistance 1 = .ok (.ifCond .lt 14, 3) := by decide +kernel
theorem dX8_isDistance_4 : decode cX8_isDistance 4 = .ok (.iload_n 0, 1) := by decide +kernel
theorem dX8_isDistance_5 : decode cX8_isDistance 5 = .ok (.sipush 1000, 3) := by decide +kernel
theorem dX8_isDistance_8 : decode cX8_isDistance 8 = .ok (.if_icmp .gt 7, 3) := by decide +kernel
theorem dX8_isDistance_11 : decode cX8_isDistance 11 = .ok (.iconst 1, 1) := by decide +kernel
theorem dX8_isDistance_12 : decode cX8_isDistance 12 = .ok (.goto 4, 3) := by decide +kernel
theorem dX8_isDistance_15 : decode cX8_isDistance 15 = .ok (.iconst 0, 1) := by decide +kernel
theorem dX8_isDistance_16 : decode cX8_isDistance 16 = .ok (.ireturn, 1) := by decide +kernel
theorem dX8_holdsBit_0 : decode cX8_holdsBit 0 = .ok (.iload_n 0, 1) := by decide +kernel
theorem dX8_holdsBit_1 : decode cX8_holdsBit 1 = .ok (.iload_n 1, 1) := by decide +kernel
theorem dX8_holdsBit_2 : decode cX8_holdsBit 2 = .ok (.ishr, 1) := by decide +kernel
theorem dX8_holdsBit_3 : decode cX8_holdsBit 3 = .ok (.iconst 1, 1) := by decide +kernel
theorem dX8_holdsBit_4 : decode cX8_holdsBit 4 = .ok (.iand, 1) := by decide +kernel
theorem dX8_holdsBit_5 : decode cX8_holdsBit 5 = .ok (.ifCond .eq 7, 3) := by decide +kernel
theorem dX8_holdsBit_8 : decode cX8_holdsBit 8 = .ok (.iconst 1, 1) := by decide +kernel
theorem dX8_holdsBit_9 : decode cX8_holdsBit 9 = .ok (.goto 4, 3) := by decide +kernel
theorem dX8_holdsBit_12 : decode cX8_holdsBit 12 = .ok (.iconst 0, 1) := by decide +kernel
theorem dX8_holdsBit_13 : decode cX8_holdsBit 13 = .ok (.ireturn, 1) := by decide +kernel
theorem dJ6_compare_7cf53_0 : decode cJ6_compare_7cf53 0 = .ok (.iload_n 0, 1) := by decide +kernel
theorem dJ6_compare_7cf53_1 : decode cJ6_compare_7cf53 1 = .ok (.iload_n 1, 1) := by decide +kernel
theorem dJ6_compare_7cf53_2 : decode cJ6_compare_7cf53 2 = .ok (.if_icmp .ge 7, 3) := by decide +kernel
theorem dJ6_compare_7cf53_5 : decode cJ6_compare_7cf53 5 = .ok (.iconst (-1), 1) := by decide +kernel
theorem dJ6_compare_7cf53_6 : decode cJ6_compare_7cf53 6 = .ok (.goto 13, 3) := by decide +kernel
theorem dJ6_compare_7cf53_9 : decode cJ6_compare_7cf53 9 = .ok (.iload_n 0, 1) := by decide +kernel
theorem dJ6_compare_7cf53_10 : decode cJ6_compare_7cf53 10 = .ok (.iload_n 1, 1) := by decide +kernel
theorem dJ6_compare_7cf53_11 : decode cJ6_compare_7cf53 11 = .ok (.if_icmp .ne 7, 3) := by decide +kernel
theorem dJ6_compare_7cf53_14 : decode cJ6_compare_7cf53 14 = .ok (.iconst 0, 1) := by decide +kernel
theorem dJ6_compare_7cf53_15 : decode cJ6_compare_7cf53 15 = .ok (.goto 4, 3) := by decide +kernel
theorem dJ6_compare_7cf53_18 : decode cJ6_compare_7cf53 18 = .ok (.iconst 1, 1) := by decide +kernel
theorem dJ6_compare_7cf53_19 : decode cJ6_compare_7cf53 19 = .ok (.ireturn, 1) := by decide +kernel
theorem dJ6_bitCount_0f7a4_0 : decode cJ6_bitCount_0f7a4 0 = .ok (.iload_n 0, 1) := by decide +kernel
theorem dJ6_bitCount_0f7a4_1 : decode cJ6_bitCount_0f7a4 1 = .ok (.iload_n 0, 1) := by decide +kernel
theorem dJ6_bitCount_0f7a4_2 : decode cJ6_bitCount_0f7a4 2 = .ok (.iconst 1, 1) := by decide +kernel
theorem dJ6_bitCount_0f7a4_3 : decode cJ6_bitCount_0f7a4 3 = .ok (.iushr, 1) := by decide +kernel
theorem dJ6_bitCount_0f7a4_4 : decode cJ6_bitCount_0f7a4 4 = .ok (.ldc_w 265, 3) := by decide +kernel
theorem dJ6_bitCount_0f7a4_7 : decode cJ6_bitCount_0f7a4 7 = .ok (.iand, 1) := by decide +kernel
theorem dJ6_bitCount_0f7a4_8 : decode cJ6_bitCount_0f7a4 8 = .ok (.isub, 1) := by decide +kernel
theorem dJ6_bitCount_0f7a4_9 : decode cJ6_bitCount_0f7a4 9 = .ok (.istore_n 0, 1) := by decide +kernel
theorem dJ6_bitCount_0f7a4_10 : decode cJ6_bitCount_0f7a4 10 = .ok (.iload_n 0, 1) := by decide +kernel
theorem dJ6_bitCount_0f7a4_11 : decode cJ6_bitCount_0f7a4 11 = .ok (.ldc_w 266, 3) := by decide +kernel
theorem dJ6_bitCount_0f7a4_14 : decode cJ6_bitCount_0f7a4 14 = .ok (.iand, 1) := by decide +kernel
theorem dJ6_bitCount_0f7a4_15 : decode cJ6_bitCount_0f7a4 15 = .ok (.iload_n 0, 1) := by decide +kernel
theorem dJ6_bitCount_0f7a4_16 : decode cJ6_bitCount_0f7a4 16 = .ok (.iconst 2, 1) := by decide +kernel
theorem dJ6_bitCount_0f7a4_17 : decode cJ6_bitCount_0f7a4 17 = .ok (.iushr, 1) := by decide +kernel
theorem dJ6_bitCount_0f7a4_18 : decode cJ6_bitCount_0f7a4 18 = .ok (.ldc_w 266, 3) := by decide +kernel
theorem dJ6_bitCount_0f7a4_21 : decode cJ6_bitCount_0f7a4 21 = .ok (.iand, 1) := by decide +kernel
theorem dJ6_bitCount_0f7a4_22 : decode cJ6_bitCount_0f7a4 22 = .ok (.iadd, 1) := by decide +kernel
theorem dJ6_bitCount_0f7a4_23 : decode cJ6_bitCount_0f7a4 23 = .ok (.istore_n 0, 1) := by decide +kernel
theorem dJ6_bitCount_0f7a4_24 : decode cJ6_bitCount_0f7a4 24 = .ok (.iload_n 0, 1) := by decide +kernel
theorem dJ6_bitCount_0f7a4_25 : decode cJ6_bitCount_0f7a4 25 = .ok (.iload_n 0, 1) := by decide +kernel
theorem dJ6_bitCount_0f7a4_26 : decode cJ6_bitCount_0f7a4 26 = .ok (.iconst 4, 1) := by decide +kernel
theorem dJ6_bitCount_0f7a4_27 : decode cJ6_bitCount_0f7a4 27 = .ok (.iushr, 1) := by decide +kernel
theorem dJ6_bitCount_0f7a4_28 : decode cJ6_bitCount_0f7a4 28 = .ok (.iadd, 1) := by decide +kernel
theorem dJ6_bitCount_0f7a4_29 : decode cJ6_bitCount_0f7a4 29 = .ok (.ldc_w 267, 3) := by decide +kernel
theorem dJ6_bitCount_0f7a4_32 : decode cJ6_bitCount_0f7a4 32 = .ok (.iand, 1) := by decide +kernel
theorem dJ6_bitCount_0f7a4_33 : decode cJ6_bitCount_0f7a4 33 = .ok (.istore_n 0, 1) := by decide +kernel
theorem dJ6_bitCount_0f7a4_34 : decode cJ6_bitCount_0f7a4 34 = .ok (.iload_n 0, 1) := by decide +kernel
theorem dJ6_bitCount_0f7a4_35 : decode cJ6_bitCount_0f7a4 35 = .ok (.iload_n 0, 1) := by decide +kernel
theorem dJ6_bitCount_0f7a4_36 : decode cJ6_bitCount_0f7a4 36 = .ok (.bipush 8, 2) := by decide +kernel
theorem dJ6_bitCount_0f7a4_38 : decode cJ6_bitCount_0f7a4 38 = .ok (.iushr, 1) := by decide +kernel
theorem dJ6_bitCount_0f7a4_39 : decode cJ6_bitCount_0f7a4 39 = .ok (.iadd, 1) := by decide +kernel
theorem dJ6_bitCount_0f7a4_40 : decode cJ6_bitCount_0f7a4 40 = .ok (.istore_n 0, 1) := by decide +kernel
theorem dJ6_bitCount_0f7a4_41 : decode cJ6_bitCount_0f7a4 41 = .ok (.iload_n 0, 1) := by decide +kernel
theorem dJ6_bitCount_0f7a4_42 : decode cJ6_bitCount_0f7a4 42 = .ok (.iload_n 0, 1) := by decide +kernel
theorem dJ6_bitCount_0f7a4_43 : decode cJ6_bitCount_0f7a4 43 = .ok (.bipush 16, 2) := by decide +kernel
theorem dJ6_bitCount_0f7a4_45 : decode cJ6_bitCount_0f7a4 45 = .ok (.iushr, 1) := by decide +kernel
theorem dJ6_bitCount_0f7a4_46 : decode cJ6_bitCount_0f7a4 46 = .ok (.iadd, 1) := by decide +kernel
theorem dJ6_bitCount_0f7a4_47 : decode cJ6_bitCount_0f7a4 47 = .ok (.istore_n 0, 1) := by decide +kernel
theorem dJ6_bitCount_0f7a4_48 : decode cJ6_bitCount_0f7a4 48 = .ok (.iload_n 0, 1) := by decide +kernel
theorem dJ6_bitCount_0f7a4_49 : decode cJ6_bitCount_0f7a4 49 = .ok (.bipush 63, 2) := by decide +kernel
theorem dJ6_bitCount_0f7a4_51 : decode cJ6_bitCount_0f7a4 51 = .ok (.iand, 1) := by decide +kernel
theorem dJ6_bitCount_0f7a4_52 : decode cJ6_bitCount_0f7a4 52 = .ok (.ireturn, 1) := by decide +kernel
theorem dJ9_max_7cf53_0 : decode cJ9_max_7cf53 0 = .ok (.iload_n 0, 1) := by decide +kernel
theorem dJ9_max_7cf53_1 : decode cJ9_max_7cf53 1 = .ok (.iload_n 1, 1) := by decide +kernel
theorem dJ9_max_7cf53_2 : decode cJ9_max_7cf53 2 = .ok (.if_icmp .lt 7, 3) := by decide +kernel
theorem dJ9_max_7cf53_5 : decode cJ9_max_7cf53 5 = .ok (.iload_n 0, 1) := by decide +kernel
theorem dJ9_max_7cf53_6 : decode cJ9_max_7cf53 6 = .ok (.goto 4, 3) := by decide +kernel
theorem dJ9_max_7cf53_9 : decode cJ9_max_7cf53 9 = .ok (.iload_n 1, 1) := by decide +kernel
theorem dJ9_max_7cf53_10 : decode cJ9_max_7cf53 10 = .ok (.ireturn, 1) := by decide +kernel
theorem dJ9_min_7cf53_0 : decode cJ9_min_7cf53 0 = .ok (.iload_n 0, 1) := by decide +kernel
theorem dJ9_min_7cf53_1 : decode cJ9_min_7cf53 1 = .ok (.iload_n 1, 1) := by decide +kernel
theorem dJ9_min_7cf53_2 : decode cJ9_min_7cf53 2 = .ok (.if_icmp .gt 7, 3) := by decide +kernel
theorem dJ9_min_7cf53_5 : decode cJ9_min_7cf53 5 = .ok (.iload_n 0, 1) := by decide +kernel
theorem dJ9_min_7cf53_6 : decode cJ9_min_7cf53 6 = .ok (.goto 4, 3) := by decide +kernel
theorem dJ9_min_7cf53_9 : decode cJ9_min_7cf53 9 = .ok (.iload_n 1, 1) := by decide +kernel
theorem dJ9_min_7cf53_10 : decode cJ9_min_7cf53 10 = .ok (.ireturn, 1) := by decide +kernel
theorem dJ7_fill_53178_0 : decode cJ7_fill_53178 0 = .ok (.iconst 0, 1) := by decide +kernel
theorem dJ7_fill_53178_1 : decode cJ7_fill_53178 1 = .ok (.istore_n 2, 1) := by decide +kernel
theorem dJ7_fill_53178_2 : decode cJ7_fill_53178 2 = .ok (.aload_n 0, 1) := by decide +kernel
theorem dJ7_fill_53178_3 : decode cJ7_fill_53178 3 = .ok (.arraylength, 1) := by decide +kernel
theorem dJ7_fill_53178_4 : decode cJ7_fill_53178 4 = .ok (.istore_n 3, 1) := by decide +kernel
theorem dJ7_fill_53178_5 : decode cJ7_fill_53178 5 = .ok (.iload_n 2, 1) := by decide +kernel
theorem dJ7_fill_53178_6 : decode cJ7_fill_53178 6 = .ok (.iload_n 3, 1) := by decide +kernel
theorem dJ7_fill_53178_7 : decode cJ7_fill_53178 7 = .ok (.if_icmp .ge 13, 3) := by decide +kernel
theorem dJ7_fill_53178_10 : decode cJ7_fill_53178 10 = .ok (.aload_n 0, 1) := by decide +kernel
theorem dJ7_fill_53178_11 : decode cJ7_fill_53178 11 = .ok (.iload_n 2, 1) := by decide +kernel
theorem dJ7_fill_53178_12 : decode cJ7_fill_53178 12 = .ok (.iload_n 1, 1) := by decide +kernel
theorem dJ7_fill_53178_13 : decode cJ7_fill_53178 13 = .ok (.iastore, 1) := by decide +kernel
theorem dJ7_fill_53178_14 : decode cJ7_fill_53178 14 = .ok (.iinc 2 1, 3) := by decide +kernel
theorem dJ7_fill_53178_17 : decode cJ7_fill_53178 17 = .ok (.goto (-12), 3) := by decide +kernel
theorem dJ7_fill_53178_20 : decode cJ7_fill_53178 20 = .ok (.return_, 1) := by decide +kernel
theorem dL_law_0 : decode cL_law 0 = .ok (.new 7, 3) := by decide +kernel
theorem dL_law_3 : decode cL_law 3 = .ok (.dup, 1) := by decide +kernel
theorem dL_law_4 : decode cL_law 4 = .ok (.invokespecial 9, 3) := by decide +kernel
theorem dL_law_7 : decode cL_law 7 = .ok (.astore_n 1, 1) := by decide +kernel
theorem dL_law_8 : decode cL_law 8 = .ok (.new 10, 3) := by decide +kernel
theorem dL_law_11 : decode cL_law 11 = .ok (.dup, 1) := by decide +kernel
theorem dL_law_12 : decode cL_law 12 = .ok (.invokespecial 12, 3) := by decide +kernel
theorem dL_law_15 : decode cL_law 15 = .ok (.astore_n 2, 1) := by decide +kernel
theorem dL_law_16 : decode cL_law 16 = .ok (.iconst 0, 1) := by decide +kernel
theorem dL_law_17 : decode cL_law 17 = .ok (.istore_n 3, 1) := by decide +kernel
theorem dL_law_18 : decode cL_law 18 = .ok (.iload_n 3, 1) := by decide +kernel
theorem dL_law_19 : decode cL_law 19 = .ok (.aload_n 0, 1) := by decide +kernel
theorem dL_law_20 : decode cL_law 20 = .ok (.arraylength, 1) := by decide +kernel
theorem dL_law_21 : decode cL_law 21 = .ok (.bipush 6, 2) := by decide +kernel
theorem dL_law_23 : decode cL_law 23 = .ok (.isub, 1) := by decide +kernel
theorem dL_law_24 : decode cL_law 24 = .ok (.if_icmp .gt 784, 3) := by decide +kernel
theorem dL_law_27 : decode cL_law 27 = .ok (.aload_n 0, 1) := by decide +kernel
theorem dL_law_28 : decode cL_law 28 = .ok (.iload_n 3, 1) := by decide +kernel
theorem dL_law_29 : decode cL_law 29 = .ok (.iaload, 1) := by decide +kernel
theorem dL_law_30 : decode cL_law 30 = .ok (.bipush 31, 2) := by decide +kernel
theorem dL_law_32 : decode cL_law 32 = .ok (.iand, 1) := by decide +kernel
theorem dL_law_33 : decode cL_law 33 = .ok (.tableswitch 769 0 21 #[103, 126, 149, 202, 245, 288, 351, 384, 407, 430, 453, 466, 479, 512, 555, 578, 611, 634, 657, 700, 723, 746], 103) := by decide +kernel
theorem dL_law_136 : decode cL_law 136 = .ok (.aload_n 1, 1) := by decide +kernel
theorem dL_law_137 : decode cL_law 137 = .ok (.aload_n 0, 1) := by decide +kernel
theorem dL_law_138 : decode cL_law 138 = .ok (.iload_n 3, 1) := by decide +kernel
theorem dL_law_139 : decode cL_law 139 = .ok (.iconst 1, 1) := by decide +kernel
theorem dL_law_140 : decode cL_law 140 = .ok (.iadd, 1) := by decide +kernel
theorem dL_law_141 : decode cL_law 141 = .ok (.iaload, 1) := by decide +kernel
theorem dL_law_142 : decode cL_law 142 = .ok (.invokevirtual 13, 3) := by decide +kernel
theorem dL_law_145 : decode cL_law 145 = .ok (.aload_n 2, 1) := by decide +kernel
theorem dL_law_146 : decode cL_law 146 = .ok (.aload_n 0, 1) := by decide +kernel
theorem dL_law_147 : decode cL_law 147 = .ok (.iload_n 3, 1) := by decide +kernel
theorem dL_law_148 : decode cL_law 148 = .ok (.iconst 1, 1) := by decide +kernel
theorem dL_law_149 : decode cL_law 149 = .ok (.iadd, 1) := by decide +kernel
theorem dL_law_150 : decode cL_law 150 = .ok (.iaload, 1) := by decide +kernel
theorem dL_law_151 : decode cL_law 151 = .ok (.invokevirtual 17, 3) := by decide +kernel
theorem dL_law_154 : decode cL_law 154 = .ok (.if_icmp .eq 648, 3) := by decide +kernel
theorem dL_law_157 : decode cL_law 157 = .ok (.iconst 0, 1) := by decide +kernel
theorem dL_law_158 : decode cL_law 158 = .ok (.ireturn, 1) := by decide +kernel
theorem dL_law_159 : decode cL_law 159 = .ok (.aload_n 1, 1) := by decide +kernel
theorem dL_law_160 : decode cL_law 160 = .ok (.aload_n 0, 1) := by decide +kernel
theorem dL_law_161 : decode cL_law 161 = .ok (.iload_n 3, 1) := by decide +kernel
theorem dL_law_162 : decode cL_law 162 = .ok (.iconst 1, 1) := by decide +kernel
theorem dL_law_163 : decode cL_law 163 = .ok (.iadd, 1) := by decide +kernel
theorem dL_law_164 : decode cL_law 164 = .ok (.iaload, 1) := by decide +kernel
theorem dL_law_165 : decode cL_law 165 = .ok (.invokevirtual 18, 3) := by decide +kernel
theorem dL_law_168 : decode cL_law 168 = .ok (.aload_n 2, 1) := by decide +kernel
theorem dL_law_169 : decode cL_law 169 = .ok (.aload_n 0, 1) := by decide +kernel
theorem dL_law_170 : decode cL_law 170 = .ok (.iload_n 3, 1) := by decide +kernel
theorem dL_law_171 : decode cL_law 171 = .ok (.iconst 1, 1) := by decide +kernel
theorem dL_law_172 : decode cL_law 172 = .ok (.iadd, 1) := by decide +kernel
theorem dL_law_173 : decode cL_law 173 = .ok (.iaload, 1) := by decide +kernel
theorem dL_law_174 : decode cL_law 174 = .ok (.invokevirtual 21, 3) := by decide +kernel
theorem dL_law_177 : decode cL_law 177 = .ok (.if_icmp .eq 625, 3) := by decide +kernel
theorem dL_law_180 : decode cL_law 180 = .ok (.iconst 0, 1) := by decide +kernel
theorem dL_law_181 : decode cL_law 181 = .ok (.ireturn, 1) := by decide +kernel
theorem dL_law_182 : decode cL_law 182 = .ok (.aload_n 1, 1) := by decide +kernel
theorem dL_law_183 : decode cL_law 183 = .ok (.aload_n 0, 1) := by decide +kernel
theorem dL_law_184 : decode cL_law 184 = .ok (.iload_n 3, 1) := by decide +kernel
theorem dL_law_185 : decode cL_law 185 = .ok (.iconst 1, 1) := by decide +kernel
theorem dL_law_186 : decode cL_law 186 = .ok (.iadd, 1) := by decide +kernel
theorem dL_law_187 : decode cL_law 187 = .ok (.iaload, 1) := by decide +kernel
theorem dL_law_188 : decode cL_law 188 = .ok (.aload_n 0, 1) := by decide +kernel
theorem dL_law_189 : decode cL_law 189 = .ok (.iload_n 3, 1) := by decide +kernel
theorem dL_law_190 : decode cL_law 190 = .ok (.iconst 2, 1) := by decide +kernel
theorem dL_law_191 : decode cL_law 191 = .ok (.iadd, 1) := by decide +kernel
theorem dL_law_192 : decode cL_law 192 = .ok (.iaload, 1) := by decide +kernel
theorem dL_law_193 : decode cL_law 193 = .ok (.aload_n 0, 1) := by decide +kernel
theorem dL_law_194 : decode cL_law 194 = .ok (.iload_n 3, 1) := by decide +kernel
theorem dL_law_195 : decode cL_law 195 = .ok (.iconst 3, 1) := by decide +kernel
theorem dL_law_196 : decode cL_law 196 = .ok (.iadd, 1) := by decide +kernel
theorem dL_law_197 : decode cL_law 197 = .ok (.iaload, 1) := by decide +kernel
theorem dL_law_198 : decode cL_law 198 = .ok (.aload_n 0, 1) := by decide +kernel
theorem dL_law_199 : decode cL_law 199 = .ok (.iload_n 3, 1) := by decide +kernel
theorem dL_law_200 : decode cL_law 200 = .ok (.iconst 4, 1) := by decide +kernel
theorem dL_law_201 : decode cL_law 201 = .ok (.iadd, 1) := by decide +kernel
theorem dL_law_202 : decode cL_law 202 = .ok (.iaload, 1) := by decide +kernel
theorem dL_law_203 : decode cL_law 203 = .ok (.invokevirtual 22, 3) := by decide +kernel
theorem dL_law_206 : decode cL_law 206 = .ok (.aload_n 2, 1) := by decide +kernel
theorem dL_law_207 : decode cL_law 207 = .ok (.aload_n 0, 1) := by decide +kernel
theorem dL_law_208 : decode cL_law 208 = .ok (.iload_n 3, 1) := by decide +kernel
theorem dL_law_209 : decode cL_law 209 = .ok (.iconst 1, 1) := by decide +kernel
theorem dL_law_210 : decode cL_law 210 = .ok (.iadd, 1) := by decide +kernel
theorem dL_law_211 : decode cL_law 211 = .ok (.iaload, 1) := by decide +kernel
theorem dL_law_212 : decode cL_law 212 = .ok (.aload_n 0, 1) := by decide +kernel
theorem dL_law_213 : decode cL_law 213 = .ok (.iload_n 3, 1) := by decide +kernel
theorem dL_law_214 : decode cL_law 214 = .ok (.iconst 2, 1) := by decide +kernel
theorem dL_law_215 : decode cL_law 215 = .ok (.iadd, 1) := by decide +kernel
theorem dL_law_216 : decode cL_law 216 = .ok (.iaload, 1) := by decide +kernel
theorem dL_law_217 : decode cL_law 217 = .ok (.aload_n 0, 1) := by decide +kernel
theorem dL_law_218 : decode cL_law 218 = .ok (.iload_n 3, 1) := by decide +kernel
theorem dL_law_219 : decode cL_law 219 = .ok (.iconst 3, 1) := by decide +kernel
theorem dL_law_220 : decode cL_law 220 = .ok (.iadd, 1) := by decide +kernel
theorem dL_law_221 : decode cL_law 221 = .ok (.iaload, 1) := by decide +kernel
theorem dL_law_222 : decode cL_law 222 = .ok (.aload_n 0, 1) := by decide +kernel
theorem dL_law_223 : decode cL_law 223 = .ok (.iload_n 3, 1) := by decide +kernel
theorem dL_law_224 : decode cL_law 224 = .ok (.iconst 4, 1) := by decide +kernel
theorem dL_law_225 : decode cL_law 225 = .ok (.iadd, 1) := by decide +kernel
theorem dL_law_226 : decode cL_law 226 = .ok (.iaload, 1) := by decide +kernel
theorem dL_law_227 : decode cL_law 227 = .ok (.invokevirtual 26, 3) := by decide +kernel
theorem dL_law_230 : decode cL_law 230 = .ok (.if_icmp .eq 572, 3) := by decide +kernel
theorem dL_law_233 : decode cL_law 233 = .ok (.iconst 0, 1) := by decide +kernel
theorem dL_law_234 : decode cL_law 234 = .ok (.ireturn, 1) := by decide +kernel
theorem dL_law_235 : decode cL_law 235 = .ok (.aload_n 1, 1) := by decide +kernel
theorem dL_law_236 : decode cL_law 236 = .ok (.aload_n 0, 1) := by decide +kernel
theorem dL_law_237 : decode cL_law 237 = .ok (.iload_n 3, 1) := by decide +kernel
theorem dL_law_238 : decode cL_law 238 = .ok (.iconst 1, 1) := by decide +kernel
theorem dL_law_239 : decode cL_law 239 = .ok (.iadd, 1) := by decide +kernel
theorem dL_law_240 : decode cL_law 240 = .ok (.iaload, 1) := by decide +kernel
theorem dL_law_241 : decode cL_law 241 = .ok (.aload_n 0, 1) := by decide +kernel
theorem dL_law_242 : decode cL_law 242 = .ok (.iload_n 3, 1) := by decide +kernel
theorem dL_law_243 : decode cL_law 243 = .ok (.iconst 2, 1) := by decide +kernel
theorem dL_law_244 : decode cL_law 244 = .ok (.iadd, 1) := by decide +kernel
theorem dL_law_245 : decode cL_law 245 = .ok (.iaload, 1) := by decide +kernel
theorem dL_law_246 : decode cL_law 246 = .ok (.aload_n 0, 1) := by decide +kernel
theorem dL_law_247 : decode cL_law 247 = .ok (.iload_n 3, 1) := by decide +kernel
theorem dL_law_248 : decode cL_law 248 = .ok (.iconst 3, 1) := by decide +kernel
theorem dL_law_249 : decode cL_law 249 = .ok (.iadd, 1) := by decide +kernel
theorem dL_law_250 : decode cL_law 250 = .ok (.iaload, 1) := by decide +kernel
theorem dL_law_251 : decode cL_law 251 = .ok (.invokevirtual 27, 3) := by decide +kernel
theorem dL_law_254 : decode cL_law 254 = .ok (.aload_n 2, 1) := by decide +kernel
theorem dL_law_255 : decode cL_law 255 = .ok (.aload_n 0, 1) := by decide +kernel
theorem dL_law_256 : decode cL_law 256 = .ok (.iload_n 3, 1) := by decide +kernel
theorem dL_law_257 : decode cL_law 257 = .ok (.iconst 1, 1) := by decide +kernel
theorem dL_law_258 : decode cL_law 258 = .ok (.iadd, 1) := by decide +kernel
theorem dL_law_259 : decode cL_law 259 = .ok (.iaload, 1) := by decide +kernel
theorem dL_law_260 : decode cL_law 260 = .ok (.aload_n 0, 1) := by decide +kernel
theorem dL_law_261 : decode cL_law 261 = .ok (.iload_n 3, 1) := by decide +kernel
theorem dL_law_262 : decode cL_law 262 = .ok (.iconst 2, 1) := by decide +kernel
theorem dL_law_263 : decode cL_law 263 = .ok (.iadd, 1) := by decide +kernel
theorem dL_law_264 : decode cL_law 264 = .ok (.iaload, 1) := by decide +kernel
theorem dL_law_265 : decode cL_law 265 = .ok (.aload_n 0, 1) := by decide +kernel
theorem dL_law_266 : decode cL_law 266 = .ok (.iload_n 3, 1) := by decide +kernel
theorem dL_law_267 : decode cL_law 267 = .ok (.iconst 3, 1) := by decide +kernel
theorem dL_law_268 : decode cL_law 268 = .ok (.iadd, 1) := by decide +kernel
theorem dL_law_269 : decode cL_law 269 = .ok (.iaload, 1) := by decide +kernel
theorem dL_law_270 : decode cL_law 270 = .ok (.invokevirtual 31, 3) := by decide +kernel
theorem dL_law_273 : decode cL_law 273 = .ok (.if_icmp .eq 529, 3) := by decide +kernel
theorem dL_law_276 : decode cL_law 276 = .ok (.iconst 0, 1) := by decide +kernel
theorem dL_law_277 : decode cL_law 277 = .ok (.ireturn, 1) := by decide +kernel
theorem dL_law_278 : decode cL_law 278 = .ok (.aload_n 1, 1) := by decide +kernel
theorem dL_law_279 : decode cL_law 279 = .ok (.aload_n 0, 1) := by decide +kernel
theorem dL_law_280 : decode cL_law 280 = .ok (.iload_n 3, 1) := by decide +kernel
theorem dL_law_281 : decode cL_law 281 = .ok (.iconst 1, 1) := by decide +kernel
theorem dL_law_282 : decode cL_law 282 = .ok (.iadd, 1) := by decide +kernel
theorem dL_law_283 : decode cL_law 283 = .ok (.iaload, 1) := by decide +kernel
theorem dL_law_284 : decode cL_law 284 = .ok (.aload_n 0, 1) := by decide +kernel
theorem dL_law_285 : decode cL_law 285 = .ok (.iload_n 3, 1) := by decide +kernel
theorem dL_law_286 : decode cL_law 286 = .ok (.iconst 2, 1) := by decide +kernel
theorem dL_law_287 : decode cL_law 287 = .ok (.iadd, 1) := by decide +kernel
theorem dL_law_288 : decode cL_law 288 = .ok (.iaload, 1) := by decide +kernel
theorem dL_law_289 : decode cL_law 289 = .ok (.aload_n 0, 1) := by decide +kernel
theorem dL_law_290 : decode cL_law 290 = .ok (.iload_n 3, 1) := by decide +kernel
theorem dL_law_291 : decode cL_law 291 = .ok (.iconst 3, 1) := by decide +kernel
theorem dL_law_292 : decode cL_law 292 = .ok (.iadd, 1) := by decide +kernel
theorem dL_law_293 : decode cL_law 293 = .ok (.iaload, 1) := by decide +kernel
theorem dL_law_294 : decode cL_law 294 = .ok (.invokevirtual 32, 3) := by decide +kernel
theorem dL_law_297 : decode cL_law 297 = .ok (.aload_n 2, 1) := by decide +kernel
theorem dL_law_298 : decode cL_law 298 = .ok (.aload_n 0, 1) := by decide +kernel
theorem dL_law_299 : decode cL_law 299 = .ok (.iload_n 3, 1) := by decide +kernel
theorem dL_law_300 : decode cL_law 300 = .ok (.iconst 1, 1) := by decide +kernel
theorem dL_law_301 : decode cL_law 301 = .ok (.iadd, 1) := by decide +kernel
theorem dL_law_302 : decode cL_law 302 = .ok (.iaload, 1) := by decide +kernel
theorem dL_law_303 : decode cL_law 303 = .ok (.aload_n 0, 1) := by decide +kernel
theorem dL_law_304 : decode cL_law 304 = .ok (.iload_n 3, 1) := by decide +kernel
theorem dL_law_305 : decode cL_law 305 = .ok (.iconst 2, 1) := by decide +kernel
theorem dL_law_306 : decode cL_law 306 = .ok (.iadd, 1) := by decide +kernel
theorem dL_law_307 : decode cL_law 307 = .ok (.iaload, 1) := by decide +kernel
theorem dL_law_308 : decode cL_law 308 = .ok (.aload_n 0, 1) := by decide +kernel
theorem dL_law_309 : decode cL_law 309 = .ok (.iload_n 3, 1) := by decide +kernel
theorem dL_law_310 : decode cL_law 310 = .ok (.iconst 3, 1) := by decide +kernel
theorem dL_law_311 : decode cL_law 311 = .ok (.iadd, 1) := by decide +kernel
theorem dL_law_312 : decode cL_law 312 = .ok (.iaload, 1) := by decide +kernel
theorem dL_law_313 : decode cL_law 313 = .ok (.invokevirtual 35, 3) := by decide +kernel
theorem dL_law_316 : decode cL_law 316 = .ok (.if_icmp .eq 486, 3) := by decide +kernel
theorem dL_law_319 : decode cL_law 319 = .ok (.iconst 0, 1) := by decide +kernel
theorem dL_law_320 : decode cL_law 320 = .ok (.ireturn, 1) := by decide +kernel
theorem dL_law_321 : decode cL_law 321 = .ok (.aload_n 1, 1) := by decide +kernel
theorem dL_law_322 : decode cL_law 322 = .ok (.aload_n 0, 1) := by decide +kernel
theorem dL_law_323 : decode cL_law 323 = .ok (.iload_n 3, 1) := by decide +kernel
theorem dL_law_324 : decode cL_law 324 = .ok (.iconst 1, 1) := by decide +kernel
theorem dL_law_325 : decode cL_law 325 = .ok (.iadd, 1) := by decide +kernel
theorem dL_law_326 : decode cL_law 326 = .ok (.iaload, 1) := by decide +kernel
theorem dL_law_327 : decode cL_law 327 = .ok (.aload_n 0, 1) := by decide +kernel
theorem dL_law_328 : decode cL_law 328 = .ok (.iload_n 3, 1) := by decide +kernel
theorem dL_law_329 : decode cL_law 329 = .ok (.iconst 2, 1) := by decide +kernel
theorem dL_law_330 : decode cL_law 330 = .ok (.iadd, 1) := by decide +kernel
theorem dL_law_331 : decode cL_law 331 = .ok (.iaload, 1) := by decide +kernel
theorem dL_law_332 : decode cL_law 332 = .ok (.aload_n 0, 1) := by decide +kernel
theorem dL_law_333 : decode cL_law 333 = .ok (.iload_n 3, 1) := by decide +kernel
theorem dL_law_334 : decode cL_law 334 = .ok (.iconst 3, 1) := by decide +kernel
theorem dL_law_335 : decode cL_law 335 = .ok (.iadd, 1) := by decide +kernel
theorem dL_law_336 : decode cL_law 336 = .ok (.iaload, 1) := by decide +kernel
theorem dL_law_337 : decode cL_law 337 = .ok (.aload_n 0, 1) := by decide +kernel
theorem dL_law_338 : decode cL_law 338 = .ok (.iload_n 3, 1) := by decide +kernel
theorem dL_law_339 : decode cL_law 339 = .ok (.iconst 4, 1) := by decide +kernel
theorem dL_law_340 : decode cL_law 340 = .ok (.iadd, 1) := by decide +kernel
theorem dL_law_341 : decode cL_law 341 = .ok (.iaload, 1) := by decide +kernel
theorem dL_law_342 : decode cL_law 342 = .ok (.aload_n 0, 1) := by decide +kernel
theorem dL_law_343 : decode cL_law 343 = .ok (.iload_n 3, 1) := by decide +kernel
theorem dL_law_344 : decode cL_law 344 = .ok (.iconst 5, 1) := by decide +kernel
theorem dL_law_345 : decode cL_law 345 = .ok (.iadd, 1) := by decide +kernel
theorem dL_law_346 : decode cL_law 346 = .ok (.iaload, 1) := by decide +kernel
theorem dL_law_347 : decode cL_law 347 = .ok (.invokevirtual 36, 3) := by decide +kernel
theorem dL_law_350 : decode cL_law 350 = .ok (.aload_n 2, 1) := by decide +kernel
theorem dL_law_351 : decode cL_law 351 = .ok (.aload_n 0, 1) := by decide +kernel
theorem dL_law_352 : decode cL_law 352 = .ok (.iload_n 3, 1) := by decide +kernel
theorem dL_law_353 : decode cL_law 353 = .ok (.iconst 1, 1) := by decide +kernel
theorem dL_law_354 : decode cL_law 354 = .ok (.iadd, 1) := by decide +kernel
theorem dL_law_355 : decode cL_law 355 = .ok (.iaload, 1) := by decide +kernel
theorem dL_law_356 : decode cL_law 356 = .ok (.aload_n 0, 1) := by decide +kernel
theorem dL_law_357 : decode cL_law 357 = .ok (.iload_n 3, 1) := by decide +kernel
theorem dL_law_358 : decode cL_law 358 = .ok (.iconst 2, 1) := by decide +kernel
theorem dL_law_359 : decode cL_law 359 = .ok (.iadd, 1) := by decide +kernel
theorem dL_law_360 : decode cL_law 360 = .ok (.iaload, 1) := by decide +kernel
theorem dL_law_361 : decode cL_law 361 = .ok (.aload_n 0, 1) := by decide +kernel
theorem dL_law_362 : decode cL_law 362 = .ok (.iload_n 3, 1) := by decide +kernel
theorem dL_law_363 : decode cL_law 363 = .ok (.iconst 3, 1) := by decide +kernel
theorem dL_law_364 : decode cL_law 364 = .ok (.iadd, 1) := by decide +kernel
theorem dL_law_365 : decode cL_law 365 = .ok (.iaload, 1) := by decide +kernel
theorem dL_law_366 : decode cL_law 366 = .ok (.aload_n 0, 1) := by decide +kernel
theorem dL_law_367 : decode cL_law 367 = .ok (.iload_n 3, 1) := by decide +kernel
theorem dL_law_368 : decode cL_law 368 = .ok (.iconst 4, 1) := by decide +kernel
theorem dL_law_369 : decode cL_law 369 = .ok (.iadd, 1) := by decide +kernel
theorem dL_law_370 : decode cL_law 370 = .ok (.iaload, 1) := by decide +kernel
theorem dL_law_371 : decode cL_law 371 = .ok (.aload_n 0, 1) := by decide +kernel
theorem dL_law_372 : decode cL_law 372 = .ok (.iload_n 3, 1) := by decide +kernel
theorem dL_law_373 : decode cL_law 373 = .ok (.iconst 5, 1) := by decide +kernel
theorem dL_law_374 : decode cL_law 374 = .ok (.iadd, 1) := by decide +kernel
theorem dL_law_375 : decode cL_law 375 = .ok (.iaload, 1) := by decide +kernel
theorem dL_law_376 : decode cL_law 376 = .ok (.invokevirtual 40, 3) := by decide +kernel
theorem dL_law_379 : decode cL_law 379 = .ok (.if_icmp .eq 423, 3) := by decide +kernel
theorem dL_law_382 : decode cL_law 382 = .ok (.iconst 0, 1) := by decide +kernel
theorem dL_law_383 : decode cL_law 383 = .ok (.ireturn, 1) := by decide +kernel
theorem dL_law_384 : decode cL_law 384 = .ok (.aload_n 1, 1) := by decide +kernel
theorem dL_law_385 : decode cL_law 385 = .ok (.aload_n 0, 1) := by decide +kernel
theorem dL_law_386 : decode cL_law 386 = .ok (.iload_n 3, 1) := by decide +kernel
theorem dL_law_387 : decode cL_law 387 = .ok (.iconst 1, 1) := by decide +kernel
theorem dL_law_388 : decode cL_law 388 = .ok (.iadd, 1) := by decide +kernel
theorem dL_law_389 : decode cL_law 389 = .ok (.iaload, 1) := by decide +kernel
theorem dL_law_390 : decode cL_law 390 = .ok (.aload_n 0, 1) := by decide +kernel
theorem dL_law_391 : decode cL_law 391 = .ok (.iload_n 3, 1) := by decide +kernel
theorem dL_law_392 : decode cL_law 392 = .ok (.iconst 2, 1) := by decide +kernel
theorem dL_law_393 : decode cL_law 393 = .ok (.iadd, 1) := by decide +kernel
theorem dL_law_394 : decode cL_law 394 = .ok (.iaload, 1) := by decide +kernel
theorem dL_law_395 : decode cL_law 395 = .ok (.invokevirtual 41, 3) := by decide +kernel
theorem dL_law_398 : decode cL_law 398 = .ok (.aload_n 2, 1) := by decide +kernel
theorem dL_law_399 : decode cL_law 399 = .ok (.aload_n 0, 1) := by decide +kernel
theorem dL_law_400 : decode cL_law 400 = .ok (.iload_n 3, 1) := by decide +kernel
theorem dL_law_401 : decode cL_law 401 = .ok (.iconst 1, 1) := by decide +kernel
theorem dL_law_402 : decode cL_law 402 = .ok (.iadd, 1) := by decide +kernel
theorem dL_law_403 : decode cL_law 403 = .ok (.iaload, 1) := by decide +kernel
theorem dL_law_404 : decode cL_law 404 = .ok (.aload_n 0, 1) := by decide +kernel
theorem dL_law_405 : decode cL_law 405 = .ok (.iload_n 3, 1) := by decide +kernel
theorem dL_law_406 : decode cL_law 406 = .ok (.iconst 2, 1) := by decide +kernel
theorem dL_law_407 : decode cL_law 407 = .ok (.iadd, 1) := by decide +kernel
theorem dL_law_408 : decode cL_law 408 = .ok (.iaload, 1) := by decide +kernel
theorem dL_law_409 : decode cL_law 409 = .ok (.invokevirtual 45, 3) := by decide +kernel
theorem dL_law_412 : decode cL_law 412 = .ok (.if_icmp .eq 390, 3) := by decide +kernel
theorem dL_law_415 : decode cL_law 415 = .ok (.iconst 0, 1) := by decide +kernel
theorem dL_law_416 : decode cL_law 416 = .ok (.ireturn, 1) := by decide +kernel
theorem dL_law_417 : decode cL_law 417 = .ok (.aload_n 1, 1) := by decide +kernel
theorem dL_law_418 : decode cL_law 418 = .ok (.aload_n 0, 1) := by decide +kernel
theorem dL_law_419 : decode cL_law 419 = .ok (.iload_n 3, 1) := by decide +kernel
theorem dL_law_420 : decode cL_law 420 = .ok (.iconst 1, 1) := by decide +kernel
theorem dL_law_421 : decode cL_law 421 = .ok (.iadd, 1) := by decide +kernel
theorem dL_law_422 : decode cL_law 422 = .ok (.iaload, 1) := by decide +kernel
theorem dL_law_423 : decode cL_law 423 = .ok (.invokevirtual 46, 3) := by decide +kernel
theorem dL_law_426 : decode cL_law 426 = .ok (.aload_n 2, 1) := by decide +kernel
theorem dL_law_427 : decode cL_law 427 = .ok (.aload_n 0, 1) := by decide +kernel
theorem dL_law_428 : decode cL_law 428 = .ok (.iload_n 3, 1) := by decide +kernel
theorem dL_law_429 : decode cL_law 429 = .ok (.iconst 1, 1) := by decide +kernel
theorem dL_law_430 : decode cL_law 430 = .ok (.iadd, 1) := by decide +kernel
theorem dL_law_431 : decode cL_law 431 = .ok (.iaload, 1) := by decide +kernel
theorem dL_law_432 : decode cL_law 432 = .ok (.invokevirtual 49, 3) := by decide +kernel
theorem dL_law_435 : decode cL_law 435 = .ok (.if_icmp .eq 367, 3) := by decide +kernel
theorem dL_law_438 : decode cL_law 438 = .ok (.iconst 0, 1) := by decide +kernel
theorem dL_law_439 : decode cL_law 439 = .ok (.ireturn, 1) := by decide +kernel
theorem dL_law_440 : decode cL_law 440 = .ok (.aload_n 1, 1) := by decide +kernel
theorem dL_law_441 : decode cL_law 441 = .ok (.aload_n 0, 1) := by decide +kernel
theorem dL_law_442 : decode cL_law 442 = .ok (.iload_n 3, 1) := by decide +kernel
theorem dL_law_443 : decode cL_law 443 = .ok (.iconst 1, 1) := by decide +kernel
theorem dL_law_444 : decode cL_law 444 = .ok (.iadd, 1) := by decide +kernel
theorem dL_law_445 : decode cL_law 445 = .ok (.iaload, 1) := by decide +kernel
theorem dL_law_446 : decode cL_law 446 = .ok (.invokevirtual 50, 3) := by decide +kernel
theorem dL_law_449 : decode cL_law 449 = .ok (.aload_n 2, 1) := by decide +kernel
theorem dL_law_450 : decode cL_law 450 = .ok (.aload_n 0, 1) := by decide +kernel
theorem dL_law_451 : decode cL_law 451 = .ok (.iload_n 3, 1) := by decide +kernel
theorem dL_law_452 : decode cL_law 452 = .ok (.iconst 1, 1) := by decide +kernel
theorem dL_law_453 : decode cL_law 453 = .ok (.iadd, 1) := by decide +kernel
theorem dL_law_454 : decode cL_law 454 = .ok (.iaload, 1) := by decide +kernel
theorem dL_law_455 : decode cL_law 455 = .ok (.invokevirtual 53, 3) := by decide +kernel
theorem dL_law_458 : decode cL_law 458 = .ok (.if_icmp .eq 344, 3) := by decide +kernel
theorem dL_law_461 : decode cL_law 461 = .ok (.iconst 0, 1) := by decide +kernel
theorem dL_law_462 : decode cL_law 462 = .ok (.ireturn, 1) := by decide +kernel
theorem dL_law_463 : decode cL_law 463 = .ok (.aload_n 1, 1) := by decide +kernel
theorem dL_law_464 : decode cL_law 464 = .ok (.aload_n 0, 1) := by decide +kernel
theorem dL_law_465 : decode cL_law 465 = .ok (.iload_n 3, 1) := by decide +kernel
theorem dL_law_466 : decode cL_law 466 = .ok (.iconst 1, 1) := by decide +kernel
theorem dL_law_467 : decode cL_law 467 = .ok (.iadd, 1) := by decide +kernel
theorem dL_law_468 : decode cL_law 468 = .ok (.iaload, 1) := by decide +kernel
theorem dL_law_469 : decode cL_law 469 = .ok (.invokevirtual 54, 3) := by decide +kernel
theorem dL_law_472 : decode cL_law 472 = .ok (.aload_n 2, 1) := by decide +kernel
theorem dL_law_473 : decode cL_law 473 = .ok (.aload_n 0, 1) := by decide +kernel
theorem dL_law_474 : decode cL_law 474 = .ok (.iload_n 3, 1) := by decide +kernel
theorem dL_law_475 : decode cL_law 475 = .ok (.iconst 1, 1) := by decide +kernel
theorem dL_law_476 : decode cL_law 476 = .ok (.iadd, 1) := by decide +kernel
theorem dL_law_477 : decode cL_law 477 = .ok (.iaload, 1) := by decide +kernel
theorem dL_law_478 : decode cL_law 478 = .ok (.invokevirtual 57, 3) := by decide +kernel
theorem dL_law_481 : decode cL_law 481 = .ok (.if_icmp .eq 321, 3) := by decide +kernel
theorem dL_law_484 : decode cL_law 484 = .ok (.iconst 0, 1) := by decide +kernel
theorem dL_law_485 : decode cL_law 485 = .ok (.ireturn, 1) := by decide +kernel
theorem dL_law_486 : decode cL_law 486 = .ok (.aload_n 1, 1) := by decide +kernel
theorem dL_law_487 : decode cL_law 487 = .ok (.invokevirtual 58, 3) := by decide +kernel
theorem dL_law_490 : decode cL_law 490 = .ok (.aload_n 2, 1) := by decide +kernel
theorem dL_law_491 : decode cL_law 491 = .ok (.invokevirtual 62, 3) := by decide +kernel
theorem dL_law_494 : decode cL_law 494 = .ok (.if_icmp .eq 308, 3) := by decide +kernel
theorem dL_law_497 : decode cL_law 497 = .ok (.iconst 0, 1) := by decide +kernel
theorem dL_law_498 : decode cL_law 498 = .ok (.ireturn, 1) := by decide +kernel
theorem dL_law_499 : decode cL_law 499 = .ok (.aload_n 1, 1) := by decide +kernel
theorem dL_law_500 : decode cL_law 500 = .ok (.invokevirtual 63, 3) := by decide +kernel
theorem dL_law_503 : decode cL_law 503 = .ok (.aload_n 2, 1) := by decide +kernel
theorem dL_law_504 : decode cL_law 504 = .ok (.invokevirtual 66, 3) := by decide +kernel
theorem dL_law_507 : decode cL_law 507 = .ok (.if_icmp .eq 295, 3) := by decide +kernel
theorem dL_law_510 : decode cL_law 510 = .ok (.iconst 0, 1) := by decide +kernel
theorem dL_law_511 : decode cL_law 511 = .ok (.ireturn, 1) := by decide +kernel
theorem dL_law_512 : decode cL_law 512 = .ok (.aload_n 1, 1) := by decide +kernel
theorem dL_law_513 : decode cL_law 513 = .ok (.aload_n 0, 1) := by decide +kernel
theorem dL_law_514 : decode cL_law 514 = .ok (.iload_n 3, 1) := by decide +kernel
theorem dL_law_515 : decode cL_law 515 = .ok (.iconst 1, 1) := by decide +kernel
theorem dL_law_516 : decode cL_law 516 = .ok (.iadd, 1) := by decide +kernel
theorem dL_law_517 : decode cL_law 517 = .ok (.iaload, 1) := by decide +kernel
theorem dL_law_518 : decode cL_law 518 = .ok (.aload_n 0, 1) := by decide +kernel
theorem dL_law_519 : decode cL_law 519 = .ok (.iload_n 3, 1) := by decide +kernel
theorem dL_law_520 : decode cL_law 520 = .ok (.iconst 2, 1) := by decide +kernel
theorem dL_law_521 : decode cL_law 521 = .ok (.iadd, 1) := by decide +kernel
theorem dL_law_522 : decode cL_law 522 = .ok (.iaload, 1) := by decide +kernel
theorem dL_law_523 : decode cL_law 523 = .ok (.invokevirtual 67, 3) := by decide +kernel
theorem dL_law_526 : decode cL_law 526 = .ok (.aload_n 2, 1) := by decide +kernel
theorem dL_law_527 : decode cL_law 527 = .ok (.aload_n 0, 1) := by decide +kernel
theorem dL_law_528 : decode cL_law 528 = .ok (.iload_n 3, 1) := by decide +kernel
theorem dL_law_529 : decode cL_law 529 = .ok (.iconst 1, 1) := by decide +kernel
theorem dL_law_530 : decode cL_law 530 = .ok (.iadd, 1) := by decide +kernel
theorem dL_law_531 : decode cL_law 531 = .ok (.iaload, 1) := by decide +kernel
theorem dL_law_532 : decode cL_law 532 = .ok (.aload_n 0, 1) := by decide +kernel
theorem dL_law_533 : decode cL_law 533 = .ok (.iload_n 3, 1) := by decide +kernel
theorem dL_law_534 : decode cL_law 534 = .ok (.iconst 2, 1) := by decide +kernel
theorem dL_law_535 : decode cL_law 535 = .ok (.iadd, 1) := by decide +kernel
theorem dL_law_536 : decode cL_law 536 = .ok (.iaload, 1) := by decide +kernel
theorem dL_law_537 : decode cL_law 537 = .ok (.invokevirtual 70, 3) := by decide +kernel
theorem dL_law_540 : decode cL_law 540 = .ok (.if_icmp .eq 262, 3) := by decide +kernel
theorem dL_law_543 : decode cL_law 543 = .ok (.iconst 0, 1) := by decide +kernel
theorem dL_law_544 : decode cL_law 544 = .ok (.ireturn, 1) := by decide +kernel
theorem dL_law_545 : decode cL_law 545 = .ok (.aload_n 1, 1) := by decide +kernel
theorem dL_law_546 : decode cL_law 546 = .ok (.aload_n 0, 1) := by decide +kernel
theorem dL_law_547 : decode cL_law 547 = .ok (.iload_n 3, 1) := by decide +kernel
theorem dL_law_548 : decode cL_law 548 = .ok (.iconst 1, 1) := by decide +kernel
theorem dL_law_549 : decode cL_law 549 = .ok (.iadd, 1) := by decide +kernel
theorem dL_law_550 : decode cL_law 550 = .ok (.iaload, 1) := by decide +kernel
theorem dL_law_551 : decode cL_law 551 = .ok (.aload_n 0, 1) := by decide +kernel
theorem dL_law_552 : decode cL_law 552 = .ok (.iload_n 3, 1) := by decide +kernel
theorem dL_law_553 : decode cL_law 553 = .ok (.iconst 2, 1) := by decide +kernel
theorem dL_law_554 : decode cL_law 554 = .ok (.iadd, 1) := by decide +kernel
theorem dL_law_555 : decode cL_law 555 = .ok (.iaload, 1) := by decide +kernel
theorem dL_law_556 : decode cL_law 556 = .ok (.aload_n 0, 1) := by decide +kernel
theorem dL_law_557 : decode cL_law 557 = .ok (.iload_n 3, 1) := by decide +kernel
theorem dL_law_558 : decode cL_law 558 = .ok (.iconst 3, 1) := by decide +kernel
theorem dL_law_559 : decode cL_law 559 = .ok (.iadd, 1) := by decide +kernel
theorem dL_law_560 : decode cL_law 560 = .ok (.iaload, 1) := by decide +kernel
theorem dL_law_561 : decode cL_law 561 = .ok (.invokevirtual 71, 3) := by decide +kernel
theorem dL_law_564 : decode cL_law 564 = .ok (.aload_n 2, 1) := by decide +kernel
theorem dL_law_565 : decode cL_law 565 = .ok (.aload_n 0, 1) := by decide +kernel
theorem dL_law_566 : decode cL_law 566 = .ok (.iload_n 3, 1) := by decide +kernel
theorem dL_law_567 : decode cL_law 567 = .ok (.iconst 1, 1) := by decide +kernel
theorem dL_law_568 : decode cL_law 568 = .ok (.iadd, 1) := by decide +kernel
theorem dL_law_569 : decode cL_law 569 = .ok (.iaload, 1) := by decide +kernel
theorem dL_law_570 : decode cL_law 570 = .ok (.aload_n 0, 1) := by decide +kernel
theorem dL_law_571 : decode cL_law 571 = .ok (.iload_n 3, 1) := by decide +kernel
theorem dL_law_572 : decode cL_law 572 = .ok (.iconst 2, 1) := by decide +kernel
theorem dL_law_573 : decode cL_law 573 = .ok (.iadd, 1) := by decide +kernel
theorem dL_law_574 : decode cL_law 574 = .ok (.iaload, 1) := by decide +kernel
theorem dL_law_575 : decode cL_law 575 = .ok (.aload_n 0, 1) := by decide +kernel
theorem dL_law_576 : decode cL_law 576 = .ok (.iload_n 3, 1) := by decide +kernel
theorem dL_law_577 : decode cL_law 577 = .ok (.iconst 3, 1) := by decide +kernel
theorem dL_law_578 : decode cL_law 578 = .ok (.iadd, 1) := by decide +kernel
theorem dL_law_579 : decode cL_law 579 = .ok (.iaload, 1) := by decide +kernel
theorem dL_law_580 : decode cL_law 580 = .ok (.invokevirtual 74, 3) := by decide +kernel
theorem dL_law_583 : decode cL_law 583 = .ok (.if_icmp .eq 219, 3) := by decide +kernel
theorem dL_law_586 : decode cL_law 586 = .ok (.iconst 0, 1) := by decide +kernel
theorem dL_law_587 : decode cL_law 587 = .ok (.ireturn, 1) := by decide +kernel
theorem dL_law_588 : decode cL_law 588 = .ok (.aload_n 1, 1) := by decide +kernel
theorem dL_law_589 : decode cL_law 589 = .ok (.aload_n 0, 1) := by decide +kernel
theorem dL_law_590 : decode cL_law 590 = .ok (.iload_n 3, 1) := by decide +kernel
theorem dL_law_591 : decode cL_law 591 = .ok (.iconst 1, 1) := by decide +kernel
theorem dL_law_592 : decode cL_law 592 = .ok (.iadd, 1) := by decide +kernel
theorem dL_law_593 : decode cL_law 593 = .ok (.iaload, 1) := by decide +kernel
theorem dL_law_594 : decode cL_law 594 = .ok (.invokevirtual 75, 3) := by decide +kernel
theorem dL_law_597 : decode cL_law 597 = .ok (.aload_n 2, 1) := by decide +kernel
theorem dL_law_598 : decode cL_law 598 = .ok (.aload_n 0, 1) := by decide +kernel
theorem dL_law_599 : decode cL_law 599 = .ok (.iload_n 3, 1) := by decide +kernel
theorem dL_law_600 : decode cL_law 600 = .ok (.iconst 1, 1) := by decide +kernel
theorem dL_law_601 : decode cL_law 601 = .ok (.iadd, 1) := by decide +kernel
theorem dL_law_602 : decode cL_law 602 = .ok (.iaload, 1) := by decide +kernel
theorem dL_law_603 : decode cL_law 603 = .ok (.invokevirtual 78, 3) := by decide +kernel
theorem dL_law_606 : decode cL_law 606 = .ok (.if_icmp .eq 196, 3) := by decide +kernel
theorem dL_law_609 : decode cL_law 609 = .ok (.iconst 0, 1) := by decide +kernel
theorem dL_law_610 : decode cL_law 610 = .ok (.ireturn, 1) := by decide +kernel
theorem dL_law_611 : decode cL_law 611 = .ok (.aload_n 1, 1) := by decide +kernel
theorem dL_law_612 : decode cL_law 612 = .ok (.aload_n 0, 1) := by decide +kernel
theorem dL_law_613 : decode cL_law 613 = .ok (.iload_n 3, 1) := by decide +kernel
theorem dL_law_614 : decode cL_law 614 = .ok (.iconst 1, 1) := by decide +kernel
theorem dL_law_615 : decode cL_law 615 = .ok (.iadd, 1) := by decide +kernel
theorem dL_law_616 : decode cL_law 616 = .ok (.iaload, 1) := by decide +kernel
theorem dL_law_617 : decode cL_law 617 = .ok (.aload_n 0, 1) := by decide +kernel
theorem dL_law_618 : decode cL_law 618 = .ok (.iload_n 3, 1) := by decide +kernel
theorem dL_law_619 : decode cL_law 619 = .ok (.iconst 2, 1) := by decide +kernel
theorem dL_law_620 : decode cL_law 620 = .ok (.iadd, 1) := by decide +kernel
theorem dL_law_621 : decode cL_law 621 = .ok (.iaload, 1) := by decide +kernel
theorem dL_law_622 : decode cL_law 622 = .ok (.invokevirtual 79, 3) := by decide +kernel
theorem dL_law_625 : decode cL_law 625 = .ok (.aload_n 2, 1) := by decide +kernel
theorem dL_law_626 : decode cL_law 626 = .ok (.aload_n 0, 1) := by decide +kernel
theorem dL_law_627 : decode cL_law 627 = .ok (.iload_n 3, 1) := by decide +kernel
theorem dL_law_628 : decode cL_law 628 = .ok (.iconst 1, 1) := by decide +kernel
theorem dL_law_629 : decode cL_law 629 = .ok (.iadd, 1) := by decide +kernel
theorem dL_law_630 : decode cL_law 630 = .ok (.iaload, 1) := by decide +kernel
theorem dL_law_631 : decode cL_law 631 = .ok (.aload_n 0, 1) := by decide +kernel
theorem dL_law_632 : decode cL_law 632 = .ok (.iload_n 3, 1) := by decide +kernel
theorem dL_law_633 : decode cL_law 633 = .ok (.iconst 2, 1) := by decide +kernel
theorem dL_law_634 : decode cL_law 634 = .ok (.iadd, 1) := by decide +kernel
theorem dL_law_635 : decode cL_law 635 = .ok (.iaload, 1) := by decide +kernel
theorem dL_law_636 : decode cL_law 636 = .ok (.invokevirtual 82, 3) := by decide +kernel
theorem dL_law_639 : decode cL_law 639 = .ok (.if_icmp .eq 163, 3) := by decide +kernel
theorem dL_law_642 : decode cL_law 642 = .ok (.iconst 0, 1) := by decide +kernel
theorem dL_law_643 : decode cL_law 643 = .ok (.ireturn, 1) := by decide +kernel
theorem dL_law_644 : decode cL_law 644 = .ok (.aload_n 1, 1) := by decide +kernel
theorem dL_law_645 : decode cL_law 645 = .ok (.aload_n 0, 1) := by decide +kernel
theorem dL_law_646 : decode cL_law 646 = .ok (.iload_n 3, 1) := by decide +kernel
theorem dL_law_647 : decode cL_law 647 = .ok (.iconst 1, 1) := by decide +kernel
theorem dL_law_648 : decode cL_law 648 = .ok (.iadd, 1) := by decide +kernel
theorem dL_law_649 : decode cL_law 649 = .ok (.iaload, 1) := by decide +kernel
theorem dL_law_650 : decode cL_law 650 = .ok (.invokevirtual 83, 3) := by decide +kernel
theorem dL_law_653 : decode cL_law 653 = .ok (.aload_n 2, 1) := by decide +kernel
theorem dL_law_654 : decode cL_law 654 = .ok (.aload_n 0, 1) := by decide +kernel
theorem dL_law_655 : decode cL_law 655 = .ok (.iload_n 3, 1) := by decide +kernel
theorem dL_law_656 : decode cL_law 656 = .ok (.iconst 1, 1) := by decide +kernel
theorem dL_law_657 : decode cL_law 657 = .ok (.iadd, 1) := by decide +kernel
theorem dL_law_658 : decode cL_law 658 = .ok (.iaload, 1) := by decide +kernel
theorem dL_law_659 : decode cL_law 659 = .ok (.invokevirtual 86, 3) := by decide +kernel
theorem dL_law_662 : decode cL_law 662 = .ok (.if_icmp .eq 140, 3) := by decide +kernel
theorem dL_law_665 : decode cL_law 665 = .ok (.iconst 0, 1) := by decide +kernel
theorem dL_law_666 : decode cL_law 666 = .ok (.ireturn, 1) := by decide +kernel
theorem dL_law_667 : decode cL_law 667 = .ok (.aload_n 1, 1) := by decide +kernel
theorem dL_law_668 : decode cL_law 668 = .ok (.aload_n 0, 1) := by decide +kernel
theorem dL_law_669 : decode cL_law 669 = .ok (.iload_n 3, 1) := by decide +kernel
theorem dL_law_670 : decode cL_law 670 = .ok (.iconst 1, 1) := by decide +kernel
theorem dL_law_671 : decode cL_law 671 = .ok (.iadd, 1) := by decide +kernel
theorem dL_law_672 : decode cL_law 672 = .ok (.iaload, 1) := by decide +kernel
theorem dL_law_673 : decode cL_law 673 = .ok (.invokevirtual 87, 3) := by decide +kernel
theorem dL_law_676 : decode cL_law 676 = .ok (.aload_n 2, 1) := by decide +kernel
theorem dL_law_677 : decode cL_law 677 = .ok (.aload_n 0, 1) := by decide +kernel
theorem dL_law_678 : decode cL_law 678 = .ok (.iload_n 3, 1) := by decide +kernel
theorem dL_law_679 : decode cL_law 679 = .ok (.iconst 1, 1) := by decide +kernel
theorem dL_law_680 : decode cL_law 680 = .ok (.iadd, 1) := by decide +kernel
theorem dL_law_681 : decode cL_law 681 = .ok (.iaload, 1) := by decide +kernel
theorem dL_law_682 : decode cL_law 682 = .ok (.invokevirtual 90, 3) := by decide +kernel
theorem dL_law_685 : decode cL_law 685 = .ok (.if_icmp .eq 117, 3) := by decide +kernel
theorem dL_law_688 : decode cL_law 688 = .ok (.iconst 0, 1) := by decide +kernel
theorem dL_law_689 : decode cL_law 689 = .ok (.ireturn, 1) := by decide +kernel
theorem dL_law_690 : decode cL_law 690 = .ok (.aload_n 1, 1) := by decide +kernel
theorem dL_law_691 : decode cL_law 691 = .ok (.aload_n 0, 1) := by decide +kernel
theorem dL_law_692 : decode cL_law 692 = .ok (.iload_n 3, 1) := by decide +kernel
theorem dL_law_693 : decode cL_law 693 = .ok (.iconst 1, 1) := by decide +kernel
theorem dL_law_694 : decode cL_law 694 = .ok (.iadd, 1) := by decide +kernel
theorem dL_law_695 : decode cL_law 695 = .ok (.iaload, 1) := by decide +kernel
theorem dL_law_696 : decode cL_law 696 = .ok (.aload_n 0, 1) := by decide +kernel
theorem dL_law_697 : decode cL_law 697 = .ok (.iload_n 3, 1) := by decide +kernel
theorem dL_law_698 : decode cL_law 698 = .ok (.iconst 2, 1) := by decide +kernel
theorem dL_law_699 : decode cL_law 699 = .ok (.iadd, 1) := by decide +kernel
theorem dL_law_700 : decode cL_law 700 = .ok (.iaload, 1) := by decide +kernel
theorem dL_law_701 : decode cL_law 701 = .ok (.aload_n 0, 1) := by decide +kernel
theorem dL_law_702 : decode cL_law 702 = .ok (.iload_n 3, 1) := by decide +kernel
theorem dL_law_703 : decode cL_law 703 = .ok (.iconst 3, 1) := by decide +kernel
theorem dL_law_704 : decode cL_law 704 = .ok (.iadd, 1) := by decide +kernel
theorem dL_law_705 : decode cL_law 705 = .ok (.iaload, 1) := by decide +kernel
theorem dL_law_706 : decode cL_law 706 = .ok (.invokevirtual 91, 3) := by decide +kernel
theorem dL_law_709 : decode cL_law 709 = .ok (.aload_n 2, 1) := by decide +kernel
theorem dL_law_710 : decode cL_law 710 = .ok (.aload_n 0, 1) := by decide +kernel
theorem dL_law_711 : decode cL_law 711 = .ok (.iload_n 3, 1) := by decide +kernel
theorem dL_law_712 : decode cL_law 712 = .ok (.iconst 1, 1) := by decide +kernel
theorem dL_law_713 : decode cL_law 713 = .ok (.iadd, 1) := by decide +kernel
theorem dL_law_714 : decode cL_law 714 = .ok (.iaload, 1) := by decide +kernel
theorem dL_law_715 : decode cL_law 715 = .ok (.aload_n 0, 1) := by decide +kernel
theorem dL_law_716 : decode cL_law 716 = .ok (.iload_n 3, 1) := by decide +kernel
theorem dL_law_717 : decode cL_law 717 = .ok (.iconst 2, 1) := by decide +kernel
theorem dL_law_718 : decode cL_law 718 = .ok (.iadd, 1) := by decide +kernel
theorem dL_law_719 : decode cL_law 719 = .ok (.iaload, 1) := by decide +kernel
theorem dL_law_720 : decode cL_law 720 = .ok (.aload_n 0, 1) := by decide +kernel
theorem dL_law_721 : decode cL_law 721 = .ok (.iload_n 3, 1) := by decide +kernel
theorem dL_law_722 : decode cL_law 722 = .ok (.iconst 3, 1) := by decide +kernel
theorem dL_law_723 : decode cL_law 723 = .ok (.iadd, 1) := by decide +kernel
theorem dL_law_724 : decode cL_law 724 = .ok (.iaload, 1) := by decide +kernel
theorem dL_law_725 : decode cL_law 725 = .ok (.invokevirtual 94, 3) := by decide +kernel
theorem dL_law_728 : decode cL_law 728 = .ok (.if_icmp .eq 74, 3) := by decide +kernel
theorem dL_law_731 : decode cL_law 731 = .ok (.iconst 0, 1) := by decide +kernel
theorem dL_law_732 : decode cL_law 732 = .ok (.ireturn, 1) := by decide +kernel
theorem dL_law_733 : decode cL_law 733 = .ok (.aload_n 1, 1) := by decide +kernel
theorem dL_law_734 : decode cL_law 734 = .ok (.aload_n 0, 1) := by decide +kernel
theorem dL_law_735 : decode cL_law 735 = .ok (.iload_n 3, 1) := by decide +kernel
theorem dL_law_736 : decode cL_law 736 = .ok (.iconst 1, 1) := by decide +kernel
theorem dL_law_737 : decode cL_law 737 = .ok (.iadd, 1) := by decide +kernel
theorem dL_law_738 : decode cL_law 738 = .ok (.iaload, 1) := by decide +kernel
theorem dL_law_739 : decode cL_law 739 = .ok (.invokevirtual 95, 3) := by decide +kernel
theorem dL_law_742 : decode cL_law 742 = .ok (.aload_n 2, 1) := by decide +kernel
theorem dL_law_743 : decode cL_law 743 = .ok (.aload_n 0, 1) := by decide +kernel
theorem dL_law_744 : decode cL_law 744 = .ok (.iload_n 3, 1) := by decide +kernel
theorem dL_law_745 : decode cL_law 745 = .ok (.iconst 1, 1) := by decide +kernel
theorem dL_law_746 : decode cL_law 746 = .ok (.iadd, 1) := by decide +kernel
theorem dL_law_747 : decode cL_law 747 = .ok (.iaload, 1) := by decide +kernel
theorem dL_law_748 : decode cL_law 748 = .ok (.invokevirtual 98, 3) := by decide +kernel
theorem dL_law_751 : decode cL_law 751 = .ok (.if_icmp .eq 51, 3) := by decide +kernel
theorem dL_law_754 : decode cL_law 754 = .ok (.iconst 0, 1) := by decide +kernel
theorem dL_law_755 : decode cL_law 755 = .ok (.ireturn, 1) := by decide +kernel
theorem dL_law_756 : decode cL_law 756 = .ok (.aload_n 1, 1) := by decide +kernel
theorem dL_law_757 : decode cL_law 757 = .ok (.aload_n 0, 1) := by decide +kernel
theorem dL_law_758 : decode cL_law 758 = .ok (.iload_n 3, 1) := by decide +kernel
theorem dL_law_759 : decode cL_law 759 = .ok (.iconst 1, 1) := by decide +kernel
theorem dL_law_760 : decode cL_law 760 = .ok (.iadd, 1) := by decide +kernel
theorem dL_law_761 : decode cL_law 761 = .ok (.iaload, 1) := by decide +kernel
theorem dL_law_762 : decode cL_law 762 = .ok (.invokevirtual 99, 3) := by decide +kernel
theorem dL_law_765 : decode cL_law 765 = .ok (.aload_n 2, 1) := by decide +kernel
theorem dL_law_766 : decode cL_law 766 = .ok (.aload_n 0, 1) := by decide +kernel
theorem dL_law_767 : decode cL_law 767 = .ok (.iload_n 3, 1) := by decide +kernel
theorem dL_law_768 : decode cL_law 768 = .ok (.iconst 1, 1) := by decide +kernel
theorem dL_law_769 : decode cL_law 769 = .ok (.iadd, 1) := by decide +kernel
theorem dL_law_770 : decode cL_law 770 = .ok (.iaload, 1) := by decide +kernel
theorem dL_law_771 : decode cL_law 771 = .ok (.invokevirtual 102, 3) := by decide +kernel
theorem dL_law_774 : decode cL_law 774 = .ok (.if_icmp .eq 28, 3) := by decide +kernel
theorem dL_law_777 : decode cL_law 777 = .ok (.iconst 0, 1) := by decide +kernel
theorem dL_law_778 : decode cL_law 778 = .ok (.ireturn, 1) := by decide +kernel
theorem dL_law_779 : decode cL_law 779 = .ok (.aload_n 1, 1) := by decide +kernel
theorem dL_law_780 : decode cL_law 780 = .ok (.aload_n 0, 1) := by decide +kernel
theorem dL_law_781 : decode cL_law 781 = .ok (.iload_n 3, 1) := by decide +kernel
theorem dL_law_782 : decode cL_law 782 = .ok (.iconst 1, 1) := by decide +kernel
theorem dL_law_783 : decode cL_law 783 = .ok (.iadd, 1) := by decide +kernel
theorem dL_law_784 : decode cL_law 784 = .ok (.iaload, 1) := by decide +kernel
theorem dL_law_785 : decode cL_law 785 = .ok (.invokevirtual 103, 3) := by decide +kernel
theorem dL_law_788 : decode cL_law 788 = .ok (.aload_n 2, 1) := by decide +kernel
theorem dL_law_789 : decode cL_law 789 = .ok (.aload_n 0, 1) := by decide +kernel
theorem dL_law_790 : decode cL_law 790 = .ok (.iload_n 3, 1) := by decide +kernel
theorem dL_law_791 : decode cL_law 791 = .ok (.iconst 1, 1) := by decide +kernel
theorem dL_law_792 : decode cL_law 792 = .ok (.iadd, 1) := by decide +kernel
theorem dL_law_793 : decode cL_law 793 = .ok (.iaload, 1) := by decide +kernel
theorem dL_law_794 : decode cL_law 794 = .ok (.invokevirtual 106, 3) := by decide +kernel
theorem dL_law_797 : decode cL_law 797 = .ok (.if_icmp .eq 5, 3) := by decide +kernel
theorem dL_law_800 : decode cL_law 800 = .ok (.iconst 0, 1) := by decide +kernel
theorem dL_law_801 : decode cL_law 801 = .ok (.ireturn, 1) := by decide +kernel
theorem dL_law_802 : decode cL_law 802 = .ok (.iinc 3 6, 3) := by decide +kernel
theorem dL_law_805 : decode cL_law 805 = .ok (.goto (-787), 3) := by decide +kernel
theorem dL_law_808 : decode cL_law 808 = .ok (.iconst 1, 1) := by decide +kernel
theorem dL_law_809 : decode cL_law 809 = .ok (.ireturn, 1) := by decide +kernel
