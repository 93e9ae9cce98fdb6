theorem dX9_init_0 : decode cX9_init 0 = .ok (.aload_n 0, 1) := by decide +kernel
theorem dX9_init_1 : decode cX9_init 1 = .ok (.invokespecial 1, 3) := by decide +kernel
theorem dX9_init_4 : decode cX9_init 4 = .ok (.aload_n 0, 1) := by decide +kernel
theorem dX9_init_5 : decode cX9_init 5 = .ok (.iconst 4, 1) := by decide +kernel
theorem dX9_init_6 : decode cX9_init 6 = .ok (.newarray .int, 2) := by decide +kernel
theorem dX9_init_8 : decode cX9_init 8 = .ok (.putfield 9, 3) := by decide +kernel
theorem dX9_init_11 : decode cX9_init 11 = .ok (.aload_n 0, 1) := by decide +kernel
theorem dX9_init_12 : decode cX9_init 12 = .ok (.iconst 4, 1) := by decide +kernel
theorem dX9_init_13 : decode cX9_init 13 = .ok (.newarray .int, 2) := by decide +kernel
theorem dX9_init_15 : decode cX9_init 15 = .ok (.putfield 13, 3) := by decide +kernel
theorem dX9_init_18 : decode cX9_init 18 = .ok (.aload_n 0, 1) := by decide +kernel
theorem dX9_init_19 : decode cX9_init 19 = .ok (.sipush 320, 3) := by decide +kernel
theorem dX9_init_22 : decode cX9_init 22 = .ok (.newarray .int, 2) := by decide +kernel
theorem dX9_init_24 : decode cX9_init 24 = .ok (.putfield 16, 3) := by decide +kernel
theorem dX9_init_27 : decode cX9_init 27 = .ok (.aload_n 0, 1) := by decide +kernel
theorem dX9_init_28 : decode cX9_init 28 = .ok (.bipush 16, 2) := by decide +kernel
theorem dX9_init_30 : decode cX9_init 30 = .ok (.newarray .int, 2) := by decide +kernel
theorem dX9_init_32 : decode cX9_init 32 = .ok (.putfield 19, 3) := by decide +kernel
theorem dX9_init_35 : decode cX9_init 35 = .ok (.aload_n 0, 1) := by decide +kernel
theorem dX9_init_36 : decode cX9_init 36 = .ok (.bipush 40, 2) := by decide +kernel
theorem dX9_init_38 : decode cX9_init 38 = .ok (.newarray .int, 2) := by decide +kernel
theorem dX9_init_40 : decode cX9_init 40 = .ok (.putfield 22, 3) := by decide +kernel
theorem dX9_init_43 : decode cX9_init 43 = .ok (.aload_n 0, 1) := by decide +kernel
theorem dX9_init_44 : decode cX9_init 44 = .ok (.bipush 120, 2) := by decide +kernel
theorem dX9_init_46 : decode cX9_init 46 = .ok (.newarray .int, 2) := by decide +kernel
theorem dX9_init_48 : decode cX9_init 48 = .ok (.putfield 25, 3) := by decide +kernel
theorem dX9_init_51 : decode cX9_init 51 = .ok (.aload_n 0, 1) := by decide +kernel
theorem dX9_init_52 : decode cX9_init 52 = .ok (.bipush 120, 2) := by decide +kernel
theorem dX9_init_54 : decode cX9_init 54 = .ok (.newarray .int, 2) := by decide +kernel
theorem dX9_init_56 : decode cX9_init 56 = .ok (.putfield 28, 3) := by decide +kernel
theorem dX9_init_59 : decode cX9_init 59 = .ok (.aload_n 0, 1) := by decide +kernel
theorem dX9_init_60 : decode cX9_init 60 = .ok (.bipush 120, 2) := by decide +kernel
theorem dX9_init_62 : decode cX9_init 62 = .ok (.newarray .int, 2) := by decide +kernel
theorem dX9_init_64 : decode cX9_init 64 = .ok (.putfield 31, 3) := by decide +kernel
theorem dX9_init_67 : decode cX9_init 67 = .ok (.aload_n 0, 1) := by decide +kernel
theorem dX9_init_68 : decode cX9_init 68 = .ok (.bipush 120, 2) := by decide +kernel
theorem dX9_init_70 : decode cX9_init 70 = .ok (.newarray .int, 2) := by decide +kernel
theorem dX9_init_72 : decode cX9_init 72 = .ok (.putfield 34, 3) := by decide +kernel
theorem dX9_init_75 : decode cX9_init 75 = .ok (.aload_n 0, 1) := by decide +kernel
theorem dX9_init_76 : decode cX9_init 76 = .ok (.bipush 120, 2) := by decide +kernel
theorem dX9_init_78 : decode cX9_init 78 = .ok (.newarray .int, 2) := by decide +kernel
theorem dX9_init_80 : decode cX9_init 80 = .ok (.putfield 37, 3) := by decide +kernel
theorem dX9_init_83 : decode cX9_init 83 = .ok (.aload_n 0, 1) := by decide +kernel
theorem dX9_init_84 : decode cX9_init 84 = .ok (.bipush 8, 2) := by decide +kernel
theorem dX9_init_86 : decode cX9_init 86 = .ok (.newarray .int, 2) := by decide +kernel
theorem dX9_init_88 : decode cX9_init 88 = .ok (.putfield 40, 3) := by decide +kernel
theorem dX9_init_91 : decode cX9_init 91 = .ok (.aload_n 0, 1) := by decide +kernel
theorem dX9_init_92 : decode cX9_init 92 = .ok (.bipush 8, 2) := by decide +kernel
theorem dX9_init_94 : decode cX9_init 94 = .ok (.newarray .boolean, 2) := by decide +kernel
theorem dX9_init_96 : decode cX9_init 96 = .ok (.putfield 43, 3) := by decide +kernel
theorem dX9_init_99 : decode cX9_init 99 = .ok (.aload_n 0, 1) := by decide +kernel
theorem dX9_init_100 : decode cX9_init 100 = .ok (.sipush 6561, 3) := by decide +kernel
theorem dX9_init_103 : decode cX9_init 103 = .ok (.newarray .int, 2) := by decide +kernel
theorem dX9_init_105 : decode cX9_init 105 = .ok (.putfield 47, 3) := by decide +kernel
theorem dX9_init_108 : decode cX9_init 108 = .ok (.aload_n 0, 1) := by decide +kernel
theorem dX9_init_109 : decode cX9_init 109 = .ok (.sipush 6561, 3) := by decide +kernel
theorem dX9_init_112 : decode cX9_init 112 = .ok (.newarray .int, 2) := by decide +kernel
theorem dX9_init_114 : decode cX9_init 114 = .ok (.putfield 50, 3) := by decide +kernel
theorem dX9_init_117 : decode cX9_init 117 = .ok (.aload_n 0, 1) := by decide +kernel
theorem dX9_init_118 : decode cX9_init 118 = .ok (.sipush 6561, 3) := by decide +kernel
theorem dX9_init_121 : decode cX9_init 121 = .ok (.newarray .int, 2) := by decide +kernel
theorem dX9_init_123 : decode cX9_init 123 = .ok (.putfield 53, 3) := by decide +kernel
theorem dX9_init_126 : decode cX9_init 126 = .ok (.aload_n 0, 1) := by decide +kernel
theorem dX9_init_127 : decode cX9_init 127 = .ok (.sipush 6561, 3) := by decide +kernel
theorem dX9_init_130 : decode cX9_init 130 = .ok (.newarray .int, 2) := by decide +kernel
theorem dX9_init_132 : decode cX9_init 132 = .ok (.putfield 56, 3) := by decide +kernel
theorem dX9_init_135 : decode cX9_init 135 = .ok (.aload_n 0, 1) := by decide +kernel
theorem dX9_init_136 : decode cX9_init 136 = .ok (.sipush 902, 3) := by decide +kernel
theorem dX9_init_139 : decode cX9_init 139 = .ok (.newarray .int, 2) := by decide +kernel
theorem dX9_init_141 : decode cX9_init 141 = .ok (.putfield 59, 3) := by decide +kernel
theorem dX9_init_144 : decode cX9_init 144 = .ok (.aload_n 0, 1) := by decide +kernel
theorem dX9_init_145 : decode cX9_init 145 = .ok (.sipush 16384, 3) := by decide +kernel
theorem dX9_init_148 : decode cX9_init 148 = .ok (.newarray .int, 2) := by decide +kernel
theorem dX9_init_150 : decode cX9_init 150 = .ok (.putfield 62, 3) := by decide +kernel
theorem dX9_init_153 : decode cX9_init 153 = .ok (.aload_n 0, 1) := by decide +kernel
theorem dX9_init_154 : decode cX9_init 154 = .ok (.sipush 6561, 3) := by decide +kernel
theorem dX9_init_157 : decode cX9_init 157 = .ok (.newarray .int, 2) := by decide +kernel
theorem dX9_init_159 : decode cX9_init 159 = .ok (.putfield 65, 3) := by decide +kernel
theorem dX9_init_162 : decode cX9_init 162 = .ok (.aload_n 0, 1) := by decide +kernel
theorem dX9_init_163 : decode cX9_init 163 = .ok (.sipush 6561, 3) := by decide +kernel
theorem dX9_init_166 : decode cX9_init 166 = .ok (.newarray .boolean, 2) := by decide +kernel
theorem dX9_init_168 : decode cX9_init 168 = .ok (.putfield 68, 3) := by decide +kernel
theorem dX9_init_171 : decode cX9_init 171 = .ok (.aload_n 0, 1) := by decide +kernel
theorem dX9_init_172 : decode cX9_init 172 = .ok (.bipush 8, 2) := by decide +kernel
theorem dX9_init_174 : decode cX9_init 174 = .ok (.newarray .int, 2) := by decide +kernel
theorem dX9_init_176 : decode cX9_init 176 = .ok (.putfield 71, 3) := by decide +kernel
theorem dX9_init_179 : decode cX9_init 179 = .ok (.aload_n 0, 1) := by decide +kernel
theorem dX9_init_180 : decode cX9_init 180 = .ok (.bipush 8, 2) := by decide +kernel
theorem dX9_init_182 : decode cX9_init 182 = .ok (.newarray .int, 2) := by decide +kernel
theorem dX9_init_184 : decode cX9_init 184 = .ok (.putfield 74, 3) := by decide +kernel
theorem dX9_init_187 : decode cX9_init 187 = .ok (.aload_n 0, 1) := by decide +kernel
theorem dX9_init_188 : decode cX9_init 188 = .ok (.bipush 8, 2) := by decide +kernel
theorem dX9_init_190 : decode cX9_init 190 = .ok (.newarray .int, 2) := by decide +kernel
theorem dX9_init_192 : decode cX9_init 192 = .ok (.putfield 77, 3) := by decide +kernel
theorem dX9_init_195 : decode cX9_init 195 = .ok (.aload_n 0, 1) := by decide +kernel
theorem dX9_init_196 : decode cX9_init 196 = .ok (.bipush 8, 2) := by decide +kernel
theorem dX9_init_198 : decode cX9_init 198 = .ok (.newarray .int, 2) := by decide +kernel
theorem dX9_init_200 : decode cX9_init 200 = .ok (.putfield 80, 3) := by decide +kernel
theorem dX9_init_203 : decode cX9_init 203 = .ok (.aload_n 0, 1) := by decide +kernel
theorem dX9_init_204 : decode cX9_init 204 = .ok (.bipush 8, 2) := by decide +kernel
theorem dX9_init_206 : decode cX9_init 206 = .ok (.newarray .int, 2) := by decide +kernel
theorem dX9_init_208 : decode cX9_init 208 = .ok (.putfield 83, 3) := by decide +kernel
theorem dX9_init_211 : decode cX9_init 211 = .ok (.aload_n 0, 1) := by decide +kernel
theorem dX9_init_212 : decode cX9_init 212 = .ok (.sipush 6561, 3) := by decide +kernel
theorem dX9_init_215 : decode cX9_init 215 = .ok (.newarray .int, 2) := by decide +kernel
theorem dX9_init_217 : decode cX9_init 217 = .ok (.putfield 86, 3) := by decide +kernel
theorem dX9_init_220 : decode cX9_init 220 = .ok (.return_, 1) := by decide +kernel
theorem dX9_within_0 : decode cX9_within 0 = .ok (.iload_n 0, 1) := by decide +kernel
theorem dX9_within_1 : decode cX9_within 1 = .ok (.iload_n 1, 1) := by decide +kernel
theorem dX9_within_2 : decode cX9_within 2 = .ok (.if_icmp .lt 12, 3) := by decide +kernel
theorem dX9_within_5 : decode cX9_within 5 = .ok (.iload_n 0, 1) := by decide +kernel
theorem dX9_within_6 : decode cX9_within 6 = .ok (.iload_n 2, 1) := by decide +kernel
theorem dX9_within_7 : decode cX9_within 7 = .ok (.if_icmp .gt 7, 3) := by decide +kernel
theorem dX9_within_10 : decode cX9_within 10 = .ok (.iconst 1, 1) := by decide +kernel
theorem dX9_within_11 : decode cX9_within 11 = .ok (.goto 4, 3) := by decide +kernel
theorem dX9_within_14 : decode cX9_within 14 = .ok (.iconst 0, 1) := by decide +kernel
theorem dX9_within_15 : decode cX9_within 15 = .ok (.ireturn, 1) := by decide +kernel
theorem dX9_isTable_0 : decode cX9_isTable 0 = .ok (.iload_n 1, 1) := by decide +kernel
theorem dX9_isTable_1 : decode cX9_isTable 1 = .ok (.ifCond .lt 15, 3) := by decide +kernel
theorem dX9_isTable_4 : decode cX9_isTable 4 = .ok (.iload_n 1, 1) := by decide +kernel
theorem dX9_isTable_5 : decode cX9_isTable 5 = .ok (.aload_n 0, 1) := by decide +kernel
theorem dX9_isTable_6 : decode cX9_isTable 6 = .ok (.getfield 89, 3) := by decide +kernel
theorem dX9_isTable_9 : decode cX9_isTable 9 = .ok (.if_icmp .ge 7, 3) := by decide +kernel
theorem dX9_isTable_12 : decode cX9_isTable 12 = .ok (.iconst 1, 1) := by decide +kernel
theorem dX9_isTable_13 : decode cX9_isTable 13 = .ok (.goto 4, 3) := by decide +kernel
theorem dX9_isTable_16 : decode cX9_isTable 16 = .ok (.iconst 0, 1) := by decide +kernel
theorem dX9_isTable_17 : decode cX9_isTable 17 = .ok (.ireturn, 1) := by decide +kernel
theorem dX9_isColumn_0 : decode cX9_isColumn 0 = .ok (.aload_n 0, 1) := by decide +kernel
theorem dX9_isColumn_1 : decode cX9_isColumn 1 = .ok (.iload_n 1, 1) := by decide +kernel
theorem dX9_isColumn_2 : decode cX9_isColumn 2 = .ok (.invokevirtual 93, 3) := by decide +kernel
theorem dX9_isColumn_5 : decode cX9_isColumn 5 = .ok (.ifCond .eq 21, 3) := by decide +kernel
theorem dX9_isColumn_8 : decode cX9_isColumn 8 = .ok (.iload_n 2, 1) := by decide +kernel
theorem dX9_isColumn_9 : decode cX9_isColumn 9 = .ok (.ifCond .lt 17, 3) := by decide +kernel
theorem dX9_isColumn_12 : decode cX9_isColumn 12 = .ok (.iload_n 2, 1) := by decide +kernel
theorem dX9_isColumn_13 : decode cX9_isColumn 13 = .ok (.aload_n 0, 1) := by decide +kernel
theorem dX9_isColumn_14 : decode cX9_isColumn 14 = .ok (.getfield 9, 3) := by decide +kernel
theorem dX9_isColumn_17 : decode cX9_isColumn 17 = .ok (.iload_n 1, 1) := by decide +kernel
theorem dX9_isColumn_18 : decode cX9_isColumn 18 = .ok (.iaload, 1) := by decide +kernel
theorem dX9_isColumn_19 : decode cX9_isColumn 19 = .ok (.if_icmp .ge 7, 3) := by decide +kernel
theorem dX9_isColumn_22 : decode cX9_isColumn 22 = .ok (.iconst 1, 1) := by decide +kernel
theorem dX9_isColumn_23 : decode cX9_isColumn 23 = .ok (.goto 4, 3) := by decide +kernel
theorem dX9_isColumn_26 : decode cX9_isColumn 26 = .ok (.iconst 0, 1) := by decide +kernel
theorem dX9_isColumn_27 : decode cX9_isColumn 27 = .ok (.ireturn, 1) := by decide +kernel
theorem dX9_isCell_0 : decode cX9_isCell 0 = .ok (.aload_n 0, 1) := by decide +kernel
theorem dX9_isCell_1 : decode cX9_isCell 1 = .ok (.iload_n 1, 1) := by decide +kernel
theorem dX9_isCell_2 : decode cX9_isCell 2 = .ok (.iload_n 3, 1) := by decide +kernel
theorem dX9_isCell_3 : decode cX9_isCell 3 = .ok (.invokevirtual 97, 3) := by decide +kernel
theorem dX9_isCell_6 : decode cX9_isCell 6 = .ok (.ifCond .eq 21, 3) := by decide +kernel
theorem dX9_isCell_9 : decode cX9_isCell 9 = .ok (.iload_n 2, 1) := by decide +kernel
theorem dX9_isCell_10 : decode cX9_isCell 10 = .ok (.ifCond .lt 17, 3) := by decide +kernel
theorem dX9_isCell_13 : decode cX9_isCell 13 = .ok (.iload_n 2, 1) := by decide +kernel
theorem dX9_isCell_14 : decode cX9_isCell 14 = .ok (.aload_n 0, 1) := by decide +kernel
theorem dX9_isCell_15 : decode cX9_isCell 15 = .ok (.getfield 13, 3) := by decide +kernel
theorem dX9_isCell_18 : decode cX9_isCell 18 = .ok (.iload_n 1, 1) := by decide +kernel
theorem dX9_isCell_19 : decode cX9_isCell 19 = .ok (.iaload, 1) := by decide +kernel
theorem dX9_isCell_20 : decode cX9_isCell 20 = .ok (.if_icmp .ge 7, 3) := by decide +kernel
theorem dX9_isCell_23 : decode cX9_isCell 23 = .ok (.iconst 1, 1) := by decide +kernel
theorem dX9_isCell_24 : decode cX9_isCell 24 = .ok (.goto 4, 3) := by decide +kernel
theorem dX9_isCell_27 : decode cX9_isCell 27 = .ok (.iconst 0, 1) := by decide +kernel
theorem dX9_isCell_28 : decode cX9_isCell 28 = .ok (.ireturn, 1) := by decide +kernel
theorem dX9_table_0 : decode cX9_table 0 = .ok (.iload_n 1, 1) := by decide +kernel
theorem dX9_table_1 : decode cX9_table 1 = .ok (.iconst 1, 1) := by decide +kernel
theorem dX9_table_2 : decode cX9_table 2 = .ok (.iconst 4, 1) := by decide +kernel
theorem dX9_table_3 : decode cX9_table 3 = .ok (.invokestatic 101, 3) := by decide +kernel
theorem dX9_table_6 : decode cX9_table 6 = .ok (.ifCond .ne 5, 3) := by decide +kernel
theorem dX9_table_9 : decode cX9_table 9 = .ok (.iconst (-1), 1) := by decide +kernel
theorem dX9_table_10 : decode cX9_table 10 = .ok (.ireturn, 1) := by decide +kernel
theorem dX9_table_11 : decode cX9_table 11 = .ok (.aload_n 0, 1) := by decide +kernel
theorem dX9_table_12 : decode cX9_table 12 = .ok (.getfield 89, 3) := by decide +kernel
theorem dX9_table_15 : decode cX9_table 15 = .ok (.iconst 4, 1) := by decide +kernel
theorem dX9_table_16 : decode cX9_table 16 = .ok (.if_icmp .ne 6, 3) := by decide +kernel
theorem dX9_table_19 : decode cX9_table 19 = .ok (.bipush (-2), 2) := by decide +kernel
theorem dX9_table_21 : decode cX9_table 21 = .ok (.ireturn, 1) := by decide +kernel
theorem dX9_table_22 : decode cX9_table 22 = .ok (.aload_n 0, 1) := by decide +kernel
theorem dX9_table_23 : decode cX9_table 23 = .ok (.getfield 9, 3) := by decide +kernel
theorem dX9_table_26 : decode cX9_table 26 = .ok (.aload_n 0, 1) := by decide +kernel
theorem dX9_table_27 : decode cX9_table 27 = .ok (.getfield 89, 3) := by decide +kernel
theorem dX9_table_30 : decode cX9_table 30 = .ok (.iload_n 1, 1) := by decide +kernel
theorem dX9_table_31 : decode cX9_table 31 = .ok (.iastore, 1) := by decide +kernel
theorem dX9_table_32 : decode cX9_table 32 = .ok (.iconst 0, 1) := by decide +kernel
theorem dX9_table_33 : decode cX9_table 33 = .ok (.istore_n 2, 1) := by decide +kernel
theorem dX9_table_34 : decode cX9_table 34 = .ok (.iload_n 2, 1) := by decide +kernel
theorem dX9_table_35 : decode cX9_table 35 = .ok (.iconst 4, 1) := by decide +kernel
theorem dX9_table_36 : decode cX9_table 36 = .ok (.if_icmp .ge 23, 3) := by decide +kernel
theorem dX9_table_39 : decode cX9_table 39 = .ok (.aload_n 0, 1) := by decide +kernel
theorem dX9_table_40 : decode cX9_table 40 = .ok (.getfield 19, 3) := by decide +kernel
theorem dX9_table_43 : decode cX9_table 43 = .ok (.iconst 4, 1) := by decide +kernel
theorem dX9_table_44 : decode cX9_table 44 = .ok (.aload_n 0, 1) := by decide +kernel
theorem dX9_table_45 : decode cX9_table 45 = .ok (.getfield 89, 3) := by decide +kernel
theorem dX9_table_48 : decode cX9_table 48 = .ok (.imul, 1) := by decide +kernel
theorem dX9_table_49 : decode cX9_table 49 = .ok (.iload_n 2, 1) := by decide +kernel
theorem dX9_table_50 : decode cX9_table 50 = .ok (.iadd, 1) := by decide +kernel
theorem dX9_table_51 : decode cX9_table 51 = .ok (.iconst (-1), 1) := by decide +kernel
theorem dX9_table_52 : decode cX9_table 52 = .ok (.iastore, 1) := by decide +kernel
theorem dX9_table_53 : decode cX9_table 53 = .ok (.iinc 2 1, 3) := by decide +kernel
theorem dX9_table_56 : decode cX9_table 56 = .ok (.goto (-22), 3) := by decide +kernel
theorem dX9_table_59 : decode cX9_table 59 = .ok (.aload_n 0, 1) := by decide +kernel
theorem dX9_table_60 : decode cX9_table 60 = .ok (.dup, 1) := by decide +kernel
theorem dX9_table_61 : decode cX9_table 61 = .ok (.getfield 89, 3) := by decide +kernel
theorem dX9_table_64 : decode cX9_table 64 = .ok (.iconst 1, 1) := by decide +kernel
theorem dX9_table_65 : decode cX9_table 65 = .ok (.iadd, 1) := by decide +kernel
theorem dX9_table_66 : decode cX9_table 66 = .ok (.putfield 89, 3) := by decide +kernel
theorem dX9_table_69 : decode cX9_table 69 = .ok (.aload_n 0, 1) := by decide +kernel
theorem dX9_table_70 : decode cX9_table 70 = .ok (.getfield 89, 3) := by decide +kernel
theorem dX9_table_73 : decode cX9_table 73 = .ok (.iconst 1, 1) := by decide +kernel
theorem dX9_table_74 : decode cX9_table 74 = .ok (.isub, 1) := by decide +kernel
theorem dX9_table_75 : decode cX9_table 75 = .ok (.ireturn, 1) := by decide +kernel
theorem dX9_row_0 : decode cX9_row 0 = .ok (.aload_n 0, 1) := by decide +kernel
theorem dX9_row_1 : decode cX9_row 1 = .ok (.iload_n 1, 1) := by decide +kernel
theorem dX9_row_2 : decode cX9_row 2 = .ok (.invokevirtual 93, 3) := by decide +kernel
theorem dX9_row_5 : decode cX9_row 5 = .ok (.ifCond .ne 5, 3) := by decide +kernel
theorem dX9_row_8 : decode cX9_row 8 = .ok (.iconst (-1), 1) := by decide +kernel
theorem dX9_row_9 : decode cX9_row 9 = .ok (.ireturn, 1) := by decide +kernel
theorem dX9_row_10 : decode cX9_row 10 = .ok (.aload_n 0, 1) := by decide +kernel
theorem dX9_row_11 : decode cX9_row 11 = .ok (.getfield 13, 3) := by decide +kernel
theorem dX9_row_14 : decode cX9_row 14 = .ok (.iload_n 1, 1) := by decide +kernel
theorem dX9_row_15 : decode cX9_row 15 = .ok (.iaload, 1) := by decide +kernel
theorem dX9_row_16 : decode cX9_row 16 = .ok (.bipush 20, 2) := by decide +kernel
theorem dX9_row_18 : decode cX9_row 18 = .ok (.if_icmp .ne 6, 3) := by decide +kernel
theorem dX9_row_21 : decode cX9_row 21 = .ok (.bipush (-2), 2) := by decide +kernel
theorem dX9_row_23 : decode cX9_row 23 = .ok (.ireturn, 1) := by decide +kernel
theorem dX9_row_24 : decode cX9_row 24 = .ok (.iconst 0, 1) := by decide +kernel
theorem dX9_row_25 : decode cX9_row 25 = .ok (.istore_n 2, 1) := by decide +kernel
theorem dX9_row_26 : decode cX9_row 26 = .ok (.iload_n 2, 1) := by decide +kernel
theorem dX9_row_27 : decode cX9_row 27 = .ok (.iconst 4, 1) := by decide +kernel
theorem dX9_row_28 : decode cX9_row 28 = .ok (.if_icmp .ge 32, 3) := by decide +kernel
theorem dX9_row_31 : decode cX9_row 31 = .ok (.aload_n 0, 1) := by decide +kernel
theorem dX9_row_32 : decode cX9_row 32 = .ok (.getfield 16, 3) := by decide +kernel
theorem dX9_row_35 : decode cX9_row 35 = .ok (.bipush 20, 2) := by decide +kernel
theorem dX9_row_37 : decode cX9_row 37 = .ok (.iload_n 1, 1) := by decide +kernel
theorem dX9_row_38 : decode cX9_row 38 = .ok (.imul, 1) := by decide +kernel
theorem dX9_row_39 : decode cX9_row 39 = .ok (.aload_n 0, 1) := by decide +kernel
theorem dX9_row_40 : decode cX9_row 40 = .ok (.getfield 13, 3) := by decide +kernel
theorem dX9_row_43 : decode cX9_row 43 = .ok (.iload_n 1, 1) := by decide +kernel
theorem dX9_row_44 : decode cX9_row 44 = .ok (.iaload, 1) := by decide +kernel
theorem dX9_row_45 : decode cX9_row 45 = .ok (.iadd, 1) := by decide +kernel
theorem dX9_row_46 : decode cX9_row 46 = .ok (.iconst 4, 1) := by decide +kernel
theorem dX9_row_47 : decode cX9_row 47 = .ok (.imul, 1) := by decide +kernel
theorem dX9_row_48 : decode cX9_row 48 = .ok (.iload_n 2, 1) := by decide +kernel
theorem dX9_row_49 : decode cX9_row 49 = .ok (.iadd, 1) := by decide +kernel
theorem dX9_row_50 : decode cX9_row 50 = .ok (.sipush (-1000), 3) := by decide +kernel
theorem dX9_row_53 : decode cX9_row 53 = .ok (.iastore, 1) := by decide +kernel
theorem dX9_row_54 : decode cX9_row 54 = .ok (.iinc 2 1, 3) := by decide +kernel
theorem dX9_row_57 : decode cX9_row 57 = .ok (.goto (-31), 3) := by decide +kernel
theorem dX9_row_60 : decode cX9_row 60 = .ok (.aload_n 0, 1) := by decide +kernel
theorem dX9_row_61 : decode cX9_row 61 = .ok (.getfield 13, 3) := by decide +kernel
theorem dX9_row_64 : decode cX9_row 64 = .ok (.iload_n 1, 1) := by decide +kernel
theorem dX9_row_65 : decode cX9_row 65 = .ok (.dup2, 1) := by decide +kernel
theorem dX9_row_66 : decode cX9_row 66 = .ok (.iaload, 1) := by decide +kernel
theorem dX9_row_67 : decode cX9_row 67 = .ok (.iconst 1, 1) := by decide +kernel
theorem dX9_row_68 : decode cX9_row 68 = .ok (.iadd, 1) := by decide +kernel
theorem dX9_row_69 : decode cX9_row 69 = .ok (.iastore, 1) := by decide +kernel
theorem dX9_row_70 : decode cX9_row 70 = .ok (.aload_n 0, 1) := by decide +kernel
theorem dX9_row_71 : decode cX9_row 71 = .ok (.getfield 13, 3) := by decide +kernel
theorem dX9_row_74 : decode cX9_row 74 = .ok (.iload_n 1, 1) := by decide +kernel
theorem dX9_row_75 : decode cX9_row 75 = .ok (.iaload, 1) := by decide +kernel
theorem dX9_row_76 : decode cX9_row 76 = .ok (.iconst 1, 1) := by decide +kernel
theorem dX9_row_77 : decode cX9_row 77 = .ok (.isub, 1) := by decide +kernel
theorem dX9_row_78 : decode cX9_row 78 = .ok (.ireturn, 1) := by decide +kernel
theorem dX9_put_0 : decode cX9_put 0 = .ok (.aload_n 0, 1) := by decide +kernel
theorem dX9_put_1 : decode cX9_put 1 = .ok (.iload_n 1, 1) := by decide +kernel
theorem dX9_put_2 : decode cX9_put 2 = .ok (.iload_n 2, 1) := by decide +kernel
theorem dX9_put_3 : decode cX9_put 3 = .ok (.iload_n 3, 1) := by decide +kernel
theorem dX9_put_4 : decode cX9_put 4 = .ok (.invokevirtual 105, 3) := by decide +kernel
theorem dX9_put_7 : decode cX9_put 7 = .ok (.ifCond .eq 17, 3) := by decide +kernel
theorem dX9_put_10 : decode cX9_put 10 = .ok (.iload 4, 2) := by decide +kernel
theorem dX9_put_12 : decode cX9_put 12 = .ok (.sipush (-1000), 3) := by decide +kernel
theorem dX9_put_15 : decode cX9_put 15 = .ok (.sipush 999, 3) := by decide +kernel
theorem dX9_put_18 : decode cX9_put 18 = .ok (.invokestatic 101, 3) := by decide +kernel
theorem dX9_put_21 : decode cX9_put 21 = .ok (.ifCond .ne 5, 3) := by decide +kernel
theorem dX9_put_24 : decode cX9_put 24 = .ok (.iconst (-1), 1) := by decide +kernel
theorem dX9_put_25 : decode cX9_put 25 = .ok (.ireturn, 1) := by decide +kernel
theorem dX9_put_26 : decode cX9_put 26 = .ok (.aload_n 0, 1) := by decide +kernel
theorem dX9_put_27 : decode cX9_put 27 = .ok (.getfield 16, 3) := by decide +kernel
theorem dX9_put_30 : decode cX9_put 30 = .ok (.bipush 20, 2) := by decide +kernel
theorem dX9_put_32 : decode cX9_put 32 = .ok (.iload_n 1, 1) := by decide +kernel
theorem dX9_put_33 : decode cX9_put 33 = .ok (.imul, 1) := by decide +kernel
theorem dX9_put_34 : decode cX9_put 34 = .ok (.iload_n 2, 1) := by decide +kernel
theorem dX9_put_35 : decode cX9_put 35 = .ok (.iadd, 1) := by decide +kernel
theorem dX9_put_36 : decode cX9_put 36 = .ok (.iconst 4, 1) := by decide +kernel
theorem dX9_put_37 : decode cX9_put 37 = .ok (.imul, 1) := by decide +kernel
theorem dX9_put_38 : decode cX9_put 38 = .ok (.iload_n 3, 1) := by decide +kernel
theorem dX9_put_39 : decode cX9_put 39 = .ok (.iadd, 1) := by decide +kernel
theorem dX9_put_40 : decode cX9_put 40 = .ok (.iload 4, 2) := by decide +kernel
theorem dX9_put_42 : decode cX9_put 42 = .ok (.iastore, 1) := by decide +kernel
theorem dX9_put_43 : decode cX9_put 43 = .ok (.iconst 1, 1) := by decide +kernel
theorem dX9_put_44 : decode cX9_put 44 = .ok (.ireturn, 1) := by decide +kernel
theorem dX9_valueOf_0 : decode cX9_valueOf 0 = .ok (.aload_n 0, 1) := by decide +kernel
theorem dX9_valueOf_1 : decode cX9_valueOf 1 = .ok (.getfield 16, 3) := by decide +kernel
theorem dX9_valueOf_4 : decode cX9_valueOf 4 = .ok (.bipush 20, 2) := by decide +kernel
theorem dX9_valueOf_6 : decode cX9_valueOf 6 = .ok (.iload_n 1, 1) := by decide +kernel
theorem dX9_valueOf_7 : decode cX9_valueOf 7 = .ok (.imul, 1) := by decide +kernel
theorem dX9_valueOf_8 : decode cX9_valueOf 8 = .ok (.iload_n 2, 1) := by decide +kernel
theorem dX9_valueOf_9 : decode cX9_valueOf 9 = .ok (.iadd, 1) := by decide +kernel
theorem dX9_valueOf_10 : decode cX9_valueOf 10 = .ok (.iconst 4, 1) := by decide +kernel
theorem dX9_valueOf_11 : decode cX9_valueOf 11 = .ok (.imul, 1) := by decide +kernel
theorem dX9_valueOf_12 : decode cX9_valueOf 12 = .ok (.iload_n 3, 1) := by decide +kernel
theorem dX9_valueOf_13 : decode cX9_valueOf 13 = .ok (.iadd, 1) := by decide +kernel
theorem dX9_valueOf_14 : decode cX9_valueOf 14 = .ok (.iaload, 1) := by decide +kernel
theorem dX9_valueOf_15 : decode cX9_valueOf 15 = .ok (.ireturn, 1) := by decide +kernel
theorem dX9_value_0 : decode cX9_value 0 = .ok (.aload_n 0, 1) := by decide +kernel
theorem dX9_value_1 : decode cX9_value 1 = .ok (.iload_n 1, 1) := by decide +kernel
theorem dX9_value_2 : decode cX9_value 2 = .ok (.iload_n 2, 1) := by decide +kernel
theorem dX9_value_3 : decode cX9_value 3 = .ok (.iload_n 3, 1) := by decide +kernel
theorem dX9_value_4 : decode cX9_value 4 = .ok (.invokevirtual 105, 3) := by decide +kernel
theorem dX9_value_7 : decode cX9_value 7 = .ok (.ifCond .ne 6, 3) := by decide +kernel
theorem dX9_value_10 : decode cX9_value 10 = .ok (.ldc 108, 2) := by decide +kernel
theorem dX9_value_12 : decode cX9_value 12 = .ok (.ireturn, 1) := by decide +kernel
theorem dX9_value_13 : decode cX9_value 13 = .ok (.aload_n 0, 1) := by decide +kernel
theorem dX9_value_14 : decode cX9_value 14 = .ok (.iload_n 1, 1) := by decide +kernel
theorem dX9_value_15 : decode cX9_value 15 = .ok (.iload_n 2, 1) := by decide +kernel
theorem dX9_value_16 : decode cX9_value 16 = .ok (.iload_n 3, 1) := by decide +kernel
theorem dX9_value_17 : decode cX9_value 17 = .ok (.invokevirtual 109, 3) := by decide +kernel
theorem dX9_value_20 : decode cX9_value 20 = .ok (.istore 4, 2) := by decide +kernel
theorem dX9_value_22 : decode cX9_value 22 = .ok (.iload 4, 2) := by decide +kernel
theorem dX9_value_24 : decode cX9_value 24 = .ok (.sipush (-1000), 3) := by decide +kernel
theorem dX9_value_27 : decode cX9_value 27 = .ok (.if_icmp .ne 8, 3) := by decide +kernel
theorem dX9_value_30 : decode cX9_value 30 = .ok (.ldc 113, 2) := by decide +kernel
theorem dX9_value_32 : decode cX9_value 32 = .ok (.goto 5, 3) := by decide +kernel
theorem dX9_value_35 : decode cX9_value 35 = .ok (.iload 4, 2) := by decide +kernel
theorem dX9_value_37 : decode cX9_value 37 = .ok (.ireturn, 1) := by decide +kernel
theorem dX9_link_0 : decode cX9_link 0 = .ok (.aload_n 0, 1) := by decide +kernel
theorem dX9_link_1 : decode cX9_link 1 = .ok (.iload_n 1, 1) := by decide +kernel
theorem dX9_link_2 : decode cX9_link 2 = .ok (.iload_n 2, 1) := by decide +kernel
theorem dX9_link_3 : decode cX9_link 3 = .ok (.invokevirtual 97, 3) := by decide +kernel
theorem dX9_link_6 : decode cX9_link 6 = .ok (.ifCond .eq 21, 3) := by decide +kernel
theorem dX9_link_9 : decode cX9_link 9 = .ok (.iload_n 3, 1) := by decide +kernel
theorem dX9_link_10 : decode cX9_link 10 = .ok (.iconst (-1), 1) := by decide +kernel
theorem dX9_link_11 : decode cX9_link 11 = .ok (.if_icmp .eq 11, 3) := by decide +kernel
theorem dX9_link_14 : decode cX9_link 14 = .ok (.aload_n 0, 1) := by decide +kernel
theorem dX9_link_15 : decode cX9_link 15 = .ok (.iload_n 3, 1) := by decide +kernel
theorem dX9_link_16 : decode cX9_link 16 = .ok (.invokevirtual 93, 3) := by decide +kernel
theorem dX9_link_19 : decode cX9_link 19 = .ok (.ifCond .eq 8, 3) := by decide +kernel
theorem dX9_link_22 : decode cX9_link 22 = .ok (.iload_n 3, 1) := by decide +kernel
theorem dX9_link_23 : decode cX9_link 23 = .ok (.iload_n 1, 1) := by decide +kernel
theorem dX9_link_24 : decode cX9_link 24 = .ok (.if_icmp .ne 6, 3) := by decide +kernel
theorem dX9_link_27 : decode cX9_link 27 = .ok (.bipush (-9), 2) := by decide +kernel
theorem dX9_link_29 : decode cX9_link 29 = .ok (.ireturn, 1) := by decide +kernel
theorem dX9_link_30 : decode cX9_link 30 = .ok (.aload_n 0, 1) := by decide +kernel
theorem dX9_link_31 : decode cX9_link 31 = .ok (.getfield 19, 3) := by decide +kernel
theorem dX9_link_34 : decode cX9_link 34 = .ok (.iconst 4, 1) := by decide +kernel
theorem dX9_link_35 : decode cX9_link 35 = .ok (.iload_n 1, 1) := by decide +kernel
theorem dX9_link_36 : decode cX9_link 36 = .ok (.imul, 1) := by decide +kernel
theorem dX9_link_37 : decode cX9_link 37 = .ok (.iload_n 2, 1) := by decide +kernel
theorem dX9_link_38 : decode cX9_link 38 = .ok (.iadd, 1) := by decide +kernel
theorem dX9_link_39 : decode cX9_link 39 = .ok (.iaload, 1) := by decide +kernel
theorem dX9_link_40 : decode cX9_link 40 = .ok (.istore 4, 2) := by decide +kernel
theorem dX9_link_42 : decode cX9_link 42 = .ok (.aload_n 0, 1) := by decide +kernel
theorem dX9_link_43 : decode cX9_link 43 = .ok (.getfield 19, 3) := by decide +kernel
theorem dX9_link_46 : decode cX9_link 46 = .ok (.iconst 4, 1) := by decide +kernel
theorem dX9_link_47 : decode cX9_link 47 = .ok (.iload_n 1, 1) := by decide +kernel
theorem dX9_link_48 : decode cX9_link 48 = .ok (.imul, 1) := by decide +kernel
theorem dX9_link_49 : decode cX9_link 49 = .ok (.iload_n 2, 1) := by decide +kernel
theorem dX9_link_50 : decode cX9_link 50 = .ok (.iadd, 1) := by decide +kernel
theorem dX9_link_51 : decode cX9_link 51 = .ok (.iload_n 3, 1) := by decide +kernel
theorem dX9_link_52 : decode cX9_link 52 = .ok (.iastore, 1) := by decide +kernel
theorem dX9_link_53 : decode cX9_link 53 = .ok (.iload 4, 2) := by decide +kernel
theorem dX9_link_55 : decode cX9_link 55 = .ok (.ireturn, 1) := by decide +kernel
theorem dX9_isWord_0 : decode cX9_isWord 0 = .ok (.iload_n 0, 1) := by decide +kernel
theorem dX9_isWord_1 : decode cX9_isWord 1 = .ok (.ifCond .lt 13, 3) := by decide +kernel
theorem dX9_isWord_4 : decode cX9_isWord 4 = .ok (.iload_n 0, 1) := by decide +kernel
theorem dX9_isWord_5 : decode cX9_isWord 5 = .ok (.bipush 40, 2) := by decide +kernel
theorem dX9_isWord_7 : decode cX9_isWord 7 = .ok (.if_icmp .ge 7, 3) := by decide +kernel
theorem dX9_isWord_10 : decode cX9_isWord 10 = .ok (.iconst 1, 1) := by decide +kernel
theorem dX9_isWord_11 : decode cX9_isWord 11 = .ok (.goto 4, 3) := by decide +kernel
theorem dX9_isWord_14 : decode cX9_isWord 14 = .ok (.iconst 0, 1) := by decide +kernel
theorem dX9_isWord_15 : decode cX9_isWord 15 = .ok (.ireturn, 1) := by decide +kernel
theorem dX9_mayMean_0 : decode cX9_mayMean 0 = .ok (.iload_n 1, 1) := by decide +kernel
theorem dX9_mayMean_1 : decode cX9_mayMean 1 = .ok (.tableswitch 178 0 5 #[39, 62, 82, 106, 135, 159], 39) := by decide +kernel
theorem dX9_mayMean_40 : decode cX9_mayMean 40 = .ok (.aload_n 0, 1) := by decide +kernel
theorem dX9_mayMean_41 : decode cX9_mayMean 41 = .ok (.iload_n 2, 1) := by decide +kernel
theorem dX9_mayMean_42 : decode cX9_mayMean 42 = .ok (.invokevirtual 93, 3) := by decide +kernel
theorem dX9_mayMean_45 : decode cX9_mayMean 45 = .ok (.ifCond .eq 16, 3) := by decide +kernel
theorem dX9_mayMean_48 : decode cX9_mayMean 48 = .ok (.iload_n 3, 1) := by decide +kernel
theorem dX9_mayMean_49 : decode cX9_mayMean 49 = .ok (.ifCond .ne 12, 3) := by decide +kernel
theorem dX9_mayMean_52 : decode cX9_mayMean 52 = .ok (.iload 4, 2) := by decide +kernel
theorem dX9_mayMean_54 : decode cX9_mayMean 54 = .ok (.ifCond .ne 7, 3) := by decide +kernel
theorem dX9_mayMean_57 : decode cX9_mayMean 57 = .ok (.iconst 1, 1) := by decide +kernel
theorem dX9_mayMean_58 : decode cX9_mayMean 58 = .ok (.goto 4, 3) := by decide +kernel
theorem dX9_mayMean_61 : decode cX9_mayMean 61 = .ok (.iconst 0, 1) := by decide +kernel
theorem dX9_mayMean_62 : decode cX9_mayMean 62 = .ok (.ireturn, 1) := by decide +kernel
theorem dX9_mayMean_63 : decode cX9_mayMean 63 = .ok (.aload_n 0, 1) := by decide +kernel
theorem dX9_mayMean_64 : decode cX9_mayMean 64 = .ok (.iload_n 2, 1) := by decide +kernel
theorem dX9_mayMean_65 : decode cX9_mayMean 65 = .ok (.iload_n 3, 1) := by decide +kernel
theorem dX9_mayMean_66 : decode cX9_mayMean 66 = .ok (.invokevirtual 97, 3) := by decide +kernel
theorem dX9_mayMean_69 : decode cX9_mayMean 69 = .ok (.ifCond .eq 12, 3) := by decide +kernel
theorem dX9_mayMean_72 : decode cX9_mayMean 72 = .ok (.iload 4, 2) := by decide +kernel
theorem dX9_mayMean_74 : decode cX9_mayMean 74 = .ok (.ifCond .ne 7, 3) := by decide +kernel
theorem dX9_mayMean_77 : decode cX9_mayMean 77 = .ok (.iconst 1, 1) := by decide +kernel
theorem dX9_mayMean_78 : decode cX9_mayMean 78 = .ok (.goto 4, 3) := by decide +kernel
theorem dX9_mayMean_81 : decode cX9_mayMean 81 = .ok (.iconst 0, 1) := by decide +kernel
theorem dX9_mayMean_82 : decode cX9_mayMean 82 = .ok (.ireturn, 1) := by decide +kernel
theorem dX9_mayMean_83 : decode cX9_mayMean 83 = .ok (.iload_n 2, 1) := by decide +kernel
theorem dX9_mayMean_84 : decode cX9_mayMean 84 = .ok (.iconst 0, 1) := by decide +kernel
theorem dX9_mayMean_85 : decode cX9_mayMean 85 = .ok (.iconst 3, 1) := by decide +kernel
theorem dX9_mayMean_86 : decode cX9_mayMean 86 = .ok (.invokestatic 101, 3) := by decide +kernel
theorem dX9_mayMean_89 : decode cX9_mayMean 89 = .ok (.ifCond .eq 16, 3) := by decide +kernel
theorem dX9_mayMean_92 : decode cX9_mayMean 92 = .ok (.iload_n 3, 1) := by decide +kernel
theorem dX9_mayMean_93 : decode cX9_mayMean 93 = .ok (.ifCond .ne 12, 3) := by decide +kernel
theorem dX9_mayMean_96 : decode cX9_mayMean 96 = .ok (.iload 4, 2) := by decide +kernel
theorem dX9_mayMean_98 : decode cX9_mayMean 98 = .ok (.ifCond .ne 7, 3) := by decide +kernel
theorem dX9_mayMean_101 : decode cX9_mayMean 101 = .ok (.iconst 1, 1) := by decide +kernel
theorem dX9_mayMean_102 : decode cX9_mayMean 102 = .ok (.goto 4, 3) := by decide +kernel
theorem dX9_mayMean_105 : decode cX9_mayMean 105 = .ok (.iconst 0, 1) := by decide +kernel
theorem dX9_mayMean_106 : decode cX9_mayMean 106 = .ok (.ireturn, 1) := by decide +kernel
theorem dX9_mayMean_107 : decode cX9_mayMean 107 = .ok (.aload_n 0, 1) := by decide +kernel
theorem dX9_mayMean_108 : decode cX9_mayMean 108 = .ok (.iload_n 2, 1) := by decide +kernel
theorem dX9_mayMean_109 : decode cX9_mayMean 109 = .ok (.iload_n 3, 1) := by decide +kernel
theorem dX9_mayMean_110 : decode cX9_mayMean 110 = .ok (.invokevirtual 97, 3) := by decide +kernel
theorem dX9_mayMean_113 : decode cX9_mayMean 113 = .ok (.ifCond .eq 21, 3) := by decide +kernel
theorem dX9_mayMean_116 : decode cX9_mayMean 116 = .ok (.iload 4, 2) := by decide +kernel
theorem dX9_mayMean_118 : decode cX9_mayMean 118 = .ok (.sipush (-999), 3) := by decide +kernel
theorem dX9_mayMean_121 : decode cX9_mayMean 121 = .ok (.sipush 999, 3) := by decide +kernel
theorem dX9_mayMean_124 : decode cX9_mayMean 124 = .ok (.invokestatic 101, 3) := by decide +kernel
theorem dX9_mayMean_127 : decode cX9_mayMean 127 = .ok (.ifCond .eq 7, 3) := by decide +kernel
theorem dX9_mayMean_130 : decode cX9_mayMean 130 = .ok (.iconst 1, 1) := by decide +kernel
theorem dX9_mayMean_131 : decode cX9_mayMean 131 = .ok (.goto 4, 3) := by decide +kernel
theorem dX9_mayMean_134 : decode cX9_mayMean 134 = .ok (.iconst 0, 1) := by decide +kernel
theorem dX9_mayMean_135 : decode cX9_mayMean 135 = .ok (.ireturn, 1) := by decide +kernel
theorem dX9_mayMean_136 : decode cX9_mayMean 136 = .ok (.iload_n 2, 1) := by decide +kernel
theorem dX9_mayMean_137 : decode cX9_mayMean 137 = .ok (.iconst 0, 1) := by decide +kernel
theorem dX9_mayMean_138 : decode cX9_mayMean 138 = .ok (.iconst 2, 1) := by decide +kernel
theorem dX9_mayMean_139 : decode cX9_mayMean 139 = .ok (.invokestatic 101, 3) := by decide +kernel
theorem dX9_mayMean_142 : decode cX9_mayMean 142 = .ok (.ifCond .eq 16, 3) := by decide +kernel
theorem dX9_mayMean_145 : decode cX9_mayMean 145 = .ok (.iload_n 3, 1) := by decide +kernel
theorem dX9_mayMean_146 : decode cX9_mayMean 146 = .ok (.ifCond .ne 12, 3) := by decide +kernel
theorem dX9_mayMean_149 : decode cX9_mayMean 149 = .ok (.iload 4, 2) := by decide +kernel
theorem dX9_mayMean_151 : decode cX9_mayMean 151 = .ok (.ifCond .ne 7, 3) := by decide +kernel
theorem dX9_mayMean_154 : decode cX9_mayMean 154 = .ok (.iconst 1, 1) := by decide +kernel
theorem dX9_mayMean_155 : decode cX9_mayMean 155 = .ok (.goto 4, 3) := by decide +kernel
theorem dX9_mayMean_158 : decode cX9_mayMean 158 = .ok (.iconst 0, 1) := by decide +kernel
theorem dX9_mayMean_159 : decode cX9_mayMean 159 = .ok (.ireturn, 1) := by decide +kernel
theorem dX9_mayMean_160 : decode cX9_mayMean 160 = .ok (.iload_n 2, 1) := by decide +kernel
theorem dX9_mayMean_161 : decode cX9_mayMean 161 = .ok (.ifCond .ne 16, 3) := by decide +kernel
theorem dX9_mayMean_164 : decode cX9_mayMean 164 = .ok (.iload_n 3, 1) := by decide +kernel
theorem dX9_mayMean_165 : decode cX9_mayMean 165 = .ok (.ifCond .ne 12, 3) := by decide +kernel
theorem dX9_mayMean_168 : decode cX9_mayMean 168 = .ok (.iload 4, 2) := by decide +kernel
theorem dX9_mayMean_170 : decode cX9_mayMean 170 = .ok (.ifCond .ne 7, 3) := by decide +kernel
theorem dX9_mayMean_173 : decode cX9_mayMean 173 = .ok (.iconst 1, 1) := by decide +kernel
theorem dX9_mayMean_174 : decode cX9_mayMean 174 = .ok (.goto 4, 3) := by decide +kernel
theorem dX9_mayMean_177 : decode cX9_mayMean 177 = .ok (.iconst 0, 1) := by decide +kernel
theorem dX9_mayMean_178 : decode cX9_mayMean 178 = .ok (.ireturn, 1) := by decide +kernel
theorem dX9_mayMean_179 : decode cX9_mayMean 179 = .ok (.iconst 0, 1) := by decide +kernel
theorem dX9_mayMean_180 : decode cX9_mayMean 180 = .ok (.ireturn, 1) := by decide +kernel
theorem dX9_mean_0 : decode cX9_mean 0 = .ok (.iload_n 1, 1) := by decide +kernel
theorem dX9_mean_1 : decode cX9_mean 1 = .ok (.invokestatic 114, 3) := by decide +kernel
theorem dX9_mean_4 : decode cX9_mean 4 = .ok (.ifCond .eq 36, 3) := by decide +kernel
theorem dX9_mean_7 : decode cX9_mean 7 = .ok (.iload_n 3, 1) := by decide +kernel
theorem dX9_mean_8 : decode cX9_mean 8 = .ok (.ifCond .lt 32, 3) := by decide +kernel
theorem dX9_mean_11 : decode cX9_mean 11 = .ok (.aload_n 0, 1) := by decide +kernel
theorem dX9_mean_12 : decode cX9_mean 12 = .ok (.iload_n 2, 1) := by decide +kernel
theorem dX9_mean_13 : decode cX9_mean 13 = .ok (.iload_n 3, 1) := by decide +kernel
theorem dX9_mean_14 : decode cX9_mean 14 = .ok (.bipush 100, 2) := by decide +kernel
theorem dX9_mean_16 : decode cX9_mean 16 = .ok (.idiv, 1) := by decide +kernel
theorem dX9_mean_17 : decode cX9_mean 17 = .ok (.iload_n 3, 1) := by decide +kernel
theorem dX9_mean_18 : decode cX9_mean 18 = .ok (.bipush 100, 2) := by decide +kernel
theorem dX9_mean_20 : decode cX9_mean 20 = .ok (.irem, 1) := by decide +kernel
theorem dX9_mean_21 : decode cX9_mean 21 = .ok (.iload 4, 2) := by decide +kernel
theorem dX9_mean_23 : decode cX9_mean 23 = .ok (.invokevirtual 117, 3) := by decide +kernel
theorem dX9_mean_26 : decode cX9_mean 26 = .ok (.ifCond .eq 14, 3) := by decide +kernel
theorem dX9_mean_29 : decode cX9_mean 29 = .ok (.iload 5, 2) := by decide +kernel
theorem dX9_mean_31 : decode cX9_mean 31 = .ok (.iconst 0, 1) := by decide +kernel
theorem dX9_mean_32 : decode cX9_mean 32 = .ok (.bipush 99, 2) := by decide +kernel
theorem dX9_mean_34 : decode cX9_mean 34 = .ok (.invokestatic 101, 3) := by decide +kernel
theorem dX9_mean_37 : decode cX9_mean 37 = .ok (.ifCond .ne 5, 3) := by decide +kernel
theorem dX9_mean_40 : decode cX9_mean 40 = .ok (.iconst (-1), 1) := by decide +kernel
theorem dX9_mean_41 : decode cX9_mean 41 = .ok (.ireturn, 1) := by decide +kernel
theorem dX9_mean_42 : decode cX9_mean 42 = .ok (.aload_n 0, 1) := by decide +kernel
theorem dX9_mean_43 : decode cX9_mean 43 = .ok (.getfield 22, 3) := by decide +kernel
theorem dX9_mean_46 : decode cX9_mean 46 = .ok (.iload_n 1, 1) := by decide +kernel
theorem dX9_mean_47 : decode cX9_mean 47 = .ok (.iaload, 1) := by decide +kernel
theorem dX9_mean_48 : decode cX9_mean 48 = .ok (.iconst 3, 1) := by decide +kernel
theorem dX9_mean_49 : decode cX9_mean 49 = .ok (.if_icmp .ne 6, 3) := by decide +kernel
theorem dX9_mean_52 : decode cX9_mean 52 = .ok (.bipush (-2), 2) := by decide +kernel
theorem dX9_mean_54 : decode cX9_mean 54 = .ok (.ireturn, 1) := by decide +kernel
theorem dX9_mean_55 : decode cX9_mean 55 = .ok (.iconst 3, 1) := by decide +kernel
theorem dX9_mean_56 : decode cX9_mean 56 = .ok (.iload_n 1, 1) := by decide +kernel
theorem dX9_mean_57 : decode cX9_mean 57 = .ok (.imul, 1) := by decide +kernel
theorem dX9_mean_58 : decode cX9_mean 58 = .ok (.aload_n 0, 1) := by decide +kernel
theorem dX9_mean_59 : decode cX9_mean 59 = .ok (.getfield 22, 3) := by decide +kernel
theorem dX9_mean_62 : decode cX9_mean 62 = .ok (.iload_n 1, 1) := by decide +kernel
theorem dX9_mean_63 : decode cX9_mean 63 = .ok (.iaload, 1) := by decide +kernel
theorem dX9_mean_64 : decode cX9_mean 64 = .ok (.iadd, 1) := by decide +kernel
theorem dX9_mean_65 : decode cX9_mean 65 = .ok (.istore 6, 2) := by decide +kernel
theorem dX9_mean_67 : decode cX9_mean 67 = .ok (.aload_n 0, 1) := by decide +kernel
theorem dX9_mean_68 : decode cX9_mean 68 = .ok (.getfield 25, 3) := by decide +kernel
theorem dX9_mean_71 : decode cX9_mean 71 = .ok (.iload 6, 2) := by decide +kernel
theorem dX9_mean_73 : decode cX9_mean 73 = .ok (.iload_n 2, 1) := by decide +kernel
theorem dX9_mean_74 : decode cX9_mean 74 = .ok (.iastore, 1) := by decide +kernel
theorem dX9_mean_75 : decode cX9_mean 75 = .ok (.aload_n 0, 1) := by decide +kernel
theorem dX9_mean_76 : decode cX9_mean 76 = .ok (.getfield 28, 3) := by decide +kernel
theorem dX9_mean_79 : decode cX9_mean 79 = .ok (.iload 6, 2) := by decide +kernel
theorem dX9_mean_81 : decode cX9_mean 81 = .ok (.iload_n 3, 1) := by decide +kernel
theorem dX9_mean_82 : decode cX9_mean 82 = .ok (.bipush 100, 2) := by decide +kernel
theorem dX9_mean_84 : decode cX9_mean 84 = .ok (.idiv, 1) := by decide +kernel
theorem dX9_mean_85 : decode cX9_mean 85 = .ok (.iastore, 1) := by decide +kernel
theorem dX9_mean_86 : decode cX9_mean 86 = .ok (.aload_n 0, 1) := by decide +kernel
theorem dX9_mean_87 : decode cX9_mean 87 = .ok (.getfield 31, 3) := by decide +kernel
theorem dX9_mean_90 : decode cX9_mean 90 = .ok (.iload 6, 2) := by decide +kernel
theorem dX9_mean_92 : decode cX9_mean 92 = .ok (.iload_n 3, 1) := by decide +kernel
theorem dX9_mean_93 : decode cX9_mean 93 = .ok (.bipush 100, 2) := by decide +kernel
theorem dX9_mean_95 : decode cX9_mean 95 = .ok (.irem, 1) := by decide +kernel
theorem dX9_mean_96 : decode cX9_mean 96 = .ok (.iastore, 1) := by decide +kernel
theorem dX9_mean_97 : decode cX9_mean 97 = .ok (.aload_n 0, 1) := by decide +kernel
theorem dX9_mean_98 : decode cX9_mean 98 = .ok (.getfield 34, 3) := by decide +kernel
theorem dX9_mean_101 : decode cX9_mean 101 = .ok (.iload 6, 2) := by decide +kernel
theorem dX9_mean_103 : decode cX9_mean 103 = .ok (.iload 4, 2) := by decide +kernel
theorem dX9_mean_105 : decode cX9_mean 105 = .ok (.iastore, 1) := by decide +kernel
theorem dX9_mean_106 : decode cX9_mean 106 = .ok (.aload_n 0, 1) := by decide +kernel
theorem dX9_mean_107 : decode cX9_mean 107 = .ok (.getfield 37, 3) := by decide +kernel
theorem dX9_mean_110 : decode cX9_mean 110 = .ok (.iload 6, 2) := by decide +kernel
theorem dX9_mean_112 : decode cX9_mean 112 = .ok (.iload 5, 2) := by decide +kernel
theorem dX9_mean_114 : decode cX9_mean 114 = .ok (.iastore, 1) := by decide +kernel
theorem dX9_mean_115 : decode cX9_mean 115 = .ok (.aload_n 0, 1) := by decide +kernel
theorem dX9_mean_116 : decode cX9_mean 116 = .ok (.getfield 22, 3) := by decide +kernel
theorem dX9_mean_119 : decode cX9_mean 119 = .ok (.iload_n 1, 1) := by decide +kernel
theorem dX9_mean_120 : decode cX9_mean 120 = .ok (.dup2, 1) := by decide +kernel
theorem dX9_mean_121 : decode cX9_mean 121 = .ok (.iaload, 1) := by decide +kernel
theorem dX9_mean_122 : decode cX9_mean 122 = .ok (.iconst 1, 1) := by decide +kernel
theorem dX9_mean_123 : decode cX9_mean 123 = .ok (.iadd, 1) := by decide +kernel
theorem dX9_mean_124 : decode cX9_mean 124 = .ok (.iastore, 1) := by decide +kernel
theorem dX9_mean_125 : decode cX9_mean 125 = .ok (.aload_n 0, 1) := by decide +kernel
theorem dX9_mean_126 : decode cX9_mean 126 = .ok (.getfield 22, 3) := by decide +kernel
theorem dX9_mean_129 : decode cX9_mean 129 = .ok (.iload_n 1, 1) := by decide +kernel
theorem dX9_mean_130 : decode cX9_mean 130 = .ok (.iaload, 1) := by decide +kernel
theorem dX9_mean_131 : decode cX9_mean 131 = .ok (.iconst 1, 1) := by decide +kernel
theorem dX9_mean_132 : decode cX9_mean 132 = .ok (.isub, 1) := by decide +kernel
theorem dX9_mean_133 : decode cX9_mean 133 = .ok (.ireturn, 1) := by decide +kernel
theorem dX9_cost_0 : decode cX9_cost 0 = .ok (.iload_n 1, 1) := by decide +kernel
theorem dX9_cost_1 : decode cX9_cost 1 = .ok (.invokestatic 114, 3) := by decide +kernel
theorem dX9_cost_4 : decode cX9_cost 4 = .ok (.ifCond .eq 30, 3) := by decide +kernel
theorem dX9_cost_7 : decode cX9_cost 7 = .ok (.iload_n 2, 1) := by decide +kernel
theorem dX9_cost_8 : decode cX9_cost 8 = .ok (.ifCond .lt 26, 3) := by decide +kernel
theorem dX9_cost_11 : decode cX9_cost 11 = .ok (.iload_n 2, 1) := by decide +kernel
theorem dX9_cost_12 : decode cX9_cost 12 = .ok (.aload_n 0, 1) := by decide +kernel
theorem dX9_cost_13 : decode cX9_cost 13 = .ok (.getfield 22, 3) := by decide +kernel
theorem dX9_cost_16 : decode cX9_cost 16 = .ok (.iload_n 1, 1) := by decide +kernel
theorem dX9_cost_17 : decode cX9_cost 17 = .ok (.iaload, 1) := by decide +kernel
theorem dX9_cost_18 : decode cX9_cost 18 = .ok (.if_icmp .ge 16, 3) := by decide +kernel
theorem dX9_cost_21 : decode cX9_cost 21 = .ok (.aload_n 0, 1) := by decide +kernel
theorem dX9_cost_22 : decode cX9_cost 22 = .ok (.getfield 37, 3) := by decide +kernel
theorem dX9_cost_25 : decode cX9_cost 25 = .ok (.iconst 3, 1) := by decide +kernel
theorem dX9_cost_26 : decode cX9_cost 26 = .ok (.iload_n 1, 1) := by decide +kernel
theorem dX9_cost_27 : decode cX9_cost 27 = .ok (.imul, 1) := by decide +kernel
theorem dX9_cost_28 : decode cX9_cost 28 = .ok (.iload_n 2, 1) := by decide +kernel
theorem dX9_cost_29 : decode cX9_cost 29 = .ok (.iadd, 1) := by decide +kernel
theorem dX9_cost_30 : decode cX9_cost 30 = .ok (.iaload, 1) := by decide +kernel
theorem dX9_cost_31 : decode cX9_cost 31 = .ok (.goto 4, 3) := by decide +kernel
theorem dX9_cost_34 : decode cX9_cost 34 = .ok (.iconst (-1), 1) := by decide +kernel
theorem dX9_cost_35 : decode cX9_cost 35 = .ok (.ireturn, 1) := by decide +kernel
theorem dX9_forget_0 : decode cX9_forget 0 = .ok (.iload_n 1, 1) := by decide +kernel
theorem dX9_forget_1 : decode cX9_forget 1 = .ok (.invokestatic 114, 3) := by decide +kernel
theorem dX9_forget_4 : decode cX9_forget 4 = .ok (.ifCond .ne 5, 3) := by decide +kernel
theorem dX9_forget_7 : decode cX9_forget 7 = .ok (.iconst (-1), 1) := by decide +kernel
theorem dX9_forget_8 : decode cX9_forget 8 = .ok (.ireturn, 1) := by decide +kernel
theorem dX9_forget_9 : decode cX9_forget 9 = .ok (.aload_n 0, 1) := by decide +kernel
theorem dX9_forget_10 : decode cX9_forget 10 = .ok (.getfield 22, 3) := by decide +kernel
theorem dX9_forget_13 : decode cX9_forget 13 = .ok (.iload_n 1, 1) := by decide +kernel
theorem dX9_forget_14 : decode cX9_forget 14 = .ok (.iaload, 1) := by decide +kernel
theorem dX9_forget_15 : decode cX9_forget 15 = .ok (.istore_n 2, 1) := by decide +kernel
theorem dX9_forget_16 : decode cX9_forget 16 = .ok (.aload_n 0, 1) := by decide +kernel
theorem dX9_forget_17 : decode cX9_forget 17 = .ok (.getfield 22, 3) := by decide +kernel
theorem dX9_forget_20 : decode cX9_forget 20 = .ok (.iload_n 1, 1) := by decide +kernel
theorem dX9_forget_21 : decode cX9_forget 21 = .ok (.iconst 0, 1) := by decide +kernel
theorem dX9_forget_22 : decode cX9_forget 22 = .ok (.iastore, 1) := by decide +kernel
theorem dX9_forget_23 : decode cX9_forget 23 = .ok (.iload_n 2, 1) := by decide +kernel
theorem dX9_forget_24 : decode cX9_forget 24 = .ok (.ireturn, 1) := by decide +kernel
theorem dX9_add_0 : decode cX9_add 0 = .ok (.aload_n 0, 1) := by decide +kernel
theorem dX9_add_1 : decode cX9_add 1 = .ok (.getfield 121, 3) := by decide +kernel
theorem dX9_add_4 : decode cX9_add 4 = .ok (.bipush 8, 2) := by decide +kernel
theorem dX9_add_6 : decode cX9_add 6 = .ok (.if_icmp .ne 6, 3) := by decide +kernel
theorem dX9_add_9 : decode cX9_add 9 = .ok (.bipush (-2), 2) := by decide +kernel
theorem dX9_add_11 : decode cX9_add 11 = .ok (.ireturn, 1) := by decide +kernel
theorem dX9_add_12 : decode cX9_add 12 = .ok (.aload_n 0, 1) := by decide +kernel
theorem dX9_add_13 : decode cX9_add 13 = .ok (.getfield 40, 3) := by decide +kernel
theorem dX9_add_16 : decode cX9_add 16 = .ok (.aload_n 0, 1) := by decide +kernel
theorem dX9_add_17 : decode cX9_add 17 = .ok (.getfield 121, 3) := by decide +kernel
theorem dX9_add_20 : decode cX9_add 20 = .ok (.iload_n 1, 1) := by decide +kernel
theorem dX9_add_21 : decode cX9_add 21 = .ok (.iastore, 1) := by decide +kernel
theorem dX9_add_22 : decode cX9_add 22 = .ok (.aload_n 0, 1) := by decide +kernel
theorem dX9_add_23 : decode cX9_add 23 = .ok (.getfield 43, 3) := by decide +kernel
theorem dX9_add_26 : decode cX9_add 26 = .ok (.aload_n 0, 1) := by decide +kernel
theorem dX9_add_27 : decode cX9_add 27 = .ok (.getfield 121, 3) := by decide +kernel
theorem dX9_add_30 : decode cX9_add 30 = .ok (.iload_n 2, 1) := by decide +kernel
theorem dX9_add_31 : decode cX9_add 31 = .ok (.bastore, 1) := by decide +kernel
theorem dX9_add_32 : decode cX9_add 32 = .ok (.aload_n 0, 1) := by decide +kernel
theorem dX9_add_33 : decode cX9_add 33 = .ok (.dup, 1) := by decide +kernel
theorem dX9_add_34 : decode cX9_add 34 = .ok (.getfield 121, 3) := by decide +kernel
theorem dX9_add_37 : decode cX9_add 37 = .ok (.iconst 1, 1) := by decide +kernel
theorem dX9_add_38 : decode cX9_add 38 = .ok (.iadd, 1) := by decide +kernel
theorem dX9_add_39 : decode cX9_add 39 = .ok (.putfield 121, 3) := by decide +kernel
theorem dX9_add_42 : decode cX9_add 42 = .ok (.aload_n 0, 1) := by decide +kernel
theorem dX9_add_43 : decode cX9_add 43 = .ok (.getfield 121, 3) := by decide +kernel
theorem dX9_add_46 : decode cX9_add 46 = .ok (.ireturn, 1) := by decide +kernel
theorem dX9_word_0 : decode cX9_word 0 = .ok (.iload_n 1, 1) := by decide +kernel
theorem dX9_word_1 : decode cX9_word 1 = .ok (.invokestatic 114, 3) := by decide +kernel
theorem dX9_word_4 : decode cX9_word 4 = .ok (.ifCond .eq 12, 3) := by decide +kernel
theorem dX9_word_7 : decode cX9_word 7 = .ok (.aload_n 0, 1) := by decide +kernel
theorem dX9_word_8 : decode cX9_word 8 = .ok (.iload_n 1, 1) := by decide +kernel
theorem dX9_word_9 : decode cX9_word 9 = .ok (.iconst 0, 1) := by decide +kernel
theorem dX9_word_10 : decode cX9_word 10 = .ok (.invokevirtual 124, 3) := by decide +kernel
theorem dX9_word_13 : decode cX9_word 13 = .ok (.goto 4, 3) := by decide +kernel
theorem dX9_word_16 : decode cX9_word 16 = .ok (.iconst (-1), 1) := by decide +kernel
theorem dX9_word_17 : decode cX9_word 17 = .ok (.ireturn, 1) := by decide +kernel
theorem dX9_number_0 : decode cX9_number 0 = .ok (.iload_n 1, 1) := by decide +kernel
theorem dX9_number_1 : decode cX9_number 1 = .ok (.sipush (-999), 3) := by decide +kernel
theorem dX9_number_4 : decode cX9_number 4 = .ok (.sipush 999, 3) := by decide +kernel
theorem dX9_number_7 : decode cX9_number 7 = .ok (.invokestatic 101, 3) := by decide +kernel
theorem dX9_number_10 : decode cX9_number 10 = .ok (.ifCond .eq 12, 3) := by decide +kernel
theorem dX9_number_13 : decode cX9_number 13 = .ok (.aload_n 0, 1) := by decide +kernel
theorem dX9_number_14 : decode cX9_number 14 = .ok (.iload_n 1, 1) := by decide +kernel
theorem dX9_number_15 : decode cX9_number 15 = .ok (.iconst 1, 1) := by decide +kernel
theorem dX9_number_16 : decode cX9_number 16 = .ok (.invokevirtual 124, 3) := by decide +kernel
theorem dX9_number_19 : decode cX9_number 19 = .ok (.goto 4, 3) := by decide +kernel
theorem dX9_number_22 : decode cX9_number 22 = .ok (.iconst (-1), 1) := by decide +kernel
theorem dX9_number_23 : decode cX9_number 23 = .ok (.ireturn, 1) := by decide +kernel
theorem dX9_clear_0 : decode cX9_clear 0 = .ok (.aload_n 0, 1) := by decide +kernel
theorem dX9_clear_1 : decode cX9_clear 1 = .ok (.getfield 121, 3) := by decide +kernel
theorem dX9_clear_4 : decode cX9_clear 4 = .ok (.istore_n 1, 1) := by decide +kernel
theorem dX9_clear_5 : decode cX9_clear 5 = .ok (.aload_n 0, 1) := by decide +kernel
theorem dX9_clear_6 : decode cX9_clear 6 = .ok (.iconst 0, 1) := by decide +kernel
theorem dX9_clear_7 : decode cX9_clear 7 = .ok (.putfield 121, 3) := by decide +kernel
theorem dX9_clear_10 : decode cX9_clear 10 = .ok (.iload_n 1, 1) := by decide +kernel
theorem dX9_clear_11 : decode cX9_clear 11 = .ok (.ireturn, 1) := by decide +kernel
theorem dX9_at_0 : decode cX9_at 0 = .ok (.iload_n 1, 1) := by decide +kernel
theorem dX9_at_1 : decode cX9_at 1 = .ok (.ifCond .lt 20, 3) := by decide +kernel
theorem dX9_at_4 : decode cX9_at 4 = .ok (.iload_n 1, 1) := by decide +kernel
theorem dX9_at_5 : decode cX9_at 5 = .ok (.aload_n 0, 1) := by decide +kernel
theorem dX9_at_6 : decode cX9_at 6 = .ok (.getfield 121, 3) := by decide +kernel
theorem dX9_at_9 : decode cX9_at 9 = .ok (.if_icmp .ge 12, 3) := by decide +kernel
theorem dX9_at_12 : decode cX9_at 12 = .ok (.aload_n 0, 1) := by decide +kernel
theorem dX9_at_13 : decode cX9_at 13 = .ok (.getfield 43, 3) := by decide +kernel
theorem dX9_at_16 : decode cX9_at 16 = .ok (.iload_n 1, 1) := by decide +kernel
theorem dX9_at_17 : decode cX9_at 17 = .ok (.baload, 1) := by decide +kernel
theorem dX9_at_18 : decode cX9_at 18 = .ok (.ifCond .eq 7, 3) := by decide +kernel
theorem dX9_at_21 : decode cX9_at 21 = .ok (.iconst (-1), 1) := by decide +kernel
theorem dX9_at_22 : decode cX9_at 22 = .ok (.goto 18, 3) := by decide +kernel
theorem dX9_at_25 : decode cX9_at 25 = .ok (.iconst 3, 1) := by decide +kernel
theorem dX9_at_26 : decode cX9_at 26 = .ok (.aload_n 0, 1) := by decide +kernel
theorem dX9_at_27 : decode cX9_at 27 = .ok (.getfield 40, 3) := by decide +kernel
theorem dX9_at_30 : decode cX9_at 30 = .ok (.iload_n 1, 1) := by decide +kernel
theorem dX9_at_31 : decode cX9_at 31 = .ok (.iaload, 1) := by decide +kernel
theorem dX9_at_32 : decode cX9_at 32 = .ok (.imul, 1) := by decide +kernel
theorem dX9_at_33 : decode cX9_at 33 = .ok (.aload_n 0, 1) := by decide +kernel
theorem dX9_at_34 : decode cX9_at 34 = .ok (.getfield 71, 3) := by decide +kernel
theorem dX9_at_37 : decode cX9_at 37 = .ok (.iload_n 1, 1) := by decide +kernel
theorem dX9_at_38 : decode cX9_at 38 = .ok (.iaload, 1) := by decide +kernel
theorem dX9_at_39 : decode cX9_at 39 = .ok (.iadd, 1) := by decide +kernel
theorem dX9_at_40 : decode cX9_at 40 = .ok (.ireturn, 1) := by decide +kernel
theorem dX9_is_0 : decode cX9_is 0 = .ok (.aload_n 0, 1) := by decide +kernel
theorem dX9_is_1 : decode cX9_is 1 = .ok (.iload_n 1, 1) := by decide +kernel
theorem dX9_is_2 : decode cX9_is 2 = .ok (.invokevirtual 128, 3) := by decide +kernel
theorem dX9_is_5 : decode cX9_is 5 = .ok (.istore_n 3, 1) := by decide +kernel
theorem dX9_is_6 : decode cX9_is 6 = .ok (.iload_n 3, 1) := by decide +kernel
theorem dX9_is_7 : decode cX9_is 7 = .ok (.ifCond .lt 17, 3) := by decide +kernel
theorem dX9_is_10 : decode cX9_is 10 = .ok (.aload_n 0, 1) := by decide +kernel
theorem dX9_is_11 : decode cX9_is 11 = .ok (.getfield 25, 3) := by decide +kernel
theorem dX9_is_14 : decode cX9_is 14 = .ok (.iload_n 3, 1) := by decide +kernel
theorem dX9_is_15 : decode cX9_is 15 = .ok (.iaload, 1) := by decide +kernel
theorem dX9_is_16 : decode cX9_is 16 = .ok (.iload_n 2, 1) := by decide +kernel
theorem dX9_is_17 : decode cX9_is 17 = .ok (.if_icmp .ne 7, 3) := by decide +kernel
theorem dX9_is_20 : decode cX9_is 20 = .ok (.iconst 1, 1) := by decide +kernel
theorem dX9_is_21 : decode cX9_is 21 = .ok (.goto 4, 3) := by decide +kernel
theorem dX9_is_24 : decode cX9_is 24 = .ok (.iconst 0, 1) := by decide +kernel
theorem dX9_is_25 : decode cX9_is 25 = .ok (.ireturn, 1) := by decide +kernel
theorem dX9_addTest_0 : decode cX9_addTest 0 = .ok (.aload_n 0, 1) := by decide +kernel
theorem dX9_addTest_1 : decode cX9_addTest 1 = .ok (.getfield 74, 3) := by decide +kernel
theorem dX9_addTest_4 : decode cX9_addTest 4 = .ok (.aload_n 0, 1) := by decide +kernel
theorem dX9_addTest_5 : decode cX9_addTest 5 = .ok (.getfield 132, 3) := by decide +kernel
theorem dX9_addTest_8 : decode cX9_addTest 8 = .ok (.iload_n 1, 1) := by decide +kernel
theorem dX9_addTest_9 : decode cX9_addTest 9 = .ok (.iastore, 1) := by decide +kernel
theorem dX9_addTest_10 : decode cX9_addTest 10 = .ok (.aload_n 0, 1) := by decide +kernel
theorem dX9_addTest_11 : decode cX9_addTest 11 = .ok (.getfield 77, 3) := by decide +kernel
theorem dX9_addTest_14 : decode cX9_addTest 14 = .ok (.aload_n 0, 1) := by decide +kernel
theorem dX9_addTest_15 : decode cX9_addTest 15 = .ok (.getfield 132, 3) := by decide +kernel
theorem dX9_addTest_18 : decode cX9_addTest 18 = .ok (.iload_n 2, 1) := by decide +kernel
theorem dX9_addTest_19 : decode cX9_addTest 19 = .ok (.iastore, 1) := by decide +kernel
theorem dX9_addTest_20 : decode cX9_addTest 20 = .ok (.aload_n 0, 1) := by decide +kernel
theorem dX9_addTest_21 : decode cX9_addTest 21 = .ok (.getfield 80, 3) := by decide +kernel
theorem dX9_addTest_24 : decode cX9_addTest 24 = .ok (.aload_n 0, 1) := by decide +kernel
theorem dX9_addTest_25 : decode cX9_addTest 25 = .ok (.getfield 132, 3) := by decide +kernel
theorem dX9_addTest_28 : decode cX9_addTest 28 = .ok (.iload_n 3, 1) := by decide +kernel
theorem dX9_addTest_29 : decode cX9_addTest 29 = .ok (.iastore, 1) := by decide +kernel
theorem dX9_addTest_30 : decode cX9_addTest 30 = .ok (.aload_n 0, 1) := by decide +kernel
theorem dX9_addTest_31 : decode cX9_addTest 31 = .ok (.getfield 83, 3) := by decide +kernel
theorem dX9_addTest_34 : decode cX9_addTest 34 = .ok (.aload_n 0, 1) := by decide +kernel
theorem dX9_addTest_35 : decode cX9_addTest 35 = .ok (.getfield 132, 3) := by decide +kernel
theorem dX9_addTest_38 : decode cX9_addTest 38 = .ok (.iload 4, 2) := by decide +kernel
theorem dX9_addTest_40 : decode cX9_addTest 40 = .ok (.iastore, 1) := by decide +kernel
theorem dX9_addTest_41 : decode cX9_addTest 41 = .ok (.aload_n 0, 1) := by decide +kernel
theorem dX9_addTest_42 : decode cX9_addTest 42 = .ok (.dup, 1) := by decide +kernel
theorem dX9_addTest_43 : decode cX9_addTest 43 = .ok (.getfield 132, 3) := by decide +kernel
theorem dX9_addTest_46 : decode cX9_addTest 46 = .ok (.iconst 1, 1) := by decide +kernel
theorem dX9_addTest_47 : decode cX9_addTest 47 = .ok (.iadd, 1) := by decide +kernel
theorem dX9_addTest_48 : decode cX9_addTest 48 = .ok (.putfield 132, 3) := by decide +kernel
theorem dX9_addTest_51 : decode cX9_addTest 51 = .ok (.return_, 1) := by decide +kernel
theorem dX9_reads_0 : decode cX9_reads 0 = .ok (.aload_n 0, 1) := by decide +kernel
theorem dX9_reads_1 : decode cX9_reads 1 = .ok (.iconst (-1), 1) := by decide +kernel
theorem dX9_reads_2 : decode cX9_reads 2 = .ok (.putfield 135, 3) := by decide +kernel
theorem dX9_reads_5 : decode cX9_reads 5 = .ok (.aload_n 0, 1) := by decide +kernel
theorem dX9_reads_6 : decode cX9_reads 6 = .ok (.iconst (-1), 1) := by decide +kernel
theorem dX9_reads_7 : decode cX9_reads 7 = .ok (.putfield 138, 3) := by decide +kernel
theorem dX9_reads_10 : decode cX9_reads 10 = .ok (.aload_n 0, 1) := by decide +kernel
theorem dX9_reads_11 : decode cX9_reads 11 = .ok (.iconst (-1), 1) := by decide +kernel
theorem dX9_reads_12 : decode cX9_reads 12 = .ok (.putfield 141, 3) := by decide +kernel
theorem dX9_reads_15 : decode cX9_reads 15 = .ok (.iconst (-1), 1) := by decide +kernel
theorem dX9_reads_16 : decode cX9_reads 16 = .ok (.istore_n 1, 1) := by decide +kernel
theorem dX9_reads_17 : decode cX9_reads 17 = .ok (.aload_n 0, 1) := by decide +kernel
theorem dX9_reads_18 : decode cX9_reads 18 = .ok (.iconst 0, 1) := by decide +kernel
theorem dX9_reads_19 : decode cX9_reads 19 = .ok (.putfield 144, 3) := by decide +kernel
theorem dX9_reads_22 : decode cX9_reads 22 = .ok (.aload_n 0, 1) := by decide +kernel
theorem dX9_reads_23 : decode cX9_reads 23 = .ok (.iconst 0, 1) := by decide +kernel
theorem dX9_reads_24 : decode cX9_reads 24 = .ok (.putfield 132, 3) := by decide +kernel
theorem dX9_reads_27 : decode cX9_reads 27 = .ok (.iconst 0, 1) := by decide +kernel
theorem dX9_reads_28 : decode cX9_reads 28 = .ok (.istore_n 2, 1) := by decide +kernel
theorem dX9_reads_29 : decode cX9_reads 29 = .ok (.iload_n 2, 1) := by decide +kernel
theorem dX9_reads_30 : decode cX9_reads 30 = .ok (.aload_n 0, 1) := by decide +kernel
theorem dX9_reads_31 : decode cX9_reads 31 = .ok (.getfield 121, 3) := by decide +kernel
theorem dX9_reads_34 : decode cX9_reads 34 = .ok (.if_icmp .ge 296, 3) := by decide +kernel
theorem dX9_reads_37 : decode cX9_reads 37 = .ok (.aload_n 0, 1) := by decide +kernel
theorem dX9_reads_38 : decode cX9_reads 38 = .ok (.getfield 43, 3) := by decide +kernel
theorem dX9_reads_41 : decode cX9_reads 41 = .ok (.iload_n 2, 1) := by decide +kernel
theorem dX9_reads_42 : decode cX9_reads 42 = .ok (.baload, 1) := by decide +kernel
theorem dX9_reads_43 : decode cX9_reads 43 = .ok (.ifCond .eq 16, 3) := by decide +kernel
theorem dX9_reads_46 : decode cX9_reads 46 = .ok (.aload_n 0, 1) := by decide +kernel
theorem dX9_reads_47 : decode cX9_reads 47 = .ok (.iload_n 2, 1) := by decide +kernel
theorem dX9_reads_48 : decode cX9_reads 48 = .ok (.iconst 1, 1) := by decide +kernel
theorem dX9_reads_49 : decode cX9_reads 49 = .ok (.isub, 1) := by decide +kernel
theorem dX9_reads_50 : decode cX9_reads 50 = .ok (.iconst 4, 1) := by decide +kernel
theorem dX9_reads_51 : decode cX9_reads 51 = .ok (.invokevirtual 147, 3) := by decide +kernel
theorem dX9_reads_54 : decode cX9_reads 54 = .ok (.ifCond .ne 270, 3) := by decide +kernel
theorem dX9_reads_57 : decode cX9_reads 57 = .ok (.iconst 0, 1) := by decide +kernel
theorem dX9_reads_58 : decode cX9_reads 58 = .ok (.ireturn, 1) := by decide +kernel
theorem dX9_reads_59 : decode cX9_reads 59 = .ok (.aload_n 0, 1) := by decide +kernel
theorem dX9_reads_60 : decode cX9_reads 60 = .ok (.iload_n 2, 1) := by decide +kernel
theorem dX9_reads_61 : decode cX9_reads 61 = .ok (.invokevirtual 128, 3) := by decide +kernel
theorem dX9_reads_64 : decode cX9_reads 64 = .ok (.istore_n 3, 1) := by decide +kernel
theorem dX9_reads_65 : decode cX9_reads 65 = .ok (.aload_n 0, 1) := by decide +kernel
theorem dX9_reads_66 : decode cX9_reads 66 = .ok (.dup, 1) := by decide +kernel
theorem dX9_reads_67 : decode cX9_reads 67 = .ok (.getfield 144, 3) := by decide +kernel
theorem dX9_reads_70 : decode cX9_reads 70 = .ok (.aload_n 0, 1) := by decide +kernel
theorem dX9_reads_71 : decode cX9_reads 71 = .ok (.getfield 37, 3) := by decide +kernel
theorem dX9_reads_74 : decode cX9_reads 74 = .ok (.iload_n 3, 1) := by decide +kernel
theorem dX9_reads_75 : decode cX9_reads 75 = .ok (.iaload, 1) := by decide +kernel
theorem dX9_reads_76 : decode cX9_reads 76 = .ok (.iadd, 1) := by decide +kernel
theorem dX9_reads_77 : decode cX9_reads 77 = .ok (.putfield 144, 3) := by decide +kernel
theorem dX9_reads_80 : decode cX9_reads 80 = .ok (.iload_n 2, 1) := by decide +kernel
theorem dX9_reads_81 : decode cX9_reads 81 = .ok (.iconst 1, 1) := by decide +kernel
theorem dX9_reads_82 : decode cX9_reads 82 = .ok (.iadd, 1) := by decide +kernel
theorem dX9_reads_83 : decode cX9_reads 83 = .ok (.aload_n 0, 1) := by decide +kernel
theorem dX9_reads_84 : decode cX9_reads 84 = .ok (.getfield 121, 3) := by decide +kernel
theorem dX9_reads_87 : decode cX9_reads 87 = .ok (.if_icmp .ge 18, 3) := by decide +kernel
theorem dX9_reads_90 : decode cX9_reads 90 = .ok (.aload_n 0, 1) := by decide +kernel
theorem dX9_reads_91 : decode cX9_reads 91 = .ok (.getfield 43, 3) := by decide +kernel
theorem dX9_reads_94 : decode cX9_reads 94 = .ok (.iload_n 2, 1) := by decide +kernel
theorem dX9_reads_95 : decode cX9_reads 95 = .ok (.iconst 1, 1) := by decide +kernel
theorem dX9_reads_96 : decode cX9_reads 96 = .ok (.iadd, 1) := by decide +kernel
theorem dX9_reads_97 : decode cX9_reads 97 = .ok (.baload, 1) := by decide +kernel
theorem dX9_reads_98 : decode cX9_reads 98 = .ok (.ifCond .eq 7, 3) := by decide +kernel
theorem dX9_reads_101 : decode cX9_reads 101 = .ok (.iconst 1, 1) := by decide +kernel
theorem dX9_reads_102 : decode cX9_reads 102 = .ok (.goto 4, 3) := by decide +kernel
theorem dX9_reads_105 : decode cX9_reads 105 = .ok (.iconst 0, 1) := by decide +kernel
theorem dX9_reads_106 : decode cX9_reads 106 = .ok (.istore 4, 2) := by decide +kernel
theorem dX9_reads_108 : decode cX9_reads 108 = .ok (.aload_n 0, 1) := by decide +kernel
theorem dX9_reads_109 : decode cX9_reads 109 = .ok (.getfield 25, 3) := by decide +kernel
theorem dX9_reads_112 : decode cX9_reads 112 = .ok (.iload_n 3, 1) := by decide +kernel
theorem dX9_reads_113 : decode cX9_reads 113 = .ok (.iaload, 1) := by decide +kernel
theorem dX9_reads_114 : decode cX9_reads 114 = .ok (.iconst 4, 1) := by decide +kernel
theorem dX9_reads_115 : decode cX9_reads 115 = .ok (.if_icmp .ne 21, 3) := by decide +kernel
theorem dX9_reads_118 : decode cX9_reads 118 = .ok (.aload_n 0, 1) := by decide +kernel
theorem dX9_reads_119 : decode cX9_reads 119 = .ok (.iload_n 2, 1) := by decide +kernel
theorem dX9_reads_120 : decode cX9_reads 120 = .ok (.iconst 1, 1) := by decide +kernel
theorem dX9_reads_121 : decode cX9_reads 121 = .ok (.isub, 1) := by decide +kernel
theorem dX9_reads_122 : decode cX9_reads 122 = .ok (.iconst 1, 1) := by decide +kernel
theorem dX9_reads_123 : decode cX9_reads 123 = .ok (.invokevirtual 147, 3) := by decide +kernel
theorem dX9_reads_126 : decode cX9_reads 126 = .ok (.ifCond .eq 8, 3) := by decide +kernel
theorem dX9_reads_129 : decode cX9_reads 129 = .ok (.iload 4, 2) := by decide +kernel
theorem dX9_reads_131 : decode cX9_reads 131 = .ok (.ifCond .ne 5, 3) := by decide +kernel
theorem dX9_reads_134 : decode cX9_reads 134 = .ok (.iconst 0, 1) := by decide +kernel
theorem dX9_reads_135 : decode cX9_reads 135 = .ok (.ireturn, 1) := by decide +kernel
theorem dX9_reads_136 : decode cX9_reads 136 = .ok (.aload_n 0, 1) := by decide +kernel
theorem dX9_reads_137 : decode cX9_reads 137 = .ok (.getfield 25, 3) := by decide +kernel
theorem dX9_reads_140 : decode cX9_reads 140 = .ok (.iload_n 3, 1) := by decide +kernel
theorem dX9_reads_141 : decode cX9_reads 141 = .ok (.iaload, 1) := by decide +kernel
theorem dX9_reads_142 : decode cX9_reads 142 = .ok (.iconst 4, 1) := by decide +kernel
theorem dX9_reads_143 : decode cX9_reads 143 = .ok (.if_icmp .ne 44, 3) := by decide +kernel
theorem dX9_reads_146 : decode cX9_reads 146 = .ok (.aload_n 0, 1) := by decide +kernel
theorem dX9_reads_147 : decode cX9_reads 147 = .ok (.iload_n 2, 1) := by decide +kernel
theorem dX9_reads_148 : decode cX9_reads 148 = .ok (.iconst 1, 1) := by decide +kernel
theorem dX9_reads_149 : decode cX9_reads 149 = .ok (.isub, 1) := by decide +kernel
theorem dX9_reads_150 : decode cX9_reads 150 = .ok (.invokevirtual 128, 3) := by decide +kernel
theorem dX9_reads_153 : decode cX9_reads 153 = .ok (.istore 5, 2) := by decide +kernel
theorem dX9_reads_155 : decode cX9_reads 155 = .ok (.aload_n 0, 1) := by decide +kernel
theorem dX9_reads_156 : decode cX9_reads 156 = .ok (.aload_n 0, 1) := by decide +kernel
theorem dX9_reads_157 : decode cX9_reads 157 = .ok (.getfield 28, 3) := by decide +kernel
theorem dX9_reads_160 : decode cX9_reads 160 = .ok (.iload 5, 2) := by decide +kernel
theorem dX9_reads_162 : decode cX9_reads 162 = .ok (.iaload, 1) := by decide +kernel
theorem dX9_reads_163 : decode cX9_reads 163 = .ok (.aload_n 0, 1) := by decide +kernel
theorem dX9_reads_164 : decode cX9_reads 164 = .ok (.getfield 31, 3) := by decide +kernel
theorem dX9_reads_167 : decode cX9_reads 167 = .ok (.iload 5, 2) := by decide +kernel
theorem dX9_reads_169 : decode cX9_reads 169 = .ok (.iaload, 1) := by decide +kernel
theorem dX9_reads_170 : decode cX9_reads 170 = .ok (.aload_n 0, 1) := by decide +kernel
theorem dX9_reads_171 : decode cX9_reads 171 = .ok (.getfield 28, 3) := by decide +kernel
theorem dX9_reads_174 : decode cX9_reads 174 = .ok (.iload_n 3, 1) := by decide +kernel
theorem dX9_reads_175 : decode cX9_reads 175 = .ok (.iaload, 1) := by decide +kernel
theorem dX9_reads_176 : decode cX9_reads 176 = .ok (.aload_n 0, 1) := by decide +kernel
theorem dX9_reads_177 : decode cX9_reads 177 = .ok (.getfield 40, 3) := by decide +kernel
theorem dX9_reads_180 : decode cX9_reads 180 = .ok (.iload_n 2, 1) := by decide +kernel
theorem dX9_reads_181 : decode cX9_reads 181 = .ok (.iconst 1, 1) := by decide +kernel
theorem dX9_reads_182 : decode cX9_reads 182 = .ok (.iadd, 1) := by decide +kernel
theorem dX9_reads_183 : decode cX9_reads 183 = .ok (.iaload, 1) := by decide +kernel
theorem dX9_reads_184 : decode cX9_reads 184 = .ok (.invokevirtual 150, 3) := by decide +kernel
theorem dX9_reads_187 : decode cX9_reads 187 = .ok (.aload_n 0, 1) := by decide +kernel
theorem dX9_reads_188 : decode cX9_reads 188 = .ok (.getfield 25, 3) := by decide +kernel
theorem dX9_reads_191 : decode cX9_reads 191 = .ok (.iload_n 3, 1) := by decide +kernel
theorem dX9_reads_192 : decode cX9_reads 192 = .ok (.iaload, 1) := by decide +kernel
theorem dX9_reads_193 : decode cX9_reads 193 = .ok (.iconst 3, 1) := by decide +kernel
theorem dX9_reads_194 : decode cX9_reads 194 = .ok (.if_icmp .ne 26, 3) := by decide +kernel
theorem dX9_reads_197 : decode cX9_reads 197 = .ok (.aload_n 0, 1) := by decide +kernel
theorem dX9_reads_198 : decode cX9_reads 198 = .ok (.aload_n 0, 1) := by decide +kernel
theorem dX9_reads_199 : decode cX9_reads 199 = .ok (.getfield 28, 3) := by decide +kernel
theorem dX9_reads_202 : decode cX9_reads 202 = .ok (.iload_n 3, 1) := by decide +kernel
theorem dX9_reads_203 : decode cX9_reads 203 = .ok (.iaload, 1) := by decide +kernel
theorem dX9_reads_204 : decode cX9_reads 204 = .ok (.aload_n 0, 1) := by decide +kernel
theorem dX9_reads_205 : decode cX9_reads 205 = .ok (.getfield 31, 3) := by decide +kernel
theorem dX9_reads_208 : decode cX9_reads 208 = .ok (.iload_n 3, 1) := by decide +kernel
theorem dX9_reads_209 : decode cX9_reads 209 = .ok (.iaload, 1) := by decide +kernel
theorem dX9_reads_210 : decode cX9_reads 210 = .ok (.iconst 2, 1) := by decide +kernel
theorem dX9_reads_211 : decode cX9_reads 211 = .ok (.aload_n 0, 1) := by decide +kernel
theorem dX9_reads_212 : decode cX9_reads 212 = .ok (.getfield 34, 3) := by decide +kernel
theorem dX9_reads_215 : decode cX9_reads 215 = .ok (.iload_n 3, 1) := by decide +kernel
theorem dX9_reads_216 : decode cX9_reads 216 = .ok (.iaload, 1) := by decide +kernel
theorem dX9_reads_217 : decode cX9_reads 217 = .ok (.invokevirtual 150, 3) := by decide +kernel
theorem dX9_reads_220 : decode cX9_reads 220 = .ok (.aload_n 0, 1) := by decide +kernel
theorem dX9_reads_221 : decode cX9_reads 221 = .ok (.getfield 25, 3) := by decide +kernel
theorem dX9_reads_224 : decode cX9_reads 224 = .ok (.iload_n 3, 1) := by decide +kernel
theorem dX9_reads_225 : decode cX9_reads 225 = .ok (.iaload, 1) := by decide +kernel
theorem dX9_reads_226 : decode cX9_reads 226 = .ok (.ifCond .ne 22, 3) := by decide +kernel
theorem dX9_reads_229 : decode cX9_reads 229 = .ok (.aload_n 0, 1) := by decide +kernel
theorem dX9_reads_230 : decode cX9_reads 230 = .ok (.getfield 138, 3) := by decide +kernel
theorem dX9_reads_233 : decode cX9_reads 233 = .ok (.ifCond .lt 5, 3) := by decide +kernel
theorem dX9_reads_236 : decode cX9_reads 236 = .ok (.iconst 0, 1) := by decide +kernel
theorem dX9_reads_237 : decode cX9_reads 237 = .ok (.ireturn, 1) := by decide +kernel
theorem dX9_reads_238 : decode cX9_reads 238 = .ok (.aload_n 0, 1) := by decide +kernel
theorem dX9_reads_239 : decode cX9_reads 239 = .ok (.aload_n 0, 1) := by decide +kernel
theorem dX9_reads_240 : decode cX9_reads 240 = .ok (.getfield 28, 3) := by decide +kernel
theorem dX9_reads_243 : decode cX9_reads 243 = .ok (.iload_n 3, 1) := by decide +kernel
theorem dX9_reads_244 : decode cX9_reads 244 = .ok (.iaload, 1) := by decide +kernel
theorem dX9_reads_245 : decode cX9_reads 245 = .ok (.putfield 138, 3) := by decide +kernel
theorem dX9_reads_248 : decode cX9_reads 248 = .ok (.aload_n 0, 1) := by decide +kernel
theorem dX9_reads_249 : decode cX9_reads 249 = .ok (.getfield 25, 3) := by decide +kernel
theorem dX9_reads_252 : decode cX9_reads 252 = .ok (.iload_n 3, 1) := by decide +kernel
theorem dX9_reads_253 : decode cX9_reads 253 = .ok (.iaload, 1) := by decide +kernel
theorem dX9_reads_254 : decode cX9_reads 254 = .ok (.iconst 2, 1) := by decide +kernel
theorem dX9_reads_255 : decode cX9_reads 255 = .ok (.if_icmp .ne 22, 3) := by decide +kernel
theorem dX9_reads_258 : decode cX9_reads 258 = .ok (.aload_n 0, 1) := by decide +kernel
theorem dX9_reads_259 : decode cX9_reads 259 = .ok (.getfield 135, 3) := by decide +kernel
theorem dX9_reads_262 : decode cX9_reads 262 = .ok (.ifCond .lt 5, 3) := by decide +kernel
theorem dX9_reads_265 : decode cX9_reads 265 = .ok (.iconst 0, 1) := by decide +kernel
theorem dX9_reads_266 : decode cX9_reads 266 = .ok (.ireturn, 1) := by decide +kernel
theorem dX9_reads_267 : decode cX9_reads 267 = .ok (.aload_n 0, 1) := by decide +kernel
theorem dX9_reads_268 : decode cX9_reads 268 = .ok (.aload_n 0, 1) := by decide +kernel
theorem dX9_reads_269 : decode cX9_reads 269 = .ok (.getfield 28, 3) := by decide +kernel
theorem dX9_reads_272 : decode cX9_reads 272 = .ok (.iload_n 3, 1) := by decide +kernel
theorem dX9_reads_273 : decode cX9_reads 273 = .ok (.iaload, 1) := by decide +kernel
theorem dX9_reads_274 : decode cX9_reads 274 = .ok (.putfield 135, 3) := by decide +kernel
theorem dX9_reads_277 : decode cX9_reads 277 = .ok (.aload_n 0, 1) := by decide +kernel
theorem dX9_reads_278 : decode cX9_reads 278 = .ok (.getfield 25, 3) := by decide +kernel
theorem dX9_reads_281 : decode cX9_reads 281 = .ok (.iload_n 3, 1) := by decide +kernel
theorem dX9_reads_282 : decode cX9_reads 282 = .ok (.iaload, 1) := by decide +kernel
theorem dX9_reads_283 : decode cX9_reads 283 = .ok (.iconst 1, 1) := by decide +kernel
theorem dX9_reads_284 : decode cX9_reads 284 = .ok (.if_icmp .ne 40, 3) := by decide +kernel
theorem dX9_reads_287 : decode cX9_reads 287 = .ok (.aload_n 0, 1) := by decide +kernel
theorem dX9_reads_288 : decode cX9_reads 288 = .ok (.iload_n 2, 1) := by decide +kernel
theorem dX9_reads_289 : decode cX9_reads 289 = .ok (.iconst 1, 1) := by decide +kernel
theorem dX9_reads_290 : decode cX9_reads 290 = .ok (.iadd, 1) := by decide +kernel
theorem dX9_reads_291 : decode cX9_reads 291 = .ok (.iconst 4, 1) := by decide +kernel
theorem dX9_reads_292 : decode cX9_reads 292 = .ok (.invokevirtual 147, 3) := by decide +kernel
theorem dX9_reads_295 : decode cX9_reads 295 = .ok (.ifCond .ne 29, 3) := by decide +kernel
theorem dX9_reads_298 : decode cX9_reads 298 = .ok (.aload_n 0, 1) := by decide +kernel
theorem dX9_reads_299 : decode cX9_reads 299 = .ok (.getfield 141, 3) := by decide +kernel
theorem dX9_reads_302 : decode cX9_reads 302 = .ok (.ifCond .lt 5, 3) := by decide +kernel
theorem dX9_reads_305 : decode cX9_reads 305 = .ok (.iconst 0, 1) := by decide +kernel
theorem dX9_reads_306 : decode cX9_reads 306 = .ok (.ireturn, 1) := by decide +kernel
theorem dX9_reads_307 : decode cX9_reads 307 = .ok (.aload_n 0, 1) := by decide +kernel
theorem dX9_reads_308 : decode cX9_reads 308 = .ok (.aload_n 0, 1) := by decide +kernel
theorem dX9_reads_309 : decode cX9_reads 309 = .ok (.getfield 31, 3) := by decide +kernel
theorem dX9_reads_312 : decode cX9_reads 312 = .ok (.iload_n 3, 1) := by decide +kernel
theorem dX9_reads_313 : decode cX9_reads 313 = .ok (.iaload, 1) := by decide +kernel
theorem dX9_reads_314 : decode cX9_reads 314 = .ok (.putfield 141, 3) := by decide +kernel
theorem dX9_reads_317 : decode cX9_reads 317 = .ok (.aload_n 0, 1) := by decide +kernel
theorem dX9_reads_318 : decode cX9_reads 318 = .ok (.getfield 28, 3) := by decide +kernel
theorem dX9_reads_321 : decode cX9_reads 321 = .ok (.iload_n 3, 1) := by decide +kernel
theorem dX9_reads_322 : decode cX9_reads 322 = .ok (.iaload, 1) := by decide +kernel
theorem dX9_reads_323 : decode cX9_reads 323 = .ok (.istore_n 1, 1) := by decide +kernel
theorem dX9_reads_324 : decode cX9_reads 324 = .ok (.iinc 2 1, 3) := by decide +kernel
theorem dX9_reads_327 : decode cX9_reads 327 = .ok (.goto (-298), 3) := by decide +kernel
theorem dX9_reads_330 : decode cX9_reads 330 = .ok (.aload_n 0, 1) := by decide +kernel
theorem dX9_reads_331 : decode cX9_reads 331 = .ok (.aload_n 0, 1) := by decide +kernel
theorem dX9_reads_332 : decode cX9_reads 332 = .ok (.getfield 135, 3) := by decide +kernel
theorem dX9_reads_335 : decode cX9_reads 335 = .ok (.ifCond .ge 7, 3) := by decide +kernel
theorem dX9_reads_338 : decode cX9_reads 338 = .ok (.iconst 0, 1) := by decide +kernel
theorem dX9_reads_339 : decode cX9_reads 339 = .ok (.goto 7, 3) := by decide +kernel
theorem dX9_reads_342 : decode cX9_reads 342 = .ok (.aload_n 0, 1) := by decide +kernel
theorem dX9_reads_343 : decode cX9_reads 343 = .ok (.getfield 135, 3) := by decide +kernel
theorem dX9_reads_346 : decode cX9_reads 346 = .ok (.putfield 135, 3) := by decide +kernel
theorem dX9_reads_349 : decode cX9_reads 349 = .ok (.aload_n 0, 1) := by decide +kernel
theorem dX9_reads_350 : decode cX9_reads 350 = .ok (.aload_n 0, 1) := by decide +kernel
theorem dX9_reads_351 : decode cX9_reads 351 = .ok (.getfield 138, 3) := by decide +kernel
theorem dX9_reads_354 : decode cX9_reads 354 = .ok (.ifCond .ge 7, 3) := by decide +kernel
theorem dX9_reads_357 : decode cX9_reads 357 = .ok (.iload_n 1, 1) := by decide +kernel
theorem dX9_reads_358 : decode cX9_reads 358 = .ok (.goto 7, 3) := by decide +kernel
theorem dX9_reads_361 : decode cX9_reads 361 = .ok (.aload_n 0, 1) := by decide +kernel
theorem dX9_reads_362 : decode cX9_reads 362 = .ok (.getfield 138, 3) := by decide +kernel
theorem dX9_reads_365 : decode cX9_reads 365 = .ok (.putfield 138, 3) := by decide +kernel
theorem dX9_reads_368 : decode cX9_reads 368 = .ok (.aload_n 0, 1) := by decide +kernel
theorem dX9_reads_369 : decode cX9_reads 369 = .ok (.getfield 138, 3) := by decide +kernel
theorem dX9_reads_372 : decode cX9_reads 372 = .ok (.ifCond .lt 45, 3) := by decide +kernel
theorem dX9_reads_375 : decode cX9_reads 375 = .ok (.aload_n 0, 1) := by decide +kernel
theorem dX9_reads_376 : decode cX9_reads 376 = .ok (.getfield 141, 3) := by decide +kernel
theorem dX9_reads_379 : decode cX9_reads 379 = .ok (.ifCond .lt 11, 3) := by decide +kernel
theorem dX9_reads_382 : decode cX9_reads 382 = .ok (.iload_n 1, 1) := by decide +kernel
theorem dX9_reads_383 : decode cX9_reads 383 = .ok (.aload_n 0, 1) := by decide +kernel
theorem dX9_reads_384 : decode cX9_reads 384 = .ok (.getfield 138, 3) := by decide +kernel
theorem dX9_reads_387 : decode cX9_reads 387 = .ok (.if_icmp .ne 30, 3) := by decide +kernel
theorem dX9_reads_390 : decode cX9_reads 390 = .ok (.aload_n 0, 1) := by decide +kernel
theorem dX9_reads_391 : decode cX9_reads 391 = .ok (.getfield 141, 3) := by decide +kernel
theorem dX9_reads_394 : decode cX9_reads 394 = .ok (.ifCond .lt 7, 3) := by decide +kernel
theorem dX9_reads_397 : decode cX9_reads 397 = .ok (.iconst 1, 1) := by decide +kernel
theorem dX9_reads_398 : decode cX9_reads 398 = .ok (.goto 4, 3) := by decide +kernel
theorem dX9_reads_401 : decode cX9_reads 401 = .ok (.iconst 0, 1) := by decide +kernel
theorem dX9_reads_402 : decode cX9_reads 402 = .ok (.aload_n 0, 1) := by decide +kernel
theorem dX9_reads_403 : decode cX9_reads 403 = .ok (.getfield 135, 3) := by decide +kernel
theorem dX9_reads_406 : decode cX9_reads 406 = .ok (.ifCond .eq 7, 3) := by decide +kernel
theorem dX9_reads_409 : decode cX9_reads 409 = .ok (.iconst 1, 1) := by decide +kernel
theorem dX9_reads_410 : decode cX9_reads 410 = .ok (.goto 4, 3) := by decide +kernel
theorem dX9_reads_413 : decode cX9_reads 413 = .ok (.iconst 0, 1) := by decide +kernel
theorem dX9_reads_414 : decode cX9_reads 414 = .ok (.if_icmp .eq 5, 3) := by decide +kernel
theorem dX9_reads_417 : decode cX9_reads 417 = .ok (.iconst 0, 1) := by decide +kernel
theorem dX9_reads_418 : decode cX9_reads 418 = .ok (.ireturn, 1) := by decide +kernel
theorem dX9_reads_419 : decode cX9_reads 419 = .ok (.iconst 1, 1) := by decide +kernel
theorem dX9_reads_420 : decode cX9_reads 420 = .ok (.istore_n 2, 1) := by decide +kernel
theorem dX9_reads_421 : decode cX9_reads 421 = .ok (.iconst 0, 1) := by decide +kernel
theorem dX9_reads_422 : decode cX9_reads 422 = .ok (.istore_n 3, 1) := by decide +kernel
theorem dX9_reads_423 : decode cX9_reads 423 = .ok (.iload_n 3, 1) := by decide +kernel
theorem dX9_reads_424 : decode cX9_reads 424 = .ok (.aload_n 0, 1) := by decide +kernel
theorem dX9_reads_425 : decode cX9_reads 425 = .ok (.getfield 132, 3) := by decide +kernel
theorem dX9_reads_428 : decode cX9_reads 428 = .ok (.if_icmp .ge 45, 3) := by decide +kernel
theorem dX9_reads_431 : decode cX9_reads 431 = .ok (.iload_n 2, 1) := by decide +kernel
theorem dX9_reads_432 : decode cX9_reads 432 = .ok (.ifCond .eq 33, 3) := by decide +kernel
theorem dX9_reads_435 : decode cX9_reads 435 = .ok (.aload_n 0, 1) := by decide +kernel
theorem dX9_reads_436 : decode cX9_reads 436 = .ok (.getfield 74, 3) := by decide +kernel
theorem dX9_reads_439 : decode cX9_reads 439 = .ok (.iload_n 3, 1) := by decide +kernel
theorem dX9_reads_440 : decode cX9_reads 440 = .ok (.iaload, 1) := by decide +kernel
theorem dX9_reads_441 : decode cX9_reads 441 = .ok (.aload_n 0, 1) := by decide +kernel
theorem dX9_reads_442 : decode cX9_reads 442 = .ok (.getfield 138, 3) := by decide +kernel
theorem dX9_reads_445 : decode cX9_reads 445 = .ok (.if_icmp .eq 16, 3) := by decide +kernel
theorem dX9_reads_448 : decode cX9_reads 448 = .ok (.aload_n 0, 1) := by decide +kernel
theorem dX9_reads_449 : decode cX9_reads 449 = .ok (.aload_n 0, 1) := by decide +kernel
theorem dX9_reads_450 : decode cX9_reads 450 = .ok (.getfield 74, 3) := by decide +kernel
theorem dX9_reads_453 : decode cX9_reads 453 = .ok (.iload_n 3, 1) := by decide +kernel
theorem dX9_reads_454 : decode cX9_reads 454 = .ok (.iaload, 1) := by decide +kernel
theorem dX9_reads_455 : decode cX9_reads 455 = .ok (.invokevirtual 154, 3) := by decide +kernel
theorem dX9_reads_458 : decode cX9_reads 458 = .ok (.ifCond .lt 7, 3) := by decide +kernel
theorem dX9_reads_461 : decode cX9_reads 461 = .ok (.iconst 1, 1) := by decide +kernel
theorem dX9_reads_462 : decode cX9_reads 462 = .ok (.goto 4, 3) := by decide +kernel
theorem dX9_reads_465 : decode cX9_reads 465 = .ok (.iconst 0, 1) := by decide +kernel
theorem dX9_reads_466 : decode cX9_reads 466 = .ok (.istore_n 2, 1) := by decide +kernel
theorem dX9_reads_467 : decode cX9_reads 467 = .ok (.iinc 3 1, 3) := by decide +kernel
theorem dX9_reads_470 : decode cX9_reads 470 = .ok (.goto (-47), 3) := by decide +kernel
theorem dX9_reads_473 : decode cX9_reads 473 = .ok (.iload_n 2, 1) := by decide +kernel
theorem dX9_reads_474 : decode cX9_reads 474 = .ok (.ireturn, 1) := by decide +kernel
theorem dX9_linkTo_0 : decode cX9_linkTo 0 = .ok (.iconst 0, 1) := by decide +kernel
theorem dX9_linkTo_1 : decode cX9_linkTo 1 = .ok (.istore_n 2, 1) := by decide +kernel
theorem dX9_linkTo_2 : decode cX9_linkTo 2 = .ok (.iload_n 2, 1) := by decide +kernel
theorem dX9_linkTo_3 : decode cX9_linkTo 3 = .ok (.aload_n 0, 1) := by decide +kernel
theorem dX9_linkTo_4 : decode cX9_linkTo 4 = .ok (.getfield 9, 3) := by decide +kernel
theorem dX9_linkTo_7 : decode cX9_linkTo 7 = .ok (.aload_n 0, 1) := by decide +kernel
theorem dX9_linkTo_8 : decode cX9_linkTo 8 = .ok (.getfield 138, 3) := by decide +kernel
theorem dX9_linkTo_11 : decode cX9_linkTo 11 = .ok (.iaload, 1) := by decide +kernel
theorem dX9_linkTo_12 : decode cX9_linkTo 12 = .ok (.if_icmp .ge 28, 3) := by decide +kernel
theorem dX9_linkTo_15 : decode cX9_linkTo 15 = .ok (.aload_n 0, 1) := by decide +kernel
theorem dX9_linkTo_16 : decode cX9_linkTo 16 = .ok (.getfield 19, 3) := by decide +kernel
theorem dX9_linkTo_19 : decode cX9_linkTo 19 = .ok (.iconst 4, 1) := by decide +kernel
theorem dX9_linkTo_20 : decode cX9_linkTo 20 = .ok (.aload_n 0, 1) := by decide +kernel
theorem dX9_linkTo_21 : decode cX9_linkTo 21 = .ok (.getfield 138, 3) := by decide +kernel
theorem dX9_linkTo_24 : decode cX9_linkTo 24 = .ok (.imul, 1) := by decide +kernel
theorem dX9_linkTo_25 : decode cX9_linkTo 25 = .ok (.iload_n 2, 1) := by decide +kernel
theorem dX9_linkTo_26 : decode cX9_linkTo 26 = .ok (.iadd, 1) := by decide +kernel
theorem dX9_linkTo_27 : decode cX9_linkTo 27 = .ok (.iaload, 1) := by decide +kernel
theorem dX9_linkTo_28 : decode cX9_linkTo 28 = .ok (.iload_n 1, 1) := by decide +kernel
theorem dX9_linkTo_29 : decode cX9_linkTo 29 = .ok (.if_icmp .ne 5, 3) := by decide +kernel
theorem dX9_linkTo_32 : decode cX9_linkTo 32 = .ok (.iload_n 2, 1) := by decide +kernel
theorem dX9_linkTo_33 : decode cX9_linkTo 33 = .ok (.ireturn, 1) := by decide +kernel
theorem dX9_linkTo_34 : decode cX9_linkTo 34 = .ok (.iinc 2 1, 3) := by decide +kernel
theorem dX9_linkTo_37 : decode cX9_linkTo 37 = .ok (.goto (-35), 3) := by decide +kernel
theorem dX9_linkTo_40 : decode cX9_linkTo 40 = .ok (.iconst (-1), 1) := by decide +kernel
theorem dX9_linkTo_41 : decode cX9_linkTo 41 = .ok (.ireturn, 1) := by decide +kernel
theorem dX9_takeWay_0 : decode cX9_takeWay 0 = .ok (.iconst 1, 1) := by decide +kernel
theorem dX9_takeWay_1 : decode cX9_takeWay 1 = .ok (.istore_n 2, 1) := by decide +kernel
theorem dX9_takeWay_2 : decode cX9_takeWay 2 = .ok (.iload_n 1, 1) := by decide +kernel
theorem dX9_takeWay_3 : decode cX9_takeWay 3 = .ok (.istore_n 3, 1) := by decide +kernel
theorem dX9_takeWay_4 : decode cX9_takeWay 4 = .ok (.aload_n 0, 1) := by decide +kernel
theorem dX9_takeWay_5 : decode cX9_takeWay 5 = .ok (.getfield 121, 3) := by decide +kernel
theorem dX9_takeWay_8 : decode cX9_takeWay 8 = .ok (.iconst 1, 1) := by decide +kernel
theorem dX9_takeWay_9 : decode cX9_takeWay 9 = .ok (.isub, 1) := by decide +kernel
theorem dX9_takeWay_10 : decode cX9_takeWay 10 = .ok (.istore 4, 2) := by decide +kernel
theorem dX9_takeWay_12 : decode cX9_takeWay 12 = .ok (.iload 4, 2) := by decide +kernel
theorem dX9_takeWay_14 : decode cX9_takeWay 14 = .ok (.ifCond .lt 78, 3) := by decide +kernel
theorem dX9_takeWay_17 : decode cX9_takeWay 17 = .ok (.aload_n 0, 1) := by decide +kernel
theorem dX9_takeWay_18 : decode cX9_takeWay 18 = .ok (.getfield 71, 3) := by decide +kernel
theorem dX9_takeWay_21 : decode cX9_takeWay 21 = .ok (.iload 4, 2) := by decide +kernel
theorem dX9_takeWay_23 : decode cX9_takeWay 23 = .ok (.iload_n 3, 1) := by decide +kernel
theorem dX9_takeWay_24 : decode cX9_takeWay 24 = .ok (.iconst 3, 1) := by decide +kernel
theorem dX9_takeWay_25 : decode cX9_takeWay 25 = .ok (.irem, 1) := by decide +kernel
theorem dX9_takeWay_26 : decode cX9_takeWay 26 = .ok (.iastore, 1) := by decide +kernel
theorem dX9_takeWay_27 : decode cX9_takeWay 27 = .ok (.iload_n 3, 1) := by decide +kernel
theorem dX9_takeWay_28 : decode cX9_takeWay 28 = .ok (.iconst 3, 1) := by decide +kernel
theorem dX9_takeWay_29 : decode cX9_takeWay 29 = .ok (.idiv, 1) := by decide +kernel
theorem dX9_takeWay_30 : decode cX9_takeWay 30 = .ok (.istore_n 3, 1) := by decide +kernel
theorem dX9_takeWay_31 : decode cX9_takeWay 31 = .ok (.iload_n 2, 1) := by decide +kernel
theorem dX9_takeWay_32 : decode cX9_takeWay 32 = .ok (.ifCond .eq 52, 3) := by decide +kernel
theorem dX9_takeWay_35 : decode cX9_takeWay 35 = .ok (.aload_n 0, 1) := by decide +kernel
theorem dX9_takeWay_36 : decode cX9_takeWay 36 = .ok (.getfield 43, 3) := by decide +kernel
theorem dX9_takeWay_39 : decode cX9_takeWay 39 = .ok (.iload 4, 2) := by decide +kernel
theorem dX9_takeWay_41 : decode cX9_takeWay 41 = .ok (.baload, 1) := by decide +kernel
theorem dX9_takeWay_42 : decode cX9_takeWay 42 = .ok (.ifCond .eq 16, 3) := by decide +kernel
theorem dX9_takeWay_45 : decode cX9_takeWay 45 = .ok (.aload_n 0, 1) := by decide +kernel
theorem dX9_takeWay_46 : decode cX9_takeWay 46 = .ok (.getfield 71, 3) := by decide +kernel
theorem dX9_takeWay_49 : decode cX9_takeWay 49 = .ok (.iload 4, 2) := by decide +kernel
theorem dX9_takeWay_51 : decode cX9_takeWay 51 = .ok (.iaload, 1) := by decide +kernel
theorem dX9_takeWay_52 : decode cX9_takeWay 52 = .ok (.ifCond .ne 32, 3) := by decide +kernel
theorem dX9_takeWay_55 : decode cX9_takeWay 55 = .ok (.goto 25, 3) := by decide +kernel
theorem dX9_takeWay_58 : decode cX9_takeWay 58 = .ok (.aload_n 0, 1) := by decide +kernel
theorem dX9_takeWay_59 : decode cX9_takeWay 59 = .ok (.getfield 71, 3) := by decide +kernel
theorem dX9_takeWay_62 : decode cX9_takeWay 62 = .ok (.iload 4, 2) := by decide +kernel
theorem dX9_takeWay_64 : decode cX9_takeWay 64 = .ok (.iaload, 1) := by decide +kernel
theorem dX9_takeWay_65 : decode cX9_takeWay 65 = .ok (.aload_n 0, 1) := by decide +kernel
theorem dX9_takeWay_66 : decode cX9_takeWay 66 = .ok (.getfield 22, 3) := by decide +kernel
theorem dX9_takeWay_69 : decode cX9_takeWay 69 = .ok (.aload_n 0, 1) := by decide +kernel
theorem dX9_takeWay_70 : decode cX9_takeWay 70 = .ok (.getfield 40, 3) := by decide +kernel
theorem dX9_takeWay_73 : decode cX9_takeWay 73 = .ok (.iload 4, 2) := by decide +kernel
theorem dX9_takeWay_75 : decode cX9_takeWay 75 = .ok (.iaload, 1) := by decide +kernel
theorem dX9_takeWay_76 : decode cX9_takeWay 76 = .ok (.iaload, 1) := by decide +kernel
theorem dX9_takeWay_77 : decode cX9_takeWay 77 = .ok (.if_icmp .ge 7, 3) := by decide +kernel
theorem dX9_takeWay_80 : decode cX9_takeWay 80 = .ok (.iconst 1, 1) := by decide +kernel
theorem dX9_takeWay_81 : decode cX9_takeWay 81 = .ok (.goto 4, 3) := by decide +kernel
theorem dX9_takeWay_84 : decode cX9_takeWay 84 = .ok (.iconst 0, 1) := by decide +kernel
theorem dX9_takeWay_85 : decode cX9_takeWay 85 = .ok (.istore_n 2, 1) := by decide +kernel
theorem dX9_takeWay_86 : decode cX9_takeWay 86 = .ok (.iinc 4 (-1), 3) := by decide +kernel
theorem dX9_takeWay_89 : decode cX9_takeWay 89 = .ok (.goto (-77), 3) := by decide +kernel
theorem dX9_takeWay_92 : decode cX9_takeWay 92 = .ok (.iload_n 2, 1) := by decide +kernel
theorem dX9_takeWay_93 : decode cX9_takeWay 93 = .ok (.ireturn, 1) := by decide +kernel
theorem dX9_findReadings_0 : decode cX9_findReadings 0 = .ok (.aload_n 0, 1) := by decide +kernel
theorem dX9_findReadings_1 : decode cX9_findReadings 1 = .ok (.iconst 0, 1) := by decide +kernel
theorem dX9_findReadings_2 : decode cX9_findReadings 2 = .ok (.putfield 157, 3) := by decide +kernel
theorem dX9_findReadings_5 : decode cX9_findReadings 5 = .ok (.iconst 1, 1) := by decide +kernel
theorem dX9_findReadings_6 : decode cX9_findReadings 6 = .ok (.istore_n 1, 1) := by decide +kernel
theorem dX9_findReadings_7 : decode cX9_findReadings 7 = .ok (.iconst 0, 1) := by decide +kernel
theorem dX9_findReadings_8 : decode cX9_findReadings 8 = .ok (.istore_n 2, 1) := by decide +kernel
theorem dX9_findReadings_9 : decode cX9_findReadings 9 = .ok (.iload_n 2, 1) := by decide +kernel
theorem dX9_findReadings_10 : decode cX9_findReadings 10 = .ok (.aload_n 0, 1) := by decide +kernel
theorem dX9_findReadings_11 : decode cX9_findReadings 11 = .ok (.getfield 121, 3) := by decide +kernel
theorem dX9_findReadings_14 : decode cX9_findReadings 14 = .ok (.if_icmp .ge 13, 3) := by decide +kernel
theorem dX9_findReadings_17 : decode cX9_findReadings 17 = .ok (.iload_n 1, 1) := by decide +kernel
theorem dX9_findReadings_18 : decode cX9_findReadings 18 = .ok (.iconst 3, 1) := by decide +kernel
theorem dX9_findReadings_19 : decode cX9_findReadings 19 = .ok (.imul, 1) := by decide +kernel
theorem dX9_findReadings_20 : decode cX9_findReadings 20 = .ok (.istore_n 1, 1) := by decide +kernel
theorem dX9_findReadings_21 : decode cX9_findReadings 21 = .ok (.iinc 2 1, 3) := by decide +kernel
theorem dX9_findReadings_24 : decode cX9_findReadings 24 = .ok (.goto (-15), 3) := by decide +kernel
theorem dX9_findReadings_27 : decode cX9_findReadings 27 = .ok (.iconst 0, 1) := by decide +kernel
theorem dX9_findReadings_28 : decode cX9_findReadings 28 = .ok (.istore_n 2, 1) := by decide +kernel
theorem dX9_findReadings_29 : decode cX9_findReadings 29 = .ok (.iload_n 2, 1) := by decide +kernel
theorem dX9_findReadings_30 : decode cX9_findReadings 30 = .ok (.iload_n 1, 1) := by decide +kernel
theorem dX9_findReadings_31 : decode cX9_findReadings 31 = .ok (.if_icmp .ge 57, 3) := by decide +kernel
theorem dX9_findReadings_34 : decode cX9_findReadings 34 = .ok (.aload_n 0, 1) := by decide +kernel
theorem dX9_findReadings_35 : decode cX9_findReadings 35 = .ok (.iload_n 2, 1) := by decide +kernel
theorem dX9_findReadings_36 : decode cX9_findReadings 36 = .ok (.invokevirtual 160, 3) := by decide +kernel
theorem dX9_findReadings_39 : decode cX9_findReadings 39 = .ok (.ifCond .eq 43, 3) := by decide +kernel
theorem dX9_findReadings_42 : decode cX9_findReadings 42 = .ok (.aload_n 0, 1) := by decide +kernel
theorem dX9_findReadings_43 : decode cX9_findReadings 43 = .ok (.invokevirtual 163, 3) := by decide +kernel
theorem dX9_findReadings_46 : decode cX9_findReadings 46 = .ok (.ifCond .eq 36, 3) := by decide +kernel
theorem dX9_findReadings_49 : decode cX9_findReadings 49 = .ok (.aload_n 0, 1) := by decide +kernel
theorem dX9_findReadings_50 : decode cX9_findReadings 50 = .ok (.getfield 53, 3) := by decide +kernel
theorem dX9_findReadings_53 : decode cX9_findReadings 53 = .ok (.aload_n 0, 1) := by decide +kernel
theorem dX9_findReadings_54 : decode cX9_findReadings 54 = .ok (.getfield 157, 3) := by decide +kernel
theorem dX9_findReadings_57 : decode cX9_findReadings 57 = .ok (.iload_n 2, 1) := by decide +kernel
theorem dX9_findReadings_58 : decode cX9_findReadings 58 = .ok (.iastore, 1) := by decide +kernel
theorem dX9_findReadings_59 : decode cX9_findReadings 59 = .ok (.aload_n 0, 1) := by decide +kernel
theorem dX9_findReadings_60 : decode cX9_findReadings 60 = .ok (.getfield 56, 3) := by decide +kernel
theorem dX9_findReadings_63 : decode cX9_findReadings 63 = .ok (.aload_n 0, 1) := by decide +kernel
theorem dX9_findReadings_64 : decode cX9_findReadings 64 = .ok (.getfield 157, 3) := by decide +kernel
theorem dX9_findReadings_67 : decode cX9_findReadings 67 = .ok (.aload_n 0, 1) := by decide +kernel
theorem dX9_findReadings_68 : decode cX9_findReadings 68 = .ok (.getfield 144, 3) := by decide +kernel
theorem dX9_findReadings_71 : decode cX9_findReadings 71 = .ok (.iastore, 1) := by decide +kernel
theorem dX9_findReadings_72 : decode cX9_findReadings 72 = .ok (.aload_n 0, 1) := by decide +kernel
theorem dX9_findReadings_73 : decode cX9_findReadings 73 = .ok (.dup, 1) := by decide +kernel
theorem dX9_findReadings_74 : decode cX9_findReadings 74 = .ok (.getfield 157, 3) := by decide +kernel
theorem dX9_findReadings_77 : decode cX9_findReadings 77 = .ok (.iconst 1, 1) := by decide +kernel
theorem dX9_findReadings_78 : decode cX9_findReadings 78 = .ok (.iadd, 1) := by decide +kernel
theorem dX9_findReadings_79 : decode cX9_findReadings 79 = .ok (.putfield 157, 3) := by decide +kernel
theorem dX9_findReadings_82 : decode cX9_findReadings 82 = .ok (.iinc 2 1, 3) := by decide +kernel
theorem dX9_findReadings_85 : decode cX9_findReadings 85 = .ok (.goto (-56), 3) := by decide +kernel
theorem dX9_findReadings_88 : decode cX9_findReadings 88 = .ok (.iconst 0, 1) := by decide +kernel
theorem dX9_findReadings_89 : decode cX9_findReadings 89 = .ok (.istore_n 2, 1) := by decide +kernel
theorem dX9_findReadings_90 : decode cX9_findReadings 90 = .ok (.iload_n 2, 1) := by decide +kernel
theorem dX9_findReadings_91 : decode cX9_findReadings 91 = .ok (.sipush 900, 3) := by decide +kernel
theorem dX9_findReadings_94 : decode cX9_findReadings 94 = .ok (.if_icmp .gt 16, 3) := by decide +kernel
theorem dX9_findReadings_97 : decode cX9_findReadings 97 = .ok (.aload_n 0, 1) := by decide +kernel
theorem dX9_findReadings_98 : decode cX9_findReadings 98 = .ok (.getfield 59, 3) := by decide +kernel
theorem dX9_findReadings_101 : decode cX9_findReadings 101 = .ok (.iload_n 2, 1) := by decide +kernel
theorem dX9_findReadings_102 : decode cX9_findReadings 102 = .ok (.iconst 0, 1) := by decide +kernel
theorem dX9_findReadings_103 : decode cX9_findReadings 103 = .ok (.iastore, 1) := by decide +kernel
theorem dX9_findReadings_104 : decode cX9_findReadings 104 = .ok (.iinc 2 1, 3) := by decide +kernel
theorem dX9_findReadings_107 : decode cX9_findReadings 107 = .ok (.goto (-17), 3) := by decide +kernel
theorem dX9_findReadings_110 : decode cX9_findReadings 110 = .ok (.iconst 0, 1) := by decide +kernel
theorem dX9_findReadings_111 : decode cX9_findReadings 111 = .ok (.istore_n 2, 1) := by decide +kernel
theorem dX9_findReadings_112 : decode cX9_findReadings 112 = .ok (.iload_n 2, 1) := by decide +kernel
theorem dX9_findReadings_113 : decode cX9_findReadings 113 = .ok (.aload_n 0, 1) := by decide +kernel
theorem dX9_findReadings_114 : decode cX9_findReadings 114 = .ok (.getfield 157, 3) := by decide +kernel
theorem dX9_findReadings_117 : decode cX9_findReadings 117 = .ok (.if_icmp .ge 26, 3) := by decide +kernel
theorem dX9_findReadings_120 : decode cX9_findReadings 120 = .ok (.aload_n 0, 1) := by decide +kernel
theorem dX9_findReadings_121 : decode cX9_findReadings 121 = .ok (.getfield 59, 3) := by decide +kernel
theorem dX9_findReadings_124 : decode cX9_findReadings 124 = .ok (.aload_n 0, 1) := by decide +kernel
theorem dX9_findReadings_125 : decode cX9_findReadings 125 = .ok (.getfield 56, 3) := by decide +kernel
theorem dX9_findReadings_128 : decode cX9_findReadings 128 = .ok (.iload_n 2, 1) := by decide +kernel
theorem dX9_findReadings_129 : decode cX9_findReadings 129 = .ok (.iaload, 1) := by decide +kernel
theorem dX9_findReadings_130 : decode cX9_findReadings 130 = .ok (.iconst 1, 1) := by decide +kernel
theorem dX9_findReadings_131 : decode cX9_findReadings 131 = .ok (.iadd, 1) := by decide +kernel
theorem dX9_findReadings_132 : decode cX9_findReadings 132 = .ok (.dup2, 1) := by decide +kernel
theorem dX9_findReadings_133 : decode cX9_findReadings 133 = .ok (.iaload, 1) := by decide +kernel
theorem dX9_findReadings_134 : decode cX9_findReadings 134 = .ok (.iconst 1, 1) := by decide +kernel
theorem dX9_findReadings_135 : decode cX9_findReadings 135 = .ok (.iadd, 1) := by decide +kernel
theorem dX9_findReadings_136 : decode cX9_findReadings 136 = .ok (.iastore, 1) := by decide +kernel
theorem dX9_findReadings_137 : decode cX9_findReadings 137 = .ok (.iinc 2 1, 3) := by decide +kernel
theorem dX9_findReadings_140 : decode cX9_findReadings 140 = .ok (.goto (-28), 3) := by decide +kernel
theorem dX9_findReadings_143 : decode cX9_findReadings 143 = .ok (.iconst 1, 1) := by decide +kernel
theorem dX9_findReadings_144 : decode cX9_findReadings 144 = .ok (.istore_n 2, 1) := by decide +kernel
theorem dX9_findReadings_145 : decode cX9_findReadings 145 = .ok (.iload_n 2, 1) := by decide +kernel
theorem dX9_findReadings_146 : decode cX9_findReadings 146 = .ok (.sipush 900, 3) := by decide +kernel
theorem dX9_findReadings_149 : decode cX9_findReadings 149 = .ok (.if_icmp .gt 26, 3) := by decide +kernel
theorem dX9_findReadings_152 : decode cX9_findReadings 152 = .ok (.aload_n 0, 1) := by decide +kernel
theorem dX9_findReadings_153 : decode cX9_findReadings 153 = .ok (.getfield 59, 3) := by decide +kernel
theorem dX9_findReadings_156 : decode cX9_findReadings 156 = .ok (.iload_n 2, 1) := by decide +kernel
theorem dX9_findReadings_157 : decode cX9_findReadings 157 = .ok (.dup2, 1) := by decide +kernel
theorem dX9_findReadings_158 : decode cX9_findReadings 158 = .ok (.iaload, 1) := by decide +kernel
theorem dX9_findReadings_159 : decode cX9_findReadings 159 = .ok (.aload_n 0, 1) := by decide +kernel
theorem dX9_findReadings_160 : decode cX9_findReadings 160 = .ok (.getfield 59, 3) := by decide +kernel
theorem dX9_findReadings_163 : decode cX9_findReadings 163 = .ok (.iload_n 2, 1) := by decide +kernel
theorem dX9_findReadings_164 : decode cX9_findReadings 164 = .ok (.iconst 1, 1) := by decide +kernel
theorem dX9_findReadings_165 : decode cX9_findReadings 165 = .ok (.isub, 1) := by decide +kernel
theorem dX9_findReadings_166 : decode cX9_findReadings 166 = .ok (.iaload, 1) := by decide +kernel
theorem dX9_findReadings_167 : decode cX9_findReadings 167 = .ok (.iadd, 1) := by decide +kernel
theorem dX9_findReadings_168 : decode cX9_findReadings 168 = .ok (.iastore, 1) := by decide +kernel
theorem dX9_findReadings_169 : decode cX9_findReadings 169 = .ok (.iinc 2 1, 3) := by decide +kernel
theorem dX9_findReadings_172 : decode cX9_findReadings 172 = .ok (.goto (-27), 3) := by decide +kernel
theorem dX9_findReadings_175 : decode cX9_findReadings 175 = .ok (.iconst 0, 1) := by decide +kernel
theorem dX9_findReadings_176 : decode cX9_findReadings 176 = .ok (.istore_n 2, 1) := by decide +kernel
theorem dX9_findReadings_177 : decode cX9_findReadings 177 = .ok (.iload_n 2, 1) := by decide +kernel
theorem dX9_findReadings_178 : decode cX9_findReadings 178 = .ok (.aload_n 0, 1) := by decide +kernel
theorem dX9_findReadings_179 : decode cX9_findReadings 179 = .ok (.getfield 157, 3) := by decide +kernel
theorem dX9_findReadings_182 : decode cX9_findReadings 182 = .ok (.if_icmp .ge 60, 3) := by decide +kernel
theorem dX9_findReadings_185 : decode cX9_findReadings 185 = .ok (.aload_n 0, 1) := by decide +kernel
theorem dX9_findReadings_186 : decode cX9_findReadings 186 = .ok (.getfield 59, 3) := by decide +kernel
theorem dX9_findReadings_189 : decode cX9_findReadings 189 = .ok (.aload_n 0, 1) := by decide +kernel
theorem dX9_findReadings_190 : decode cX9_findReadings 190 = .ok (.getfield 56, 3) := by decide +kernel
theorem dX9_findReadings_193 : decode cX9_findReadings 193 = .ok (.iload_n 2, 1) := by decide +kernel
theorem dX9_findReadings_194 : decode cX9_findReadings 194 = .ok (.iaload, 1) := by decide +kernel
theorem dX9_findReadings_195 : decode cX9_findReadings 195 = .ok (.iaload, 1) := by decide +kernel
theorem dX9_findReadings_196 : decode cX9_findReadings 196 = .ok (.istore_n 3, 1) := by decide +kernel
theorem dX9_findReadings_197 : decode cX9_findReadings 197 = .ok (.aload_n 0, 1) := by decide +kernel
theorem dX9_findReadings_198 : decode cX9_findReadings 198 = .ok (.getfield 47, 3) := by decide +kernel
theorem dX9_findReadings_201 : decode cX9_findReadings 201 = .ok (.iload_n 3, 1) := by decide +kernel
theorem dX9_findReadings_202 : decode cX9_findReadings 202 = .ok (.aload_n 0, 1) := by decide +kernel
theorem dX9_findReadings_203 : decode cX9_findReadings 203 = .ok (.getfield 53, 3) := by decide +kernel
theorem dX9_findReadings_206 : decode cX9_findReadings 206 = .ok (.iload_n 2, 1) := by decide +kernel
theorem dX9_findReadings_207 : decode cX9_findReadings 207 = .ok (.iaload, 1) := by decide +kernel
theorem dX9_findReadings_208 : decode cX9_findReadings 208 = .ok (.iastore, 1) := by decide +kernel
theorem dX9_findReadings_209 : decode cX9_findReadings 209 = .ok (.aload_n 0, 1) := by decide +kernel
theorem dX9_findReadings_210 : decode cX9_findReadings 210 = .ok (.getfield 50, 3) := by decide +kernel
theorem dX9_findReadings_213 : decode cX9_findReadings 213 = .ok (.iload_n 3, 1) := by decide +kernel
theorem dX9_findReadings_214 : decode cX9_findReadings 214 = .ok (.aload_n 0, 1) := by decide +kernel
theorem dX9_findReadings_215 : decode cX9_findReadings 215 = .ok (.getfield 56, 3) := by decide +kernel
theorem dX9_findReadings_218 : decode cX9_findReadings 218 = .ok (.iload_n 2, 1) := by decide +kernel
theorem dX9_findReadings_219 : decode cX9_findReadings 219 = .ok (.iaload, 1) := by decide +kernel
theorem dX9_findReadings_220 : decode cX9_findReadings 220 = .ok (.iastore, 1) := by decide +kernel
theorem dX9_findReadings_221 : decode cX9_findReadings 221 = .ok (.aload_n 0, 1) := by decide +kernel
theorem dX9_findReadings_222 : decode cX9_findReadings 222 = .ok (.getfield 59, 3) := by decide +kernel
theorem dX9_findReadings_225 : decode cX9_findReadings 225 = .ok (.aload_n 0, 1) := by decide +kernel
theorem dX9_findReadings_226 : decode cX9_findReadings 226 = .ok (.getfield 56, 3) := by decide +kernel
theorem dX9_findReadings_229 : decode cX9_findReadings 229 = .ok (.iload_n 2, 1) := by decide +kernel
theorem dX9_findReadings_230 : decode cX9_findReadings 230 = .ok (.iaload, 1) := by decide +kernel
theorem dX9_findReadings_231 : decode cX9_findReadings 231 = .ok (.dup2, 1) := by decide +kernel
theorem dX9_findReadings_232 : decode cX9_findReadings 232 = .ok (.iaload, 1) := by decide +kernel
theorem dX9_findReadings_233 : decode cX9_findReadings 233 = .ok (.iconst 1, 1) := by decide +kernel
theorem dX9_findReadings_234 : decode cX9_findReadings 234 = .ok (.iadd, 1) := by decide +kernel
theorem dX9_findReadings_235 : decode cX9_findReadings 235 = .ok (.iastore, 1) := by decide +kernel
theorem dX9_findReadings_236 : decode cX9_findReadings 236 = .ok (.iinc 2 1, 3) := by decide +kernel
theorem dX9_findReadings_239 : decode cX9_findReadings 239 = .ok (.goto (-62), 3) := by decide +kernel
theorem dX9_findReadings_242 : decode cX9_findReadings 242 = .ok (.return_, 1) := by decide +kernel
theorem dX9_have_0 : decode cX9_have 0 = .ok (.aload_n 0, 1) := by decide +kernel
theorem dX9_have_1 : decode cX9_have 1 = .ok (.invokevirtual 167, 3) := by decide +kernel
theorem dX9_have_4 : decode cX9_have 4 = .ok (.iload_n 1, 1) := by decide +kernel
theorem dX9_have_5 : decode cX9_have 5 = .ok (.ifCond .lt 11, 3) := by decide +kernel
theorem dX9_have_8 : decode cX9_have 8 = .ok (.iload_n 1, 1) := by decide +kernel
theorem dX9_have_9 : decode cX9_have 9 = .ok (.aload_n 0, 1) := by decide +kernel
theorem dX9_have_10 : decode cX9_have 10 = .ok (.getfield 157, 3) := by decide +kernel
theorem dX9_have_13 : decode cX9_have 13 = .ok (.if_icmp .lt 5, 3) := by decide +kernel
theorem dX9_have_16 : decode cX9_have 16 = .ok (.iconst 0, 1) := by decide +kernel
theorem dX9_have_17 : decode cX9_have 17 = .ok (.ireturn, 1) := by decide +kernel
theorem dX9_have_18 : decode cX9_have 18 = .ok (.aload_n 0, 1) := by decide +kernel
theorem dX9_have_19 : decode cX9_have 19 = .ok (.aload_n 0, 1) := by decide +kernel
theorem dX9_have_20 : decode cX9_have 20 = .ok (.getfield 47, 3) := by decide +kernel
theorem dX9_have_23 : decode cX9_have 23 = .ok (.iload_n 1, 1) := by decide +kernel
theorem dX9_have_24 : decode cX9_have 24 = .ok (.iaload, 1) := by decide +kernel
theorem dX9_have_25 : decode cX9_have 25 = .ok (.invokevirtual 160, 3) := by decide +kernel
theorem dX9_have_28 : decode cX9_have 28 = .ok (.ifCond .eq 14, 3) := by decide +kernel
theorem dX9_have_31 : decode cX9_have 31 = .ok (.aload_n 0, 1) := by decide +kernel
theorem dX9_have_32 : decode cX9_have 32 = .ok (.invokevirtual 163, 3) := by decide +kernel
theorem dX9_have_35 : decode cX9_have 35 = .ok (.ifCond .eq 7, 3) := by decide +kernel
theorem dX9_have_38 : decode cX9_have 38 = .ok (.iconst 1, 1) := by decide +kernel
theorem dX9_have_39 : decode cX9_have 39 = .ok (.goto 4, 3) := by decide +kernel
theorem dX9_have_42 : decode cX9_have 42 = .ok (.iconst 0, 1) := by decide +kernel
theorem dX9_have_43 : decode cX9_have 43 = .ok (.ireturn, 1) := by decide +kernel
theorem dX9_readings_0 : decode cX9_readings 0 = .ok (.aload_n 0, 1) := by decide +kernel
theorem dX9_readings_1 : decode cX9_readings 1 = .ok (.invokevirtual 167, 3) := by decide +kernel
theorem dX9_readings_4 : decode cX9_readings 4 = .ok (.aload_n 0, 1) := by decide +kernel
theorem dX9_readings_5 : decode cX9_readings 5 = .ok (.getfield 157, 3) := by decide +kernel
theorem dX9_readings_8 : decode cX9_readings 8 = .ok (.ireturn, 1) := by decide +kernel
theorem dX9_holds_0 : decode cX9_holds 0 = .ok (.aload_n 0, 1) := by decide +kernel
theorem dX9_holds_1 : decode cX9_holds 1 = .ok (.getfield 74, 3) := by decide +kernel
theorem dX9_holds_4 : decode cX9_holds 4 = .ok (.iload_n 1, 1) := by decide +kernel
theorem dX9_holds_5 : decode cX9_holds 5 = .ok (.iaload, 1) := by decide +kernel
theorem dX9_holds_6 : decode cX9_holds 6 = .ok (.istore_n 3, 1) := by decide +kernel
theorem dX9_holds_7 : decode cX9_holds 7 = .ok (.iload_n 2, 1) := by decide +kernel
theorem dX9_holds_8 : decode cX9_holds 8 = .ok (.istore 4, 2) := by decide +kernel
theorem dX9_holds_10 : decode cX9_holds 10 = .ok (.iload_n 3, 1) := by decide +kernel
theorem dX9_holds_11 : decode cX9_holds 11 = .ok (.aload_n 0, 1) := by decide +kernel
theorem dX9_holds_12 : decode cX9_holds 12 = .ok (.getfield 138, 3) := by decide +kernel
theorem dX9_holds_15 : decode cX9_holds 15 = .ok (.if_icmp .eq 37, 3) := by decide +kernel
theorem dX9_holds_18 : decode cX9_holds 18 = .ok (.aload_n 0, 1) := by decide +kernel
theorem dX9_holds_19 : decode cX9_holds 19 = .ok (.aload_n 0, 1) := by decide +kernel
theorem dX9_holds_20 : decode cX9_holds 20 = .ok (.getfield 138, 3) := by decide +kernel
theorem dX9_holds_23 : decode cX9_holds 23 = .ok (.iload_n 2, 1) := by decide +kernel
theorem dX9_holds_24 : decode cX9_holds 24 = .ok (.aload_n 0, 1) := by decide +kernel
theorem dX9_holds_25 : decode cX9_holds 25 = .ok (.iload_n 3, 1) := by decide +kernel
theorem dX9_holds_26 : decode cX9_holds 26 = .ok (.invokevirtual 154, 3) := by decide +kernel
theorem dX9_holds_29 : decode cX9_holds 29 = .ok (.invokevirtual 109, 3) := by decide +kernel
theorem dX9_holds_32 : decode cX9_holds 32 = .ok (.istore 4, 2) := by decide +kernel
theorem dX9_holds_34 : decode cX9_holds 34 = .ok (.iload 4, 2) := by decide +kernel
theorem dX9_holds_36 : decode cX9_holds 36 = .ok (.ifCond .lt 14, 3) := by decide +kernel
theorem dX9_holds_39 : decode cX9_holds 39 = .ok (.iload 4, 2) := by decide +kernel
theorem dX9_holds_41 : decode cX9_holds 41 = .ok (.aload_n 0, 1) := by decide +kernel
theorem dX9_holds_42 : decode cX9_holds 42 = .ok (.getfield 13, 3) := by decide +kernel
theorem dX9_holds_45 : decode cX9_holds 45 = .ok (.iload_n 3, 1) := by decide +kernel
theorem dX9_holds_46 : decode cX9_holds 46 = .ok (.iaload, 1) := by decide +kernel
theorem dX9_holds_47 : decode cX9_holds 47 = .ok (.if_icmp .lt 5, 3) := by decide +kernel
theorem dX9_holds_50 : decode cX9_holds 50 = .ok (.iconst 0, 1) := by decide +kernel
theorem dX9_holds_51 : decode cX9_holds 51 = .ok (.ireturn, 1) := by decide +kernel
theorem dX9_holds_52 : decode cX9_holds 52 = .ok (.aload_n 0, 1) := by decide +kernel
theorem dX9_holds_53 : decode cX9_holds 53 = .ok (.iload_n 3, 1) := by decide +kernel
theorem dX9_holds_54 : decode cX9_holds 54 = .ok (.iload 4, 2) := by decide +kernel
theorem dX9_holds_56 : decode cX9_holds 56 = .ok (.aload_n 0, 1) := by decide +kernel
theorem dX9_holds_57 : decode cX9_holds 57 = .ok (.getfield 77, 3) := by decide +kernel
theorem dX9_holds_60 : decode cX9_holds 60 = .ok (.iload_n 1, 1) := by decide +kernel
theorem dX9_holds_61 : decode cX9_holds 61 = .ok (.iaload, 1) := by decide +kernel
theorem dX9_holds_62 : decode cX9_holds 62 = .ok (.invokevirtual 109, 3) := by decide +kernel
theorem dX9_holds_65 : decode cX9_holds 65 = .ok (.istore 5, 2) := by decide +kernel
theorem dX9_holds_67 : decode cX9_holds 67 = .ok (.iload 5, 2) := by decide +kernel
theorem dX9_holds_69 : decode cX9_holds 69 = .ok (.sipush (-1000), 3) := by decide +kernel
theorem dX9_holds_72 : decode cX9_holds 72 = .ok (.if_icmp .ne 5, 3) := by decide +kernel
theorem dX9_holds_75 : decode cX9_holds 75 = .ok (.iconst 0, 1) := by decide +kernel
theorem dX9_holds_76 : decode cX9_holds 76 = .ok (.ireturn, 1) := by decide +kernel
theorem dX9_holds_77 : decode cX9_holds 77 = .ok (.aload_n 0, 1) := by decide +kernel
theorem dX9_holds_78 : decode cX9_holds 78 = .ok (.getfield 80, 3) := by decide +kernel
theorem dX9_holds_81 : decode cX9_holds 81 = .ok (.iload_n 1, 1) := by decide +kernel
theorem dX9_holds_82 : decode cX9_holds 82 = .ok (.iaload, 1) := by decide +kernel
theorem dX9_holds_83 : decode cX9_holds 83 = .ok (.ifCond .ne 22, 3) := by decide +kernel
theorem dX9_holds_86 : decode cX9_holds 86 = .ok (.iload 5, 2) := by decide +kernel
theorem dX9_holds_88 : decode cX9_holds 88 = .ok (.aload_n 0, 1) := by decide +kernel
theorem dX9_holds_89 : decode cX9_holds 89 = .ok (.getfield 83, 3) := by decide +kernel
theorem dX9_holds_92 : decode cX9_holds 92 = .ok (.iload_n 1, 1) := by decide +kernel
theorem dX9_holds_93 : decode cX9_holds 93 = .ok (.iaload, 1) := by decide +kernel
theorem dX9_holds_94 : decode cX9_holds 94 = .ok (.if_icmp .le 7, 3) := by decide +kernel
theorem dX9_holds_97 : decode cX9_holds 97 = .ok (.iconst 1, 1) := by decide +kernel
theorem dX9_holds_98 : decode cX9_holds 98 = .ok (.goto 52, 3) := by decide +kernel
theorem dX9_holds_101 : decode cX9_holds 101 = .ok (.iconst 0, 1) := by decide +kernel
theorem dX9_holds_102 : decode cX9_holds 102 = .ok (.goto 48, 3) := by decide +kernel
theorem dX9_holds_105 : decode cX9_holds 105 = .ok (.aload_n 0, 1) := by decide +kernel
theorem dX9_holds_106 : decode cX9_holds 106 = .ok (.getfield 80, 3) := by decide +kernel
theorem dX9_holds_109 : decode cX9_holds 109 = .ok (.iload_n 1, 1) := by decide +kernel
theorem dX9_holds_110 : decode cX9_holds 110 = .ok (.iaload, 1) := by decide +kernel
theorem dX9_holds_111 : decode cX9_holds 111 = .ok (.iconst 1, 1) := by decide +kernel
theorem dX9_holds_112 : decode cX9_holds 112 = .ok (.if_icmp .ne 22, 3) := by decide +kernel
theorem dX9_holds_115 : decode cX9_holds 115 = .ok (.iload 5, 2) := by decide +kernel
theorem dX9_holds_117 : decode cX9_holds 117 = .ok (.aload_n 0, 1) := by decide +kernel
theorem dX9_holds_118 : decode cX9_holds 118 = .ok (.getfield 83, 3) := by decide +kernel
theorem dX9_holds_121 : decode cX9_holds 121 = .ok (.iload_n 1, 1) := by decide +kernel
theorem dX9_holds_122 : decode cX9_holds 122 = .ok (.iaload, 1) := by decide +kernel
theorem dX9_holds_123 : decode cX9_holds 123 = .ok (.if_icmp .ge 7, 3) := by decide +kernel
theorem dX9_holds_126 : decode cX9_holds 126 = .ok (.iconst 1, 1) := by decide +kernel
theorem dX9_holds_127 : decode cX9_holds 127 = .ok (.goto 23, 3) := by decide +kernel
theorem dX9_holds_130 : decode cX9_holds 130 = .ok (.iconst 0, 1) := by decide +kernel
theorem dX9_holds_131 : decode cX9_holds 131 = .ok (.goto 19, 3) := by decide +kernel
theorem dX9_holds_134 : decode cX9_holds 134 = .ok (.iload 5, 2) := by decide +kernel
theorem dX9_holds_136 : decode cX9_holds 136 = .ok (.aload_n 0, 1) := by decide +kernel
theorem dX9_holds_137 : decode cX9_holds 137 = .ok (.getfield 83, 3) := by decide +kernel
theorem dX9_holds_140 : decode cX9_holds 140 = .ok (.iload_n 1, 1) := by decide +kernel
theorem dX9_holds_141 : decode cX9_holds 141 = .ok (.iaload, 1) := by decide +kernel
theorem dX9_holds_142 : decode cX9_holds 142 = .ok (.if_icmp .ne 7, 3) := by decide +kernel
theorem dX9_holds_145 : decode cX9_holds 145 = .ok (.iconst 1, 1) := by decide +kernel
theorem dX9_holds_146 : decode cX9_holds 146 = .ok (.goto 4, 3) := by decide +kernel
theorem dX9_holds_149 : decode cX9_holds 149 = .ok (.iconst 0, 1) := by decide +kernel
theorem dX9_holds_150 : decode cX9_holds 150 = .ok (.ireturn, 1) := by decide +kernel
theorem dX9_isFound_0 : decode cX9_isFound 0 = .ok (.iconst 1, 1) := by decide +kernel
theorem dX9_isFound_1 : decode cX9_isFound 1 = .ok (.istore_n 3, 1) := by decide +kernel
theorem dX9_isFound_2 : decode cX9_isFound 2 = .ok (.iconst 0, 1) := by decide +kernel
theorem dX9_isFound_3 : decode cX9_isFound 3 = .ok (.istore 4, 2) := by decide +kernel
theorem dX9_isFound_5 : decode cX9_isFound 5 = .ok (.iload 4, 2) := by decide +kernel
theorem dX9_isFound_7 : decode cX9_isFound 7 = .ok (.aload_n 0, 1) := by decide +kernel
theorem dX9_isFound_8 : decode cX9_isFound 8 = .ok (.getfield 132, 3) := by decide +kernel
theorem dX9_isFound_11 : decode cX9_isFound 11 = .ok (.if_icmp .ge 39, 3) := by decide +kernel
theorem dX9_isFound_14 : decode cX9_isFound 14 = .ok (.iload_n 3, 1) := by decide +kernel
theorem dX9_isFound_15 : decode cX9_isFound 15 = .ok (.ifCond .eq 27, 3) := by decide +kernel
theorem dX9_isFound_18 : decode cX9_isFound 18 = .ok (.iload_n 2, 1) := by decide +kernel
theorem dX9_isFound_19 : decode cX9_isFound 19 = .ok (.iload 4, 2) := by decide +kernel
theorem dX9_isFound_21 : decode cX9_isFound 21 = .ok (.ishr, 1) := by decide +kernel
theorem dX9_isFound_22 : decode cX9_isFound 22 = .ok (.iconst 1, 1) := by decide +kernel
theorem dX9_isFound_23 : decode cX9_isFound 23 = .ok (.iand, 1) := by decide +kernel
theorem dX9_isFound_24 : decode cX9_isFound 24 = .ok (.iconst 1, 1) := by decide +kernel
theorem dX9_isFound_25 : decode cX9_isFound 25 = .ok (.if_icmp .eq 13, 3) := by decide +kernel
theorem dX9_isFound_28 : decode cX9_isFound 28 = .ok (.aload_n 0, 1) := by decide +kernel
theorem dX9_isFound_29 : decode cX9_isFound 29 = .ok (.iload 4, 2) := by decide +kernel
theorem dX9_isFound_31 : decode cX9_isFound 31 = .ok (.iload_n 1, 1) := by decide +kernel
theorem dX9_isFound_32 : decode cX9_isFound 32 = .ok (.invokevirtual 170, 3) := by decide +kernel
theorem dX9_isFound_35 : decode cX9_isFound 35 = .ok (.ifCond .eq 7, 3) := by decide +kernel
theorem dX9_isFound_38 : decode cX9_isFound 38 = .ok (.iconst 1, 1) := by decide +kernel
theorem dX9_isFound_39 : decode cX9_isFound 39 = .ok (.goto 4, 3) := by decide +kernel
theorem dX9_isFound_42 : decode cX9_isFound 42 = .ok (.iconst 0, 1) := by decide +kernel
theorem dX9_isFound_43 : decode cX9_isFound 43 = .ok (.istore_n 3, 1) := by decide +kernel
theorem dX9_isFound_44 : decode cX9_isFound 44 = .ok (.iinc 4 1, 3) := by decide +kernel
theorem dX9_isFound_47 : decode cX9_isFound 47 = .ok (.goto (-42), 3) := by decide +kernel
theorem dX9_isFound_50 : decode cX9_isFound 50 = .ok (.iload_n 3, 1) := by decide +kernel
theorem dX9_isFound_51 : decode cX9_isFound 51 = .ok (.ireturn, 1) := by decide +kernel
theorem dX9_foundMany_0 : decode cX9_foundMany 0 = .ok (.iconst 0, 1) := by decide +kernel
theorem dX9_foundMany_1 : decode cX9_foundMany 1 = .ok (.istore_n 2, 1) := by decide +kernel
theorem dX9_foundMany_2 : decode cX9_foundMany 2 = .ok (.iconst 0, 1) := by decide +kernel
theorem dX9_foundMany_3 : decode cX9_foundMany 3 = .ok (.istore_n 3, 1) := by decide +kernel
theorem dX9_foundMany_4 : decode cX9_foundMany 4 = .ok (.iload_n 3, 1) := by decide +kernel
theorem dX9_foundMany_5 : decode cX9_foundMany 5 = .ok (.aload_n 0, 1) := by decide +kernel
theorem dX9_foundMany_6 : decode cX9_foundMany 6 = .ok (.getfield 13, 3) := by decide +kernel
theorem dX9_foundMany_9 : decode cX9_foundMany 9 = .ok (.aload_n 0, 1) := by decide +kernel
theorem dX9_foundMany_10 : decode cX9_foundMany 10 = .ok (.getfield 138, 3) := by decide +kernel
theorem dX9_foundMany_13 : decode cX9_foundMany 13 = .ok (.iaload, 1) := by decide +kernel
theorem dX9_foundMany_14 : decode cX9_foundMany 14 = .ok (.if_icmp .ge 26, 3) := by decide +kernel
theorem dX9_foundMany_17 : decode cX9_foundMany 17 = .ok (.iload_n 2, 1) := by decide +kernel
theorem dX9_foundMany_18 : decode cX9_foundMany 18 = .ok (.aload_n 0, 1) := by decide +kernel
theorem dX9_foundMany_19 : decode cX9_foundMany 19 = .ok (.iload_n 3, 1) := by decide +kernel
theorem dX9_foundMany_20 : decode cX9_foundMany 20 = .ok (.iload_n 1, 1) := by decide +kernel
theorem dX9_foundMany_21 : decode cX9_foundMany 21 = .ok (.invokevirtual 173, 3) := by decide +kernel
theorem dX9_foundMany_24 : decode cX9_foundMany 24 = .ok (.ifCond .eq 7, 3) := by decide +kernel
theorem dX9_foundMany_27 : decode cX9_foundMany 27 = .ok (.iconst 1, 1) := by decide +kernel
theorem dX9_foundMany_28 : decode cX9_foundMany 28 = .ok (.goto 4, 3) := by decide +kernel
theorem dX9_foundMany_31 : decode cX9_foundMany 31 = .ok (.iconst 0, 1) := by decide +kernel
theorem dX9_foundMany_32 : decode cX9_foundMany 32 = .ok (.iadd, 1) := by decide +kernel
theorem dX9_foundMany_33 : decode cX9_foundMany 33 = .ok (.istore_n 2, 1) := by decide +kernel
theorem dX9_foundMany_34 : decode cX9_foundMany 34 = .ok (.iinc 3 1, 3) := by decide +kernel
theorem dX9_foundMany_37 : decode cX9_foundMany 37 = .ok (.goto (-33), 3) := by decide +kernel
theorem dX9_foundMany_40 : decode cX9_foundMany 40 = .ok (.iload_n 2, 1) := by decide +kernel
theorem dX9_foundMany_41 : decode cX9_foundMany 41 = .ok (.ireturn, 1) := by decide +kernel
theorem dX9_answerOf_0 : decode cX9_answerOf 0 = .ok (.aload_n 0, 1) := by decide +kernel
theorem dX9_answerOf_1 : decode cX9_answerOf 1 = .ok (.getfield 135, 3) := by decide +kernel
theorem dX9_answerOf_4 : decode cX9_answerOf 4 = .ok (.ifCond .ne 9, 3) := by decide +kernel
theorem dX9_answerOf_7 : decode cX9_answerOf 7 = .ok (.aload_n 0, 1) := by decide +kernel
theorem dX9_answerOf_8 : decode cX9_answerOf 8 = .ok (.iconst 0, 1) := by decide +kernel
theorem dX9_answerOf_9 : decode cX9_answerOf 9 = .ok (.invokevirtual 176, 3) := by decide +kernel
theorem dX9_answerOf_12 : decode cX9_answerOf 12 = .ok (.ireturn, 1) := by decide +kernel
theorem dX9_answerOf_13 : decode cX9_answerOf 13 = .ok (.iconst 0, 1) := by decide +kernel
theorem dX9_answerOf_14 : decode cX9_answerOf 14 = .ok (.istore_n 1, 1) := by decide +kernel
theorem dX9_answerOf_15 : decode cX9_answerOf 15 = .ok (.ldc 113, 2) := by decide +kernel
theorem dX9_answerOf_17 : decode cX9_answerOf 17 = .ok (.istore_n 2, 1) := by decide +kernel
theorem dX9_answerOf_18 : decode cX9_answerOf 18 = .ok (.ldc 113, 2) := by decide +kernel
theorem dX9_answerOf_20 : decode cX9_answerOf 20 = .ok (.istore_n 3, 1) := by decide +kernel
theorem dX9_answerOf_21 : decode cX9_answerOf 21 = .ok (.iconst 0, 1) := by decide +kernel
theorem dX9_answerOf_22 : decode cX9_answerOf 22 = .ok (.istore 4, 2) := by decide +kernel
theorem dX9_answerOf_24 : decode cX9_answerOf 24 = .ok (.iload 4, 2) := by decide +kernel
theorem dX9_answerOf_26 : decode cX9_answerOf 26 = .ok (.aload_n 0, 1) := by decide +kernel
theorem dX9_answerOf_27 : decode cX9_answerOf 27 = .ok (.getfield 13, 3) := by decide +kernel
theorem dX9_answerOf_30 : decode cX9_answerOf 30 = .ok (.aload_n 0, 1) := by decide +kernel
theorem dX9_answerOf_31 : decode cX9_answerOf 31 = .ok (.getfield 138, 3) := by decide +kernel
theorem dX9_answerOf_34 : decode cX9_answerOf 34 = .ok (.iaload, 1) := by decide +kernel
theorem dX9_answerOf_35 : decode cX9_answerOf 35 = .ok (.if_icmp .ge 86, 3) := by decide +kernel
theorem dX9_answerOf_38 : decode cX9_answerOf 38 = .ok (.aload_n 0, 1) := by decide +kernel
theorem dX9_answerOf_39 : decode cX9_answerOf 39 = .ok (.aload_n 0, 1) := by decide +kernel
theorem dX9_answerOf_40 : decode cX9_answerOf 40 = .ok (.getfield 138, 3) := by decide +kernel
theorem dX9_answerOf_43 : decode cX9_answerOf 43 = .ok (.iload 4, 2) := by decide +kernel
theorem dX9_answerOf_45 : decode cX9_answerOf 45 = .ok (.aload_n 0, 1) := by decide +kernel
theorem dX9_answerOf_46 : decode cX9_answerOf 46 = .ok (.getfield 141, 3) := by decide +kernel
theorem dX9_answerOf_49 : decode cX9_answerOf 49 = .ok (.invokevirtual 109, 3) := by decide +kernel
theorem dX9_answerOf_52 : decode cX9_answerOf 52 = .ok (.istore 5, 2) := by decide +kernel
theorem dX9_answerOf_54 : decode cX9_answerOf 54 = .ok (.aload_n 0, 1) := by decide +kernel
theorem dX9_answerOf_55 : decode cX9_answerOf 55 = .ok (.iload 4, 2) := by decide +kernel
theorem dX9_answerOf_57 : decode cX9_answerOf 57 = .ok (.iconst 0, 1) := by decide +kernel
theorem dX9_answerOf_58 : decode cX9_answerOf 58 = .ok (.invokevirtual 173, 3) := by decide +kernel
theorem dX9_answerOf_61 : decode cX9_answerOf 61 = .ok (.ifCond .eq 54, 3) := by decide +kernel
theorem dX9_answerOf_64 : decode cX9_answerOf 64 = .ok (.iload 5, 2) := by decide +kernel
theorem dX9_answerOf_66 : decode cX9_answerOf 66 = .ok (.sipush (-1000), 3) := by decide +kernel
theorem dX9_answerOf_69 : decode cX9_answerOf 69 = .ok (.if_icmp .eq 46, 3) := by decide +kernel
theorem dX9_answerOf_72 : decode cX9_answerOf 72 = .ok (.iload_n 1, 1) := by decide +kernel
theorem dX9_answerOf_73 : decode cX9_answerOf 73 = .ok (.iload 5, 2) := by decide +kernel
theorem dX9_answerOf_75 : decode cX9_answerOf 75 = .ok (.iadd, 1) := by decide +kernel
theorem dX9_answerOf_76 : decode cX9_answerOf 76 = .ok (.istore_n 1, 1) := by decide +kernel
theorem dX9_answerOf_77 : decode cX9_answerOf 77 = .ok (.iload_n 2, 1) := by decide +kernel
theorem dX9_answerOf_78 : decode cX9_answerOf 78 = .ok (.ldc 113, 2) := by decide +kernel
theorem dX9_answerOf_80 : decode cX9_answerOf 80 = .ok (.if_icmp .eq 9, 3) := by decide +kernel
theorem dX9_answerOf_83 : decode cX9_answerOf 83 = .ok (.iload 5, 2) := by decide +kernel
theorem dX9_answerOf_85 : decode cX9_answerOf 85 = .ok (.iload_n 2, 1) := by decide +kernel
theorem dX9_answerOf_86 : decode cX9_answerOf 86 = .ok (.if_icmp .le 8, 3) := by decide +kernel
theorem dX9_answerOf_89 : decode cX9_answerOf 89 = .ok (.iload 5, 2) := by decide +kernel
theorem dX9_answerOf_91 : decode cX9_answerOf 91 = .ok (.goto 4, 3) := by decide +kernel
theorem dX9_answerOf_94 : decode cX9_answerOf 94 = .ok (.iload_n 2, 1) := by decide +kernel
theorem dX9_answerOf_95 : decode cX9_answerOf 95 = .ok (.istore_n 2, 1) := by decide +kernel
theorem dX9_answerOf_96 : decode cX9_answerOf 96 = .ok (.iload_n 3, 1) := by decide +kernel
theorem dX9_answerOf_97 : decode cX9_answerOf 97 = .ok (.ldc 113, 2) := by decide +kernel
theorem dX9_answerOf_99 : decode cX9_answerOf 99 = .ok (.if_icmp .eq 9, 3) := by decide +kernel
theorem dX9_answerOf_102 : decode cX9_answerOf 102 = .ok (.iload 5, 2) := by decide +kernel
theorem dX9_answerOf_104 : decode cX9_answerOf 104 = .ok (.iload_n 3, 1) := by decide +kernel
theorem dX9_answerOf_105 : decode cX9_answerOf 105 = .ok (.if_icmp .ge 8, 3) := by decide +kernel
theorem dX9_answerOf_108 : decode cX9_answerOf 108 = .ok (.iload 5, 2) := by decide +kernel
theorem dX9_answerOf_110 : decode cX9_answerOf 110 = .ok (.goto 4, 3) := by decide +kernel
theorem dX9_answerOf_113 : decode cX9_answerOf 113 = .ok (.iload_n 3, 1) := by decide +kernel
theorem dX9_answerOf_114 : decode cX9_answerOf 114 = .ok (.istore_n 3, 1) := by decide +kernel
theorem dX9_answerOf_115 : decode cX9_answerOf 115 = .ok (.iinc 4 1, 3) := by decide +kernel
theorem dX9_answerOf_118 : decode cX9_answerOf 118 = .ok (.goto (-94), 3) := by decide +kernel
theorem dX9_answerOf_121 : decode cX9_answerOf 121 = .ok (.aload_n 0, 1) := by decide +kernel
theorem dX9_answerOf_122 : decode cX9_answerOf 122 = .ok (.getfield 135, 3) := by decide +kernel
theorem dX9_answerOf_125 : decode cX9_answerOf 125 = .ok (.iconst 1, 1) := by decide +kernel
theorem dX9_answerOf_126 : decode cX9_answerOf 126 = .ok (.if_icmp .ne 7, 3) := by decide +kernel
theorem dX9_answerOf_129 : decode cX9_answerOf 129 = .ok (.iload_n 1, 1) := by decide +kernel
theorem dX9_answerOf_130 : decode cX9_answerOf 130 = .ok (.goto 16, 3) := by decide +kernel
theorem dX9_answerOf_133 : decode cX9_answerOf 133 = .ok (.aload_n 0, 1) := by decide +kernel
theorem dX9_answerOf_134 : decode cX9_answerOf 134 = .ok (.getfield 135, 3) := by decide +kernel
theorem dX9_answerOf_137 : decode cX9_answerOf 137 = .ok (.iconst 2, 1) := by decide +kernel
theorem dX9_answerOf_138 : decode cX9_answerOf 138 = .ok (.if_icmp .ne 7, 3) := by decide +kernel
theorem dX9_answerOf_141 : decode cX9_answerOf 141 = .ok (.iload_n 2, 1) := by decide +kernel
theorem dX9_answerOf_142 : decode cX9_answerOf 142 = .ok (.goto 4, 3) := by decide +kernel
theorem dX9_answerOf_145 : decode cX9_answerOf 145 = .ok (.iload_n 3, 1) := by decide +kernel
theorem dX9_answerOf_146 : decode cX9_answerOf 146 = .ok (.ireturn, 1) := by decide +kernel
theorem dX9_reading_0 : decode cX9_reading 0 = .ok (.aload_n 0, 1) := by decide +kernel
theorem dX9_reading_1 : decode cX9_reading 1 = .ok (.iload_n 1, 1) := by decide +kernel
theorem dX9_reading_2 : decode cX9_reading 2 = .ok (.invokevirtual 179, 3) := by decide +kernel
theorem dX9_reading_5 : decode cX9_reading 5 = .ok (.ifCond .ne 6, 3) := by decide +kernel
theorem dX9_reading_8 : decode cX9_reading 8 = .ok (.bipush (-9), 2) := by decide +kernel
theorem dX9_reading_10 : decode cX9_reading 10 = .ok (.ireturn, 1) := by decide +kernel
theorem dX9_reading_11 : decode cX9_reading 11 = .ok (.iload_n 2, 1) := by decide +kernel
theorem dX9_reading_12 : decode cX9_reading 12 = .ok (.tableswitch 71 0 5 #[40, 45, 50, 55, 60, 65], 40) := by decide +kernel
theorem dX9_reading_52 : decode cX9_reading 52 = .ok (.aload_n 0, 1) := by decide +kernel
theorem dX9_reading_53 : decode cX9_reading 53 = .ok (.getfield 144, 3) := by decide +kernel
theorem dX9_reading_56 : decode cX9_reading 56 = .ok (.ireturn, 1) := by decide +kernel
theorem dX9_reading_57 : decode cX9_reading 57 = .ok (.aload_n 0, 1) := by decide +kernel
theorem dX9_reading_58 : decode cX9_reading 58 = .ok (.getfield 135, 3) := by decide +kernel
theorem dX9_reading_61 : decode cX9_reading 61 = .ok (.ireturn, 1) := by decide +kernel
theorem dX9_reading_62 : decode cX9_reading 62 = .ok (.aload_n 0, 1) := by decide +kernel
theorem dX9_reading_63 : decode cX9_reading 63 = .ok (.getfield 138, 3) := by decide +kernel
theorem dX9_reading_66 : decode cX9_reading 66 = .ok (.ireturn, 1) := by decide +kernel
theorem dX9_reading_67 : decode cX9_reading 67 = .ok (.aload_n 0, 1) := by decide +kernel
theorem dX9_reading_68 : decode cX9_reading 68 = .ok (.getfield 141, 3) := by decide +kernel
theorem dX9_reading_71 : decode cX9_reading 71 = .ok (.ireturn, 1) := by decide +kernel
theorem dX9_reading_72 : decode cX9_reading 72 = .ok (.aload_n 0, 1) := by decide +kernel
theorem dX9_reading_73 : decode cX9_reading 73 = .ok (.getfield 132, 3) := by decide +kernel
theorem dX9_reading_76 : decode cX9_reading 76 = .ok (.ireturn, 1) := by decide +kernel
theorem dX9_reading_77 : decode cX9_reading 77 = .ok (.aload_n 0, 1) := by decide +kernel
theorem dX9_reading_78 : decode cX9_reading 78 = .ok (.iconst 0, 1) := by decide +kernel
theorem dX9_reading_79 : decode cX9_reading 79 = .ok (.invokevirtual 176, 3) := by decide +kernel
theorem dX9_reading_82 : decode cX9_reading 82 = .ok (.ireturn, 1) := by decide +kernel
theorem dX9_reading_83 : decode cX9_reading 83 = .ok (.iload_n 2, 1) := by decide +kernel
theorem dX9_reading_84 : decode cX9_reading 84 = .ok (.bipush 10, 2) := by decide +kernel
theorem dX9_reading_86 : decode cX9_reading 86 = .ok (.if_icmp .lt 14, 3) := by decide +kernel
theorem dX9_reading_89 : decode cX9_reading 89 = .ok (.iload_n 2, 1) := by decide +kernel
theorem dX9_reading_90 : decode cX9_reading 90 = .ok (.bipush 10, 2) := by decide +kernel
theorem dX9_reading_92 : decode cX9_reading 92 = .ok (.aload_n 0, 1) := by decide +kernel
theorem dX9_reading_93 : decode cX9_reading 93 = .ok (.getfield 121, 3) := by decide +kernel
theorem dX9_reading_96 : decode cX9_reading 96 = .ok (.iadd, 1) := by decide +kernel
theorem dX9_reading_97 : decode cX9_reading 97 = .ok (.if_icmp .lt 8, 3) := by decide +kernel
theorem dX9_reading_100 : decode cX9_reading 100 = .ok (.bipush (-9), 2) := by decide +kernel
theorem dX9_reading_102 : decode cX9_reading 102 = .ok (.goto 28, 3) := by decide +kernel
theorem dX9_reading_105 : decode cX9_reading 105 = .ok (.aload_n 0, 1) := by decide +kernel
theorem dX9_reading_106 : decode cX9_reading 106 = .ok (.getfield 43, 3) := by decide +kernel
theorem dX9_reading_109 : decode cX9_reading 109 = .ok (.iload_n 2, 1) := by decide +kernel
theorem dX9_reading_110 : decode cX9_reading 110 = .ok (.bipush 10, 2) := by decide +kernel
theorem dX9_reading_112 : decode cX9_reading 112 = .ok (.isub, 1) := by decide +kernel
theorem dX9_reading_113 : decode cX9_reading 113 = .ok (.baload, 1) := by decide +kernel
theorem dX9_reading_114 : decode cX9_reading 114 = .ok (.ifCond .eq 7, 3) := by decide +kernel
theorem dX9_reading_117 : decode cX9_reading 117 = .ok (.iconst (-1), 1) := by decide +kernel
theorem dX9_reading_118 : decode cX9_reading 118 = .ok (.goto 12, 3) := by decide +kernel
theorem dX9_reading_121 : decode cX9_reading 121 = .ok (.aload_n 0, 1) := by decide +kernel
theorem dX9_reading_122 : decode cX9_reading 122 = .ok (.getfield 71, 3) := by decide +kernel
theorem dX9_reading_125 : decode cX9_reading 125 = .ok (.iload_n 2, 1) := by decide +kernel
theorem dX9_reading_126 : decode cX9_reading 126 = .ok (.bipush 10, 2) := by decide +kernel
theorem dX9_reading_128 : decode cX9_reading 128 = .ok (.isub, 1) := by decide +kernel
theorem dX9_reading_129 : decode cX9_reading 129 = .ok (.iaload, 1) := by decide +kernel
theorem dX9_reading_130 : decode cX9_reading 130 = .ok (.ireturn, 1) := by decide +kernel
theorem dX9_test_0 : decode cX9_test 0 = .ok (.aload_n 0, 1) := by decide +kernel
theorem dX9_test_1 : decode cX9_test 1 = .ok (.iload_n 1, 1) := by decide +kernel
theorem dX9_test_2 : decode cX9_test 2 = .ok (.invokevirtual 179, 3) := by decide +kernel
theorem dX9_test_5 : decode cX9_test 5 = .ok (.ifCond .eq 24, 3) := by decide +kernel
theorem dX9_test_8 : decode cX9_test 8 = .ok (.iload_n 2, 1) := by decide +kernel
theorem dX9_test_9 : decode cX9_test 9 = .ok (.ifCond .lt 20, 3) := by decide +kernel
theorem dX9_test_12 : decode cX9_test 12 = .ok (.iload_n 2, 1) := by decide +kernel
theorem dX9_test_13 : decode cX9_test 13 = .ok (.aload_n 0, 1) := by decide +kernel
theorem dX9_test_14 : decode cX9_test 14 = .ok (.getfield 132, 3) := by decide +kernel
theorem dX9_test_17 : decode cX9_test 17 = .ok (.if_icmp .ge 12, 3) := by decide +kernel
theorem dX9_test_20 : decode cX9_test 20 = .ok (.iload_n 3, 1) := by decide +kernel
theorem dX9_test_21 : decode cX9_test 21 = .ok (.iconst 0, 1) := by decide +kernel
theorem dX9_test_22 : decode cX9_test 22 = .ok (.iconst 3, 1) := by decide +kernel
theorem dX9_test_23 : decode cX9_test 23 = .ok (.invokestatic 101, 3) := by decide +kernel
theorem dX9_test_26 : decode cX9_test 26 = .ok (.ifCond .ne 6, 3) := by decide +kernel
theorem dX9_test_29 : decode cX9_test 29 = .ok (.ldc 108, 2) := by decide +kernel
theorem dX9_test_31 : decode cX9_test 31 = .ok (.ireturn, 1) := by decide +kernel
theorem dX9_test_32 : decode cX9_test 32 = .ok (.iload_n 3, 1) := by decide +kernel
theorem dX9_test_33 : decode cX9_test 33 = .ok (.ifCond .ne 12, 3) := by decide +kernel
theorem dX9_test_36 : decode cX9_test 36 = .ok (.aload_n 0, 1) := by decide +kernel
theorem dX9_test_37 : decode cX9_test 37 = .ok (.getfield 74, 3) := by decide +kernel
theorem dX9_test_40 : decode cX9_test 40 = .ok (.iload_n 2, 1) := by decide +kernel
theorem dX9_test_41 : decode cX9_test 41 = .ok (.iaload, 1) := by decide +kernel
theorem dX9_test_42 : decode cX9_test 42 = .ok (.goto 37, 3) := by decide +kernel
theorem dX9_test_45 : decode cX9_test 45 = .ok (.iload_n 3, 1) := by decide +kernel
theorem dX9_test_46 : decode cX9_test 46 = .ok (.iconst 1, 1) := by decide +kernel
theorem dX9_test_47 : decode cX9_test 47 = .ok (.if_icmp .ne 12, 3) := by decide +kernel
theorem dX9_test_50 : decode cX9_test 50 = .ok (.aload_n 0, 1) := by decide +kernel
theorem dX9_test_51 : decode cX9_test 51 = .ok (.getfield 77, 3) := by decide +kernel
theorem dX9_test_54 : decode cX9_test 54 = .ok (.iload_n 2, 1) := by decide +kernel
theorem dX9_test_55 : decode cX9_test 55 = .ok (.iaload, 1) := by decide +kernel
theorem dX9_test_56 : decode cX9_test 56 = .ok (.goto 23, 3) := by decide +kernel
theorem dX9_test_59 : decode cX9_test 59 = .ok (.iload_n 3, 1) := by decide +kernel
theorem dX9_test_60 : decode cX9_test 60 = .ok (.iconst 2, 1) := by decide +kernel
theorem dX9_test_61 : decode cX9_test 61 = .ok (.if_icmp .ne 12, 3) := by decide +kernel
theorem dX9_test_64 : decode cX9_test 64 = .ok (.aload_n 0, 1) := by decide +kernel
theorem dX9_test_65 : decode cX9_test 65 = .ok (.getfield 80, 3) := by decide +kernel
theorem dX9_test_68 : decode cX9_test 68 = .ok (.iload_n 2, 1) := by decide +kernel
theorem dX9_test_69 : decode cX9_test 69 = .ok (.iaload, 1) := by decide +kernel
theorem dX9_test_70 : decode cX9_test 70 = .ok (.goto 9, 3) := by decide +kernel
theorem dX9_test_73 : decode cX9_test 73 = .ok (.aload_n 0, 1) := by decide +kernel
theorem dX9_test_74 : decode cX9_test 74 = .ok (.getfield 83, 3) := by decide +kernel
theorem dX9_test_77 : decode cX9_test 77 = .ok (.iload_n 2, 1) := by decide +kernel
theorem dX9_test_78 : decode cX9_test 78 = .ok (.iaload, 1) := by decide +kernel
theorem dX9_test_79 : decode cX9_test 79 = .ok (.ireturn, 1) := by decide +kernel
theorem dX9_answer_0 : decode cX9_answer 0 = .ok (.aload_n 0, 1) := by decide +kernel
theorem dX9_answer_1 : decode cX9_answer 1 = .ok (.iload_n 1, 1) := by decide +kernel
theorem dX9_answer_2 : decode cX9_answer 2 = .ok (.invokevirtual 179, 3) := by decide +kernel
theorem dX9_answer_5 : decode cX9_answer 5 = .ok (.ifCond .eq 10, 3) := by decide +kernel
theorem dX9_answer_8 : decode cX9_answer 8 = .ok (.aload_n 0, 1) := by decide +kernel
theorem dX9_answer_9 : decode cX9_answer 9 = .ok (.invokevirtual 182, 3) := by decide +kernel
theorem dX9_answer_12 : decode cX9_answer 12 = .ok (.goto 5, 3) := by decide +kernel
theorem dX9_answer_15 : decode cX9_answer 15 = .ok (.ldc 108, 2) := by decide +kernel
theorem dX9_answer_17 : decode cX9_answer 17 = .ok (.ireturn, 1) := by decide +kernel
theorem dX9_found_0 : decode cX9_found 0 = .ok (.aload_n 0, 1) := by decide +kernel
theorem dX9_found_1 : decode cX9_found 1 = .ok (.iload_n 1, 1) := by decide +kernel
theorem dX9_found_2 : decode cX9_found 2 = .ok (.invokevirtual 179, 3) := by decide +kernel
theorem dX9_found_5 : decode cX9_found 5 = .ok (.ifCond .eq 7, 3) := by decide +kernel
theorem dX9_found_8 : decode cX9_found 8 = .ok (.iload_n 2, 1) := by decide +kernel
theorem dX9_found_9 : decode cX9_found 9 = .ok (.ifCond .ge 5, 3) := by decide +kernel
theorem dX9_found_12 : decode cX9_found 12 = .ok (.iconst (-1), 1) := by decide +kernel
theorem dX9_found_13 : decode cX9_found 13 = .ok (.ireturn, 1) := by decide +kernel
theorem dX9_found_14 : decode cX9_found 14 = .ok (.iload_n 2, 1) := by decide +kernel
theorem dX9_found_15 : decode cX9_found 15 = .ok (.istore_n 3, 1) := by decide +kernel
theorem dX9_found_16 : decode cX9_found 16 = .ok (.iconst 0, 1) := by decide +kernel
theorem dX9_found_17 : decode cX9_found 17 = .ok (.istore 4, 2) := by decide +kernel
theorem dX9_found_19 : decode cX9_found 19 = .ok (.iload 4, 2) := by decide +kernel
theorem dX9_found_21 : decode cX9_found 21 = .ok (.aload_n 0, 1) := by decide +kernel
theorem dX9_found_22 : decode cX9_found 22 = .ok (.getfield 13, 3) := by decide +kernel
theorem dX9_found_25 : decode cX9_found 25 = .ok (.aload_n 0, 1) := by decide +kernel
theorem dX9_found_26 : decode cX9_found 26 = .ok (.getfield 138, 3) := by decide +kernel
theorem dX9_found_29 : decode cX9_found 29 = .ok (.iaload, 1) := by decide +kernel
theorem dX9_found_30 : decode cX9_found 30 = .ok (.if_icmp .ge 29, 3) := by decide +kernel
theorem dX9_found_33 : decode cX9_found 33 = .ok (.aload_n 0, 1) := by decide +kernel
theorem dX9_found_34 : decode cX9_found 34 = .ok (.iload 4, 2) := by decide +kernel
theorem dX9_found_36 : decode cX9_found 36 = .ok (.iconst 0, 1) := by decide +kernel
theorem dX9_found_37 : decode cX9_found 37 = .ok (.invokevirtual 173, 3) := by decide +kernel
theorem dX9_found_40 : decode cX9_found 40 = .ok (.ifCond .eq 13, 3) := by decide +kernel
theorem dX9_found_43 : decode cX9_found 43 = .ok (.iload_n 3, 1) := by decide +kernel
theorem dX9_found_44 : decode cX9_found 44 = .ok (.ifCond .ne 6, 3) := by decide +kernel
theorem dX9_found_47 : decode cX9_found 47 = .ok (.iload 4, 2) := by decide +kernel
theorem dX9_found_49 : decode cX9_found 49 = .ok (.ireturn, 1) := by decide +kernel
theorem dX9_found_50 : decode cX9_found 50 = .ok (.iinc 3 (-1), 3) := by decide +kernel
theorem dX9_found_53 : decode cX9_found 53 = .ok (.iinc 4 1, 3) := by decide +kernel
theorem dX9_found_56 : decode cX9_found 56 = .ok (.goto (-37), 3) := by decide +kernel
theorem dX9_found_59 : decode cX9_found 59 = .ok (.iconst (-1), 1) := by decide +kernel
theorem dX9_found_60 : decode cX9_found 60 = .ok (.ireturn, 1) := by decide +kernel
theorem dX9_findNear_0 : decode cX9_findNear 0 = .ok (.aload_n 0, 1) := by decide +kernel
theorem dX9_findNear_1 : decode cX9_findNear 1 = .ok (.invokevirtual 167, 3) := by decide +kernel
theorem dX9_findNear_4 : decode cX9_findNear 4 = .ok (.iconst 0, 1) := by decide +kernel
theorem dX9_findNear_5 : decode cX9_findNear 5 = .ok (.istore_n 2, 1) := by decide +kernel
theorem dX9_findNear_6 : decode cX9_findNear 6 = .ok (.iload_n 2, 1) := by decide +kernel
theorem dX9_findNear_7 : decode cX9_findNear 7 = .ok (.aload_n 0, 1) := by decide +kernel
theorem dX9_findNear_8 : decode cX9_findNear 8 = .ok (.getfield 157, 3) := by decide +kernel
theorem dX9_findNear_11 : decode cX9_findNear 11 = .ok (.if_icmp .ge 26, 3) := by decide +kernel
theorem dX9_findNear_14 : decode cX9_findNear 14 = .ok (.aload_n 0, 1) := by decide +kernel
theorem dX9_findNear_15 : decode cX9_findNear 15 = .ok (.getfield 50, 3) := by decide +kernel
theorem dX9_findNear_18 : decode cX9_findNear 18 = .ok (.iload_n 2, 1) := by decide +kernel
theorem dX9_findNear_19 : decode cX9_findNear 19 = .ok (.iaload, 1) := by decide +kernel
theorem dX9_findNear_20 : decode cX9_findNear 20 = .ok (.aload_n 0, 1) := by decide +kernel
theorem dX9_findNear_21 : decode cX9_findNear 21 = .ok (.getfield 50, 3) := by decide +kernel
theorem dX9_findNear_24 : decode cX9_findNear 24 = .ok (.iconst 0, 1) := by decide +kernel
theorem dX9_findNear_25 : decode cX9_findNear 25 = .ok (.iaload, 1) := by decide +kernel
theorem dX9_findNear_26 : decode cX9_findNear 26 = .ok (.iload_n 1, 1) := by decide +kernel
theorem dX9_findNear_27 : decode cX9_findNear 27 = .ok (.iadd, 1) := by decide +kernel
theorem dX9_findNear_28 : decode cX9_findNear 28 = .ok (.if_icmp .gt 9, 3) := by decide +kernel
theorem dX9_findNear_31 : decode cX9_findNear 31 = .ok (.iinc 2 1, 3) := by decide +kernel
theorem dX9_findNear_34 : decode cX9_findNear 34 = .ok (.goto (-28), 3) := by decide +kernel
theorem dX9_findNear_37 : decode cX9_findNear 37 = .ok (.iconst 0, 1) := by decide +kernel
theorem dX9_findNear_38 : decode cX9_findNear 38 = .ok (.istore_n 3, 1) := by decide +kernel
theorem dX9_findNear_39 : decode cX9_findNear 39 = .ok (.iload_n 3, 1) := by decide +kernel
theorem dX9_findNear_40 : decode cX9_findNear 40 = .ok (.iload_n 2, 1) := by decide +kernel
theorem dX9_findNear_41 : decode cX9_findNear 41 = .ok (.if_icmp .ge 56, 3) := by decide +kernel
theorem dX9_findNear_44 : decode cX9_findNear 44 = .ok (.aload_n 0, 1) := by decide +kernel
theorem dX9_findNear_45 : decode cX9_findNear 45 = .ok (.aload_n 0, 1) := by decide +kernel
theorem dX9_findNear_46 : decode cX9_findNear 46 = .ok (.getfield 47, 3) := by decide +kernel
theorem dX9_findNear_49 : decode cX9_findNear 49 = .ok (.iload_n 3, 1) := by decide +kernel
theorem dX9_findNear_50 : decode cX9_findNear 50 = .ok (.iaload, 1) := by decide +kernel
theorem dX9_findNear_51 : decode cX9_findNear 51 = .ok (.invokevirtual 160, 3) := by decide +kernel
theorem dX9_findNear_54 : decode cX9_findNear 54 = .ok (.ifCond .eq 14, 3) := by decide +kernel
theorem dX9_findNear_57 : decode cX9_findNear 57 = .ok (.aload_n 0, 1) := by decide +kernel
theorem dX9_findNear_58 : decode cX9_findNear 58 = .ok (.invokevirtual 163, 3) := by decide +kernel
theorem dX9_findNear_61 : decode cX9_findNear 61 = .ok (.ifCond .eq 7, 3) := by decide +kernel
theorem dX9_findNear_64 : decode cX9_findNear 64 = .ok (.iconst 1, 1) := by decide +kernel
theorem dX9_findNear_65 : decode cX9_findNear 65 = .ok (.goto 4, 3) := by decide +kernel
theorem dX9_findNear_68 : decode cX9_findNear 68 = .ok (.iconst 0, 1) := by decide +kernel
theorem dX9_findNear_69 : decode cX9_findNear 69 = .ok (.istore 4, 2) := by decide +kernel
theorem dX9_findNear_71 : decode cX9_findNear 71 = .ok (.aload_n 0, 1) := by decide +kernel
theorem dX9_findNear_72 : decode cX9_findNear 72 = .ok (.getfield 86, 3) := by decide +kernel
theorem dX9_findNear_75 : decode cX9_findNear 75 = .ok (.iload_n 3, 1) := by decide +kernel
theorem dX9_findNear_76 : decode cX9_findNear 76 = .ok (.iload 4, 2) := by decide +kernel
theorem dX9_findNear_78 : decode cX9_findNear 78 = .ok (.ifCond .eq 10, 3) := by decide +kernel
theorem dX9_findNear_81 : decode cX9_findNear 81 = .ok (.aload_n 0, 1) := by decide +kernel
theorem dX9_findNear_82 : decode cX9_findNear 82 = .ok (.invokevirtual 182, 3) := by decide +kernel
theorem dX9_findNear_85 : decode cX9_findNear 85 = .ok (.goto 5, 3) := by decide +kernel
theorem dX9_findNear_88 : decode cX9_findNear 88 = .ok (.ldc 113, 2) := by decide +kernel
theorem dX9_findNear_90 : decode cX9_findNear 90 = .ok (.iastore, 1) := by decide +kernel
theorem dX9_findNear_91 : decode cX9_findNear 91 = .ok (.iinc 3 1, 3) := by decide +kernel
theorem dX9_findNear_94 : decode cX9_findNear 94 = .ok (.goto (-55), 3) := by decide +kernel
theorem dX9_findNear_97 : decode cX9_findNear 97 = .ok (.iconst 0, 1) := by decide +kernel
theorem dX9_findNear_98 : decode cX9_findNear 98 = .ok (.istore_n 3, 1) := by decide +kernel
theorem dX9_findNear_99 : decode cX9_findNear 99 = .ok (.iload_n 3, 1) := by decide +kernel
theorem dX9_findNear_100 : decode cX9_findNear 100 = .ok (.sipush 16384, 3) := by decide +kernel
theorem dX9_findNear_103 : decode cX9_findNear 103 = .ok (.if_icmp .ge 16, 3) := by decide +kernel
theorem dX9_findNear_106 : decode cX9_findNear 106 = .ok (.aload_n 0, 1) := by decide +kernel
theorem dX9_findNear_107 : decode cX9_findNear 107 = .ok (.getfield 62, 3) := by decide +kernel
theorem dX9_findNear_110 : decode cX9_findNear 110 = .ok (.iload_n 3, 1) := by decide +kernel
theorem dX9_findNear_111 : decode cX9_findNear 111 = .ok (.iconst (-1), 1) := by decide +kernel
theorem dX9_findNear_112 : decode cX9_findNear 112 = .ok (.iastore, 1) := by decide +kernel
theorem dX9_findNear_113 : decode cX9_findNear 113 = .ok (.iinc 3 1, 3) := by decide +kernel
theorem dX9_findNear_116 : decode cX9_findNear 116 = .ok (.goto (-17), 3) := by decide +kernel
theorem dX9_findNear_119 : decode cX9_findNear 119 = .ok (.iconst 0, 1) := by decide +kernel
theorem dX9_findNear_120 : decode cX9_findNear 120 = .ok (.istore_n 3, 1) := by decide +kernel
theorem dX9_findNear_121 : decode cX9_findNear 121 = .ok (.iload_n 3, 1) := by decide +kernel
theorem dX9_findNear_122 : decode cX9_findNear 122 = .ok (.iload_n 2, 1) := by decide +kernel
theorem dX9_findNear_123 : decode cX9_findNear 123 = .ok (.if_icmp .ge 112, 3) := by decide +kernel
theorem dX9_findNear_126 : decode cX9_findNear 126 = .ok (.aload_n 0, 1) := by decide +kernel
theorem dX9_findNear_127 : decode cX9_findNear 127 = .ok (.getfield 86, 3) := by decide +kernel
theorem dX9_findNear_130 : decode cX9_findNear 130 = .ok (.iload_n 3, 1) := by decide +kernel
theorem dX9_findNear_131 : decode cX9_findNear 131 = .ok (.iaload, 1) := by decide +kernel
theorem dX9_findNear_132 : decode cX9_findNear 132 = .ok (.ldc 186, 2) := by decide +kernel
theorem dX9_findNear_134 : decode cX9_findNear 134 = .ok (.imul, 1) := by decide +kernel
theorem dX9_findNear_135 : decode cX9_findNear 135 = .ok (.bipush 7, 2) := by decide +kernel
theorem dX9_findNear_137 : decode cX9_findNear 137 = .ok (.iushr, 1) := by decide +kernel
theorem dX9_findNear_138 : decode cX9_findNear 138 = .ok (.sipush 16383, 3) := by decide +kernel
theorem dX9_findNear_141 : decode cX9_findNear 141 = .ok (.iand, 1) := by decide +kernel
theorem dX9_findNear_142 : decode cX9_findNear 142 = .ok (.istore 4, 2) := by decide +kernel
theorem dX9_findNear_144 : decode cX9_findNear 144 = .ok (.aload_n 0, 1) := by decide +kernel
theorem dX9_findNear_145 : decode cX9_findNear 145 = .ok (.getfield 62, 3) := by decide +kernel
theorem dX9_findNear_148 : decode cX9_findNear 148 = .ok (.iload 4, 2) := by decide +kernel
theorem dX9_findNear_150 : decode cX9_findNear 150 = .ok (.iaload, 1) := by decide +kernel
theorem dX9_findNear_151 : decode cX9_findNear 151 = .ok (.ifCond .lt 37, 3) := by decide +kernel
theorem dX9_findNear_154 : decode cX9_findNear 154 = .ok (.aload_n 0, 1) := by decide +kernel
theorem dX9_findNear_155 : decode cX9_findNear 155 = .ok (.getfield 86, 3) := by decide +kernel
theorem dX9_findNear_158 : decode cX9_findNear 158 = .ok (.aload_n 0, 1) := by decide +kernel
theorem dX9_findNear_159 : decode cX9_findNear 159 = .ok (.getfield 62, 3) := by decide +kernel
theorem dX9_findNear_162 : decode cX9_findNear 162 = .ok (.iload 4, 2) := by decide +kernel
theorem dX9_findNear_164 : decode cX9_findNear 164 = .ok (.iaload, 1) := by decide +kernel
theorem dX9_findNear_165 : decode cX9_findNear 165 = .ok (.iaload, 1) := by decide +kernel
theorem dX9_findNear_166 : decode cX9_findNear 166 = .ok (.aload_n 0, 1) := by decide +kernel
theorem dX9_findNear_167 : decode cX9_findNear 167 = .ok (.getfield 86, 3) := by decide +kernel
theorem dX9_findNear_170 : decode cX9_findNear 170 = .ok (.iload_n 3, 1) := by decide +kernel
theorem dX9_findNear_171 : decode cX9_findNear 171 = .ok (.iaload, 1) := by decide +kernel
theorem dX9_findNear_172 : decode cX9_findNear 172 = .ok (.if_icmp .eq 16, 3) := by decide +kernel
theorem dX9_findNear_175 : decode cX9_findNear 175 = .ok (.iload 4, 2) := by decide +kernel
theorem dX9_findNear_177 : decode cX9_findNear 177 = .ok (.iconst 1, 1) := by decide +kernel
theorem dX9_findNear_178 : decode cX9_findNear 178 = .ok (.iadd, 1) := by decide +kernel
theorem dX9_findNear_179 : decode cX9_findNear 179 = .ok (.sipush 16383, 3) := by decide +kernel
theorem dX9_findNear_182 : decode cX9_findNear 182 = .ok (.iand, 1) := by decide +kernel
theorem dX9_findNear_183 : decode cX9_findNear 183 = .ok (.istore 4, 2) := by decide +kernel
theorem dX9_findNear_185 : decode cX9_findNear 185 = .ok (.goto (-41), 3) := by decide +kernel
theorem dX9_findNear_188 : decode cX9_findNear 188 = .ok (.aload_n 0, 1) := by decide +kernel
theorem dX9_findNear_189 : decode cX9_findNear 189 = .ok (.getfield 62, 3) := by decide +kernel
theorem dX9_findNear_192 : decode cX9_findNear 192 = .ok (.iload 4, 2) := by decide +kernel
theorem dX9_findNear_194 : decode cX9_findNear 194 = .ok (.aload_n 0, 1) := by decide +kernel
theorem dX9_findNear_195 : decode cX9_findNear 195 = .ok (.getfield 62, 3) := by decide +kernel
theorem dX9_findNear_198 : decode cX9_findNear 198 = .ok (.iload 4, 2) := by decide +kernel
theorem dX9_findNear_200 : decode cX9_findNear 200 = .ok (.iaload, 1) := by decide +kernel
theorem dX9_findNear_201 : decode cX9_findNear 201 = .ok (.ifCond .ge 7, 3) := by decide +kernel
theorem dX9_findNear_204 : decode cX9_findNear 204 = .ok (.iload_n 3, 1) := by decide +kernel
theorem dX9_findNear_205 : decode cX9_findNear 205 = .ok (.goto 10, 3) := by decide +kernel
theorem dX9_findNear_208 : decode cX9_findNear 208 = .ok (.aload_n 0, 1) := by decide +kernel
theorem dX9_findNear_209 : decode cX9_findNear 209 = .ok (.getfield 62, 3) := by decide +kernel
theorem dX9_findNear_212 : decode cX9_findNear 212 = .ok (.iload 4, 2) := by decide +kernel
theorem dX9_findNear_214 : decode cX9_findNear 214 = .ok (.iaload, 1) := by decide +kernel
theorem dX9_findNear_215 : decode cX9_findNear 215 = .ok (.iastore, 1) := by decide +kernel
theorem dX9_findNear_216 : decode cX9_findNear 216 = .ok (.aload_n 0, 1) := by decide +kernel
theorem dX9_findNear_217 : decode cX9_findNear 217 = .ok (.getfield 65, 3) := by decide +kernel
theorem dX9_findNear_220 : decode cX9_findNear 220 = .ok (.iload_n 3, 1) := by decide +kernel
theorem dX9_findNear_221 : decode cX9_findNear 221 = .ok (.aload_n 0, 1) := by decide +kernel
theorem dX9_findNear_222 : decode cX9_findNear 222 = .ok (.getfield 62, 3) := by decide +kernel
theorem dX9_findNear_225 : decode cX9_findNear 225 = .ok (.iload 4, 2) := by decide +kernel
theorem dX9_findNear_227 : decode cX9_findNear 227 = .ok (.iaload, 1) := by decide +kernel
theorem dX9_findNear_228 : decode cX9_findNear 228 = .ok (.iastore, 1) := by decide +kernel
theorem dX9_findNear_229 : decode cX9_findNear 229 = .ok (.iinc 3 1, 3) := by decide +kernel
theorem dX9_findNear_232 : decode cX9_findNear 232 = .ok (.goto (-111), 3) := by decide +kernel
theorem dX9_findNear_235 : decode cX9_findNear 235 = .ok (.iload_n 2, 1) := by decide +kernel
theorem dX9_findNear_236 : decode cX9_findNear 236 = .ok (.ireturn, 1) := by decide +kernel
theorem dX9_meaningAt_0 : decode cX9_meaningAt 0 = .ok (.aload_n 0, 1) := by decide +kernel
theorem dX9_meaningAt_1 : decode cX9_meaningAt 1 = .ok (.getfield 47, 3) := by decide +kernel
theorem dX9_meaningAt_4 : decode cX9_meaningAt 4 = .ok (.iload_n 1, 1) := by decide +kernel
theorem dX9_meaningAt_5 : decode cX9_meaningAt 5 = .ok (.iaload, 1) := by decide +kernel
theorem dX9_meaningAt_6 : decode cX9_meaningAt 6 = .ok (.istore_n 3, 1) := by decide +kernel
theorem dX9_meaningAt_7 : decode cX9_meaningAt 7 = .ok (.aload_n 0, 1) := by decide +kernel
theorem dX9_meaningAt_8 : decode cX9_meaningAt 8 = .ok (.getfield 121, 3) := by decide +kernel
theorem dX9_meaningAt_11 : decode cX9_meaningAt 11 = .ok (.iconst 1, 1) := by decide +kernel
theorem dX9_meaningAt_12 : decode cX9_meaningAt 12 = .ok (.isub, 1) := by decide +kernel
theorem dX9_meaningAt_13 : decode cX9_meaningAt 13 = .ok (.istore 4, 2) := by decide +kernel
theorem dX9_meaningAt_15 : decode cX9_meaningAt 15 = .ok (.iload 4, 2) := by decide +kernel
theorem dX9_meaningAt_17 : decode cX9_meaningAt 17 = .ok (.iload_n 2, 1) := by decide +kernel
theorem dX9_meaningAt_18 : decode cX9_meaningAt 18 = .ok (.if_icmp .le 13, 3) := by decide +kernel
theorem dX9_meaningAt_21 : decode cX9_meaningAt 21 = .ok (.iload_n 3, 1) := by decide +kernel
theorem dX9_meaningAt_22 : decode cX9_meaningAt 22 = .ok (.iconst 3, 1) := by decide +kernel
theorem dX9_meaningAt_23 : decode cX9_meaningAt 23 = .ok (.idiv, 1) := by decide +kernel
theorem dX9_meaningAt_24 : decode cX9_meaningAt 24 = .ok (.istore_n 3, 1) := by decide +kernel
theorem dX9_meaningAt_25 : decode cX9_meaningAt 25 = .ok (.iinc 4 (-1), 3) := by decide +kernel
theorem dX9_meaningAt_28 : decode cX9_meaningAt 28 = .ok (.goto (-13), 3) := by decide +kernel
theorem dX9_meaningAt_31 : decode cX9_meaningAt 31 = .ok (.iload_n 3, 1) := by decide +kernel
theorem dX9_meaningAt_32 : decode cX9_meaningAt 32 = .ok (.iconst 3, 1) := by decide +kernel
theorem dX9_meaningAt_33 : decode cX9_meaningAt 33 = .ok (.irem, 1) := by decide +kernel
theorem dX9_meaningAt_34 : decode cX9_meaningAt 34 = .ok (.ireturn, 1) := by decide +kernel
theorem dX9_unlike_0 : decode cX9_unlike 0 = .ok (.iconst 0, 1) := by decide +kernel
theorem dX9_unlike_1 : decode cX9_unlike 1 = .ok (.istore 4, 2) := by decide +kernel
theorem dX9_unlike_3 : decode cX9_unlike 3 = .ok (.iconst 0, 1) := by decide +kernel
theorem dX9_unlike_4 : decode cX9_unlike 4 = .ok (.istore 5, 2) := by decide +kernel
theorem dX9_unlike_6 : decode cX9_unlike 6 = .ok (.iload 5, 2) := by decide +kernel
theorem dX9_unlike_8 : decode cX9_unlike 8 = .ok (.iload_n 1, 1) := by decide +kernel
theorem dX9_unlike_9 : decode cX9_unlike 9 = .ok (.if_icmp .ge 17, 3) := by decide +kernel
theorem dX9_unlike_12 : decode cX9_unlike 12 = .ok (.aload_n 0, 1) := by decide +kernel
theorem dX9_unlike_13 : decode cX9_unlike 13 = .ok (.getfield 68, 3) := by decide +kernel
theorem dX9_unlike_16 : decode cX9_unlike 16 = .ok (.iload 5, 2) := by decide +kernel
theorem dX9_unlike_18 : decode cX9_unlike 18 = .ok (.iconst 0, 1) := by decide +kernel
theorem dX9_unlike_19 : decode cX9_unlike 19 = .ok (.bastore, 1) := by decide +kernel
theorem dX9_unlike_20 : decode cX9_unlike 20 = .ok (.iinc 5 1, 3) := by decide +kernel
theorem dX9_unlike_23 : decode cX9_unlike 23 = .ok (.goto (-17), 3) := by decide +kernel
theorem dX9_unlike_26 : decode cX9_unlike 26 = .ok (.iconst 0, 1) := by decide +kernel
theorem dX9_unlike_27 : decode cX9_unlike 27 = .ok (.istore 5, 2) := by decide +kernel
theorem dX9_unlike_29 : decode cX9_unlike 29 = .ok (.iload 5, 2) := by decide +kernel
theorem dX9_unlike_31 : decode cX9_unlike 31 = .ok (.iload_n 1, 1) := by decide +kernel
theorem dX9_unlike_32 : decode cX9_unlike 32 = .ok (.if_icmp .ge 62, 3) := by decide +kernel
theorem dX9_unlike_35 : decode cX9_unlike 35 = .ok (.iload_n 2, 1) := by decide +kernel
theorem dX9_unlike_36 : decode cX9_unlike 36 = .ok (.ifCond .lt 14, 3) := by decide +kernel
theorem dX9_unlike_39 : decode cX9_unlike 39 = .ok (.aload_n 0, 1) := by decide +kernel
theorem dX9_unlike_40 : decode cX9_unlike 40 = .ok (.iload 5, 2) := by decide +kernel
theorem dX9_unlike_42 : decode cX9_unlike 42 = .ok (.iload_n 2, 1) := by decide +kernel
theorem dX9_unlike_43 : decode cX9_unlike 43 = .ok (.invokevirtual 187, 3) := by decide +kernel
theorem dX9_unlike_46 : decode cX9_unlike 46 = .ok (.iload_n 3, 1) := by decide +kernel
theorem dX9_unlike_47 : decode cX9_unlike 47 = .ok (.if_icmp .ne 41, 3) := by decide +kernel
theorem dX9_unlike_50 : decode cX9_unlike 50 = .ok (.iload 4, 2) := by decide +kernel
theorem dX9_unlike_52 : decode cX9_unlike 52 = .ok (.aload_n 0, 1) := by decide +kernel
theorem dX9_unlike_53 : decode cX9_unlike 53 = .ok (.getfield 68, 3) := by decide +kernel
theorem dX9_unlike_56 : decode cX9_unlike 56 = .ok (.aload_n 0, 1) := by decide +kernel
theorem dX9_unlike_57 : decode cX9_unlike 57 = .ok (.getfield 65, 3) := by decide +kernel
theorem dX9_unlike_60 : decode cX9_unlike 60 = .ok (.iload 5, 2) := by decide +kernel
theorem dX9_unlike_62 : decode cX9_unlike 62 = .ok (.iaload, 1) := by decide +kernel
theorem dX9_unlike_63 : decode cX9_unlike 63 = .ok (.baload, 1) := by decide +kernel
theorem dX9_unlike_64 : decode cX9_unlike 64 = .ok (.ifCond .eq 7, 3) := by decide +kernel
theorem dX9_unlike_67 : decode cX9_unlike 67 = .ok (.iconst 0, 1) := by decide +kernel
theorem dX9_unlike_68 : decode cX9_unlike 68 = .ok (.goto 4, 3) := by decide +kernel
theorem dX9_unlike_71 : decode cX9_unlike 71 = .ok (.iconst 1, 1) := by decide +kernel
theorem dX9_unlike_72 : decode cX9_unlike 72 = .ok (.iadd, 1) := by decide +kernel
theorem dX9_unlike_73 : decode cX9_unlike 73 = .ok (.istore 4, 2) := by decide +kernel
theorem dX9_unlike_75 : decode cX9_unlike 75 = .ok (.aload_n 0, 1) := by decide +kernel
theorem dX9_unlike_76 : decode cX9_unlike 76 = .ok (.getfield 68, 3) := by decide +kernel
theorem dX9_unlike_79 : decode cX9_unlike 79 = .ok (.aload_n 0, 1) := by decide +kernel
theorem dX9_unlike_80 : decode cX9_unlike 80 = .ok (.getfield 65, 3) := by decide +kernel
theorem dX9_unlike_83 : decode cX9_unlike 83 = .ok (.iload 5, 2) := by decide +kernel
theorem dX9_unlike_85 : decode cX9_unlike 85 = .ok (.iaload, 1) := by decide +kernel
theorem dX9_unlike_86 : decode cX9_unlike 86 = .ok (.iconst 1, 1) := by decide +kernel
theorem dX9_unlike_87 : decode cX9_unlike 87 = .ok (.bastore, 1) := by decide +kernel
theorem dX9_unlike_88 : decode cX9_unlike 88 = .ok (.iinc 5 1, 3) := by decide +kernel
theorem dX9_unlike_91 : decode cX9_unlike 91 = .ok (.goto (-62), 3) := by decide +kernel
theorem dX9_unlike_94 : decode cX9_unlike 94 = .ok (.iload 4, 2) := by decide +kernel
theorem dX9_unlike_96 : decode cX9_unlike 96 = .ok (.ireturn, 1) := by decide +kernel
theorem dX9_answers_0 : decode cX9_answers 0 = .ok (.iload_n 1, 1) := by decide +kernel
theorem dX9_answers_1 : decode cX9_answers 1 = .ok (.iconst 0, 1) := by decide +kernel
theorem dX9_answers_2 : decode cX9_answers 2 = .ok (.sipush 1000, 3) := by decide +kernel
theorem dX9_answers_5 : decode cX9_answers 5 = .ok (.invokestatic 101, 3) := by decide +kernel
theorem dX9_answers_8 : decode cX9_answers 8 = .ok (.ifCond .eq 17, 3) := by decide +kernel
theorem dX9_answers_11 : decode cX9_answers 11 = .ok (.aload_n 0, 1) := by decide +kernel
theorem dX9_answers_12 : decode cX9_answers 12 = .ok (.aload_n 0, 1) := by decide +kernel
theorem dX9_answers_13 : decode cX9_answers 13 = .ok (.iload_n 1, 1) := by decide +kernel
theorem dX9_answers_14 : decode cX9_answers 14 = .ok (.invokevirtual 191, 3) := by decide +kernel
theorem dX9_answers_17 : decode cX9_answers 17 = .ok (.iconst (-1), 1) := by decide +kernel
theorem dX9_answers_18 : decode cX9_answers 18 = .ok (.iconst 0, 1) := by decide +kernel
theorem dX9_answers_19 : decode cX9_answers 19 = .ok (.invokevirtual 194, 3) := by decide +kernel
theorem dX9_answers_22 : decode cX9_answers 22 = .ok (.goto 4, 3) := by decide +kernel
theorem dX9_answers_25 : decode cX9_answers 25 = .ok (.iconst (-1), 1) := by decide +kernel
theorem dX9_answers_26 : decode cX9_answers 26 = .ok (.ireturn, 1) := by decide +kernel
theorem dX9_back_0 : decode cX9_back 0 = .ok (.iload_n 1, 1) := by decide +kernel
theorem dX9_back_1 : decode cX9_back 1 = .ok (.iconst 0, 1) := by decide +kernel
theorem dX9_back_2 : decode cX9_back 2 = .ok (.sipush 1000, 3) := by decide +kernel
theorem dX9_back_5 : decode cX9_back 5 = .ok (.invokestatic 101, 3) := by decide +kernel
theorem dX9_back_8 : decode cX9_back 8 = .ok (.ifCond .ne 5, 3) := by decide +kernel
theorem dX9_back_11 : decode cX9_back 11 = .ok (.iconst (-1), 1) := by decide +kernel
theorem dX9_back_12 : decode cX9_back 12 = .ok (.ireturn, 1) := by decide +kernel
theorem dX9_back_13 : decode cX9_back 13 = .ok (.aload_n 0, 1) := by decide +kernel
theorem dX9_back_14 : decode cX9_back 14 = .ok (.iload_n 1, 1) := by decide +kernel
theorem dX9_back_15 : decode cX9_back 15 = .ok (.invokevirtual 191, 3) := by decide +kernel
theorem dX9_back_18 : decode cX9_back 18 = .ok (.istore_n 2, 1) := by decide +kernel
theorem dX9_back_19 : decode cX9_back 19 = .ok (.bipush (-5), 2) := by decide +kernel
theorem dX9_back_21 : decode cX9_back 21 = .ok (.istore_n 3, 1) := by decide +kernel
theorem dX9_back_22 : decode cX9_back 22 = .ok (.iconst 0, 1) := by decide +kernel
theorem dX9_back_23 : decode cX9_back 23 = .ok (.istore 4, 2) := by decide +kernel
theorem dX9_back_25 : decode cX9_back 25 = .ok (.iconst 0, 1) := by decide +kernel
theorem dX9_back_26 : decode cX9_back 26 = .ok (.istore 5, 2) := by decide +kernel
theorem dX9_back_28 : decode cX9_back 28 = .ok (.iload 5, 2) := by decide +kernel
theorem dX9_back_30 : decode cX9_back 30 = .ok (.aload_n 0, 1) := by decide +kernel
theorem dX9_back_31 : decode cX9_back 31 = .ok (.getfield 121, 3) := by decide +kernel
theorem dX9_back_34 : decode cX9_back 34 = .ok (.if_icmp .ge 106, 3) := by decide +kernel
theorem dX9_back_37 : decode cX9_back 37 = .ok (.iconst 0, 1) := by decide +kernel
theorem dX9_back_38 : decode cX9_back 38 = .ok (.istore 6, 2) := by decide +kernel
theorem dX9_back_40 : decode cX9_back 40 = .ok (.iconst 0, 1) := by decide +kernel
theorem dX9_back_41 : decode cX9_back 41 = .ok (.istore 7, 2) := by decide +kernel
theorem dX9_back_43 : decode cX9_back 43 = .ok (.iconst 0, 1) := by decide +kernel
theorem dX9_back_44 : decode cX9_back 44 = .ok (.istore 8, 2) := by decide +kernel
theorem dX9_back_46 : decode cX9_back 46 = .ok (.iload 8, 2) := by decide +kernel
theorem dX9_back_48 : decode cX9_back 48 = .ok (.iconst 3, 1) := by decide +kernel
theorem dX9_back_49 : decode cX9_back 49 = .ok (.if_icmp .ge 61, 3) := by decide +kernel
theorem dX9_back_52 : decode cX9_back 52 = .ok (.aload_n 0, 1) := by decide +kernel
theorem dX9_back_53 : decode cX9_back 53 = .ok (.getfield 43, 3) := by decide +kernel
theorem dX9_back_56 : decode cX9_back 56 = .ok (.iload 5, 2) := by decide +kernel
theorem dX9_back_58 : decode cX9_back 58 = .ok (.baload, 1) := by decide +kernel
theorem dX9_back_59 : decode cX9_back 59 = .ok (.ifCond .ne 51, 3) := by decide +kernel
theorem dX9_back_62 : decode cX9_back 62 = .ok (.aload_n 0, 1) := by decide +kernel
theorem dX9_back_63 : decode cX9_back 63 = .ok (.iload_n 2, 1) := by decide +kernel
theorem dX9_back_64 : decode cX9_back 64 = .ok (.iload 5, 2) := by decide +kernel
theorem dX9_back_66 : decode cX9_back 66 = .ok (.iload 8, 2) := by decide +kernel
theorem dX9_back_68 : decode cX9_back 68 = .ok (.invokevirtual 194, 3) := by decide +kernel
theorem dX9_back_71 : decode cX9_back 71 = .ok (.istore 9, 2) := by decide +kernel
theorem dX9_back_73 : decode cX9_back 73 = .ok (.iload 6, 2) := by decide +kernel
theorem dX9_back_75 : decode cX9_back 75 = .ok (.iload 9, 2) := by decide +kernel
theorem dX9_back_77 : decode cX9_back 77 = .ok (.ifCond .le 7, 3) := by decide +kernel
theorem dX9_back_80 : decode cX9_back 80 = .ok (.iconst 1, 1) := by decide +kernel
theorem dX9_back_81 : decode cX9_back 81 = .ok (.goto 4, 3) := by decide +kernel
theorem dX9_back_84 : decode cX9_back 84 = .ok (.iconst 0, 1) := by decide +kernel
theorem dX9_back_85 : decode cX9_back 85 = .ok (.iadd, 1) := by decide +kernel
theorem dX9_back_86 : decode cX9_back 86 = .ok (.istore 6, 2) := by decide +kernel
theorem dX9_back_88 : decode cX9_back 88 = .ok (.iload 9, 2) := by decide +kernel
theorem dX9_back_90 : decode cX9_back 90 = .ok (.iload 7, 2) := by decide +kernel
theorem dX9_back_92 : decode cX9_back 92 = .ok (.if_icmp .le 8, 3) := by decide +kernel
theorem dX9_back_95 : decode cX9_back 95 = .ok (.iload 9, 2) := by decide +kernel
theorem dX9_back_97 : decode cX9_back 97 = .ok (.goto 5, 3) := by decide +kernel
theorem dX9_back_100 : decode cX9_back 100 = .ok (.iload 7, 2) := by decide +kernel
theorem dX9_back_102 : decode cX9_back 102 = .ok (.istore 7, 2) := by decide +kernel
theorem dX9_back_104 : decode cX9_back 104 = .ok (.iinc 8 1, 3) := by decide +kernel
theorem dX9_back_107 : decode cX9_back 107 = .ok (.goto (-61), 3) := by decide +kernel
theorem dX9_back_110 : decode cX9_back 110 = .ok (.iload 6, 2) := by decide +kernel
theorem dX9_back_112 : decode cX9_back 112 = .ok (.iconst 1, 1) := by decide +kernel
theorem dX9_back_113 : decode cX9_back 113 = .ok (.if_icmp .le 21, 3) := by decide +kernel
theorem dX9_back_116 : decode cX9_back 116 = .ok (.iload_n 3, 1) := by decide +kernel
theorem dX9_back_117 : decode cX9_back 117 = .ok (.ifCond .lt 10, 3) := by decide +kernel
theorem dX9_back_120 : decode cX9_back 120 = .ok (.iload 7, 2) := by decide +kernel
theorem dX9_back_122 : decode cX9_back 122 = .ok (.iload 4, 2) := by decide +kernel
theorem dX9_back_124 : decode cX9_back 124 = .ok (.if_icmp .ge 10, 3) := by decide +kernel
theorem dX9_back_127 : decode cX9_back 127 = .ok (.iload 5, 2) := by decide +kernel
theorem dX9_back_129 : decode cX9_back 129 = .ok (.istore_n 3, 1) := by decide +kernel
theorem dX9_back_130 : decode cX9_back 130 = .ok (.iload 7, 2) := by decide +kernel
theorem dX9_back_132 : decode cX9_back 132 = .ok (.istore 4, 2) := by decide +kernel
theorem dX9_back_134 : decode cX9_back 134 = .ok (.iinc 5 1, 3) := by decide +kernel
theorem dX9_back_137 : decode cX9_back 137 = .ok (.goto (-109), 3) := by decide +kernel
theorem dX9_back_140 : decode cX9_back 140 = .ok (.iload_n 3, 1) := by decide +kernel
theorem dX9_back_141 : decode cX9_back 141 = .ok (.ireturn, 1) := by decide +kernel
theorem dX9_agree_0 : decode cX9_agree 0 = .ok (.iload_n 1, 1) := by decide +kernel
theorem dX9_agree_1 : decode cX9_agree 1 = .ok (.iconst 0, 1) := by decide +kernel
theorem dX9_agree_2 : decode cX9_agree 2 = .ok (.sipush 1000, 3) := by decide +kernel
theorem dX9_agree_5 : decode cX9_agree 5 = .ok (.invokestatic 101, 3) := by decide +kernel
theorem dX9_agree_8 : decode cX9_agree 8 = .ok (.ifCond .eq 24, 3) := by decide +kernel
theorem dX9_agree_11 : decode cX9_agree 11 = .ok (.iload_n 2, 1) := by decide +kernel
theorem dX9_agree_12 : decode cX9_agree 12 = .ok (.ifCond .lt 20, 3) := by decide +kernel
theorem dX9_agree_15 : decode cX9_agree 15 = .ok (.iload_n 2, 1) := by decide +kernel
theorem dX9_agree_16 : decode cX9_agree 16 = .ok (.aload_n 0, 1) := by decide +kernel
theorem dX9_agree_17 : decode cX9_agree 17 = .ok (.getfield 121, 3) := by decide +kernel
theorem dX9_agree_20 : decode cX9_agree 20 = .ok (.if_icmp .ge 12, 3) := by decide +kernel
theorem dX9_agree_23 : decode cX9_agree 23 = .ok (.aload_n 0, 1) := by decide +kernel
theorem dX9_agree_24 : decode cX9_agree 24 = .ok (.getfield 43, 3) := by decide +kernel
theorem dX9_agree_27 : decode cX9_agree 27 = .ok (.iload_n 2, 1) := by decide +kernel
theorem dX9_agree_28 : decode cX9_agree 28 = .ok (.baload, 1) := by decide +kernel
theorem dX9_agree_29 : decode cX9_agree 29 = .ok (.ifCond .eq 5, 3) := by decide +kernel
theorem dX9_agree_32 : decode cX9_agree 32 = .ok (.iconst (-1), 1) := by decide +kernel
theorem dX9_agree_33 : decode cX9_agree 33 = .ok (.ireturn, 1) := by decide +kernel
theorem dX9_agree_34 : decode cX9_agree 34 = .ok (.aload_n 0, 1) := by decide +kernel
theorem dX9_agree_35 : decode cX9_agree 35 = .ok (.iload_n 1, 1) := by decide +kernel
theorem dX9_agree_36 : decode cX9_agree 36 = .ok (.invokevirtual 191, 3) := by decide +kernel
theorem dX9_agree_39 : decode cX9_agree 39 = .ok (.istore 4, 2) := by decide +kernel
theorem dX9_agree_41 : decode cX9_agree 41 = .ok (.iconst 0, 1) := by decide +kernel
theorem dX9_agree_42 : decode cX9_agree 42 = .ok (.istore 5, 2) := by decide +kernel
theorem dX9_agree_44 : decode cX9_agree 44 = .ok (.iconst 0, 1) := by decide +kernel
theorem dX9_agree_45 : decode cX9_agree 45 = .ok (.istore 6, 2) := by decide +kernel
theorem dX9_agree_47 : decode cX9_agree 47 = .ok (.iload 6, 2) := by decide +kernel
theorem dX9_agree_49 : decode cX9_agree 49 = .ok (.iload 4, 2) := by decide +kernel
theorem dX9_agree_51 : decode cX9_agree 51 = .ok (.if_icmp .ge 30, 3) := by decide +kernel
theorem dX9_agree_54 : decode cX9_agree 54 = .ok (.iload 5, 2) := by decide +kernel
theorem dX9_agree_56 : decode cX9_agree 56 = .ok (.aload_n 0, 1) := by decide +kernel
theorem dX9_agree_57 : decode cX9_agree 57 = .ok (.iload 6, 2) := by decide +kernel
theorem dX9_agree_59 : decode cX9_agree 59 = .ok (.iload_n 2, 1) := by decide +kernel
theorem dX9_agree_60 : decode cX9_agree 60 = .ok (.invokevirtual 187, 3) := by decide +kernel
theorem dX9_agree_63 : decode cX9_agree 63 = .ok (.iload_n 3, 1) := by decide +kernel
theorem dX9_agree_64 : decode cX9_agree 64 = .ok (.if_icmp .ne 7, 3) := by decide +kernel
theorem dX9_agree_67 : decode cX9_agree 67 = .ok (.iconst 1, 1) := by decide +kernel
theorem dX9_agree_68 : decode cX9_agree 68 = .ok (.goto 4, 3) := by decide +kernel
theorem dX9_agree_71 : decode cX9_agree 71 = .ok (.iconst 0, 1) := by decide +kernel
theorem dX9_agree_72 : decode cX9_agree 72 = .ok (.iadd, 1) := by decide +kernel
theorem dX9_agree_73 : decode cX9_agree 73 = .ok (.istore 5, 2) := by decide +kernel
theorem dX9_agree_75 : decode cX9_agree 75 = .ok (.iinc 6 1, 3) := by decide +kernel
theorem dX9_agree_78 : decode cX9_agree 78 = .ok (.goto (-31), 3) := by decide +kernel
theorem dX9_agree_81 : decode cX9_agree 81 = .ok (.iload 5, 2) := by decide +kernel
theorem dX9_agree_83 : decode cX9_agree 83 = .ok (.ireturn, 1) := by decide +kernel
theorem dX9_take_0 : decode cX9_take 0 = .ok (.aload_n 0, 1) := by decide +kernel
theorem dX9_take_1 : decode cX9_take 1 = .ok (.iload_n 1, 1) := by decide +kernel
theorem dX9_take_2 : decode cX9_take 2 = .ok (.invokevirtual 179, 3) := by decide +kernel
theorem dX9_take_5 : decode cX9_take 5 = .ok (.ifCond .ne 5, 3) := by decide +kernel
theorem dX9_take_8 : decode cX9_take 8 = .ok (.iconst (-1), 1) := by decide +kernel
theorem dX9_take_9 : decode cX9_take 9 = .ok (.ireturn, 1) := by decide +kernel
theorem dX9_take_10 : decode cX9_take 10 = .ok (.iconst 0, 1) := by decide +kernel
theorem dX9_take_11 : decode cX9_take 11 = .ok (.istore_n 2, 1) := by decide +kernel
theorem dX9_take_12 : decode cX9_take 12 = .ok (.iconst 0, 1) := by decide +kernel
theorem dX9_take_13 : decode cX9_take 13 = .ok (.istore_n 3, 1) := by decide +kernel
theorem dX9_take_14 : decode cX9_take 14 = .ok (.iload_n 3, 1) := by decide +kernel
theorem dX9_take_15 : decode cX9_take 15 = .ok (.aload_n 0, 1) := by decide +kernel
theorem dX9_take_16 : decode cX9_take 16 = .ok (.getfield 121, 3) := by decide +kernel
theorem dX9_take_19 : decode cX9_take 19 = .ok (.if_icmp .ge 196, 3) := by decide +kernel
theorem dX9_take_22 : decode cX9_take 22 = .ok (.aload_n 0, 1) := by decide +kernel
theorem dX9_take_23 : decode cX9_take 23 = .ok (.getfield 43, 3) := by decide +kernel
theorem dX9_take_26 : decode cX9_take 26 = .ok (.iload_n 3, 1) := by decide +kernel
theorem dX9_take_27 : decode cX9_take 27 = .ok (.baload, 1) := by decide +kernel
theorem dX9_take_28 : decode cX9_take 28 = .ok (.istore 4, 2) := by decide +kernel
theorem dX9_take_30 : decode cX9_take 30 = .ok (.iconst 0, 1) := by decide +kernel
theorem dX9_take_31 : decode cX9_take 31 = .ok (.istore 5, 2) := by decide +kernel
theorem dX9_take_33 : decode cX9_take 33 = .ok (.iload 5, 2) := by decide +kernel
theorem dX9_take_35 : decode cX9_take 35 = .ok (.iload_n 3, 1) := by decide +kernel
theorem dX9_take_36 : decode cX9_take 36 = .ok (.if_icmp .ge 47, 3) := by decide +kernel
theorem dX9_take_39 : decode cX9_take 39 = .ok (.iload 4, 2) := by decide +kernel
theorem dX9_take_41 : decode cX9_take 41 = .ok (.ifCond .ne 29, 3) := by decide +kernel
theorem dX9_take_44 : decode cX9_take 44 = .ok (.aload_n 0, 1) := by decide +kernel
theorem dX9_take_45 : decode cX9_take 45 = .ok (.getfield 43, 3) := by decide +kernel
theorem dX9_take_48 : decode cX9_take 48 = .ok (.iload 5, 2) := by decide +kernel
theorem dX9_take_50 : decode cX9_take 50 = .ok (.baload, 1) := by decide +kernel
theorem dX9_take_51 : decode cX9_take 51 = .ok (.ifCond .ne 23, 3) := by decide +kernel
theorem dX9_take_54 : decode cX9_take 54 = .ok (.aload_n 0, 1) := by decide +kernel
theorem dX9_take_55 : decode cX9_take 55 = .ok (.getfield 40, 3) := by decide +kernel
theorem dX9_take_58 : decode cX9_take 58 = .ok (.iload 5, 2) := by decide +kernel
theorem dX9_take_60 : decode cX9_take 60 = .ok (.iaload, 1) := by decide +kernel
theorem dX9_take_61 : decode cX9_take 61 = .ok (.aload_n 0, 1) := by decide +kernel
theorem dX9_take_62 : decode cX9_take 62 = .ok (.getfield 40, 3) := by decide +kernel
theorem dX9_take_65 : decode cX9_take 65 = .ok (.iload_n 3, 1) := by decide +kernel
theorem dX9_take_66 : decode cX9_take 66 = .ok (.iaload, 1) := by decide +kernel
theorem dX9_take_67 : decode cX9_take 67 = .ok (.if_icmp .ne 7, 3) := by decide +kernel
theorem dX9_take_70 : decode cX9_take 70 = .ok (.iconst 1, 1) := by decide +kernel
theorem dX9_take_71 : decode cX9_take 71 = .ok (.goto 4, 3) := by decide +kernel
theorem dX9_take_74 : decode cX9_take 74 = .ok (.iconst 0, 1) := by decide +kernel
theorem dX9_take_75 : decode cX9_take 75 = .ok (.istore 4, 2) := by decide +kernel
theorem dX9_take_77 : decode cX9_take 77 = .ok (.iinc 5 1, 3) := by decide +kernel
theorem dX9_take_80 : decode cX9_take 80 = .ok (.goto (-47), 3) := by decide +kernel
theorem dX9_take_83 : decode cX9_take 83 = .ok (.iconst 0, 1) := by decide +kernel
theorem dX9_take_84 : decode cX9_take 84 = .ok (.istore 5, 2) := by decide +kernel
theorem dX9_take_86 : decode cX9_take 86 = .ok (.iload 4, 2) := by decide +kernel
theorem dX9_take_88 : decode cX9_take 88 = .ok (.ifCond .ne 121, 3) := by decide +kernel
theorem dX9_take_91 : decode cX9_take 91 = .ok (.iload 5, 2) := by decide +kernel
theorem dX9_take_93 : decode cX9_take 93 = .ok (.aload_n 0, 1) := by decide +kernel
theorem dX9_take_94 : decode cX9_take 94 = .ok (.getfield 22, 3) := by decide +kernel
theorem dX9_take_97 : decode cX9_take 97 = .ok (.aload_n 0, 1) := by decide +kernel
theorem dX9_take_98 : decode cX9_take 98 = .ok (.getfield 40, 3) := by decide +kernel
theorem dX9_take_101 : decode cX9_take 101 = .ok (.iload_n 3, 1) := by decide +kernel
theorem dX9_take_102 : decode cX9_take 102 = .ok (.iaload, 1) := by decide +kernel
theorem dX9_take_103 : decode cX9_take 103 = .ok (.iaload, 1) := by decide +kernel
theorem dX9_take_104 : decode cX9_take 104 = .ok (.if_icmp .ge 105, 3) := by decide +kernel
theorem dX9_take_107 : decode cX9_take 107 = .ok (.iconst 3, 1) := by decide +kernel
theorem dX9_take_108 : decode cX9_take 108 = .ok (.aload_n 0, 1) := by decide +kernel
theorem dX9_take_109 : decode cX9_take 109 = .ok (.getfield 40, 3) := by decide +kernel
theorem dX9_take_112 : decode cX9_take 112 = .ok (.iload_n 3, 1) := by decide +kernel
theorem dX9_take_113 : decode cX9_take 113 = .ok (.iaload, 1) := by decide +kernel
theorem dX9_take_114 : decode cX9_take 114 = .ok (.imul, 1) := by decide +kernel
theorem dX9_take_115 : decode cX9_take 115 = .ok (.iload 5, 2) := by decide +kernel
theorem dX9_take_117 : decode cX9_take 117 = .ok (.iadd, 1) := by decide +kernel
theorem dX9_take_118 : decode cX9_take 118 = .ok (.istore 6, 2) := by decide +kernel
theorem dX9_take_120 : decode cX9_take 120 = .ok (.aload_n 0, 1) := by decide +kernel
theorem dX9_take_121 : decode cX9_take 121 = .ok (.getfield 37, 3) := by decide +kernel
theorem dX9_take_124 : decode cX9_take 124 = .ok (.iload 6, 2) := by decide +kernel
theorem dX9_take_126 : decode cX9_take 126 = .ok (.iaload, 1) := by decide +kernel
theorem dX9_take_127 : decode cX9_take 127 = .ok (.istore 7, 2) := by decide +kernel
theorem dX9_take_129 : decode cX9_take 129 = .ok (.iload 5, 2) := by decide +kernel
theorem dX9_take_131 : decode cX9_take 131 = .ok (.aload_n 0, 1) := by decide +kernel
theorem dX9_take_132 : decode cX9_take 132 = .ok (.getfield 71, 3) := by decide +kernel
theorem dX9_take_135 : decode cX9_take 135 = .ok (.iload_n 3, 1) := by decide +kernel
theorem dX9_take_136 : decode cX9_take 136 = .ok (.iaload, 1) := by decide +kernel
theorem dX9_take_137 : decode cX9_take 137 = .ok (.if_icmp .ne 10, 3) := by decide +kernel
theorem dX9_take_140 : decode cX9_take 140 = .ok (.iload 7, 2) := by decide +kernel
theorem dX9_take_142 : decode cX9_take 142 = .ok (.iconst 1, 1) := by decide +kernel
theorem dX9_take_143 : decode cX9_take 143 = .ok (.isub, 1) := by decide +kernel
theorem dX9_take_144 : decode cX9_take 144 = .ok (.goto 7, 3) := by decide +kernel
theorem dX9_take_147 : decode cX9_take 147 = .ok (.iload 7, 2) := by decide +kernel
theorem dX9_take_149 : decode cX9_take 149 = .ok (.iconst 1, 1) := by decide +kernel
theorem dX9_take_150 : decode cX9_take 150 = .ok (.iadd, 1) := by decide +kernel
theorem dX9_take_151 : decode cX9_take 151 = .ok (.istore 8, 2) := by decide +kernel
theorem dX9_take_153 : decode cX9_take 153 = .ok (.aload_n 0, 1) := by decide +kernel
theorem dX9_take_154 : decode cX9_take 154 = .ok (.getfield 37, 3) := by decide +kernel
theorem dX9_take_157 : decode cX9_take 157 = .ok (.iload 6, 2) := by decide +kernel
theorem dX9_take_159 : decode cX9_take 159 = .ok (.iload 8, 2) := by decide +kernel
theorem dX9_take_161 : decode cX9_take 161 = .ok (.ifCond .ge 7, 3) := by decide +kernel
theorem dX9_take_164 : decode cX9_take 164 = .ok (.iconst 0, 1) := by decide +kernel
theorem dX9_take_165 : decode cX9_take 165 = .ok (.goto 17, 3) := by decide +kernel
theorem dX9_take_168 : decode cX9_take 168 = .ok (.iload 8, 2) := by decide +kernel
theorem dX9_take_170 : decode cX9_take 170 = .ok (.bipush 99, 2) := by decide +kernel
theorem dX9_take_172 : decode cX9_take 172 = .ok (.if_icmp .le 8, 3) := by decide +kernel
theorem dX9_take_175 : decode cX9_take 175 = .ok (.bipush 99, 2) := by decide +kernel
theorem dX9_take_177 : decode cX9_take 177 = .ok (.goto 5, 3) := by decide +kernel
theorem dX9_take_180 : decode cX9_take 180 = .ok (.iload 8, 2) := by decide +kernel
theorem dX9_take_182 : decode cX9_take 182 = .ok (.iastore, 1) := by decide +kernel
theorem dX9_take_183 : decode cX9_take 183 = .ok (.iload_n 2, 1) := by decide +kernel
theorem dX9_take_184 : decode cX9_take 184 = .ok (.aload_n 0, 1) := by decide +kernel
theorem dX9_take_185 : decode cX9_take 185 = .ok (.getfield 37, 3) := by decide +kernel
theorem dX9_take_188 : decode cX9_take 188 = .ok (.iload 6, 2) := by decide +kernel
theorem dX9_take_190 : decode cX9_take 190 = .ok (.iaload, 1) := by decide +kernel
theorem dX9_take_191 : decode cX9_take 191 = .ok (.iload 7, 2) := by decide +kernel
theorem dX9_take_193 : decode cX9_take 193 = .ok (.if_icmp .ne 7, 3) := by decide +kernel
theorem dX9_take_196 : decode cX9_take 196 = .ok (.iconst 0, 1) := by decide +kernel
theorem dX9_take_197 : decode cX9_take 197 = .ok (.goto 4, 3) := by decide +kernel
theorem dX9_take_200 : decode cX9_take 200 = .ok (.iconst 1, 1) := by decide +kernel
theorem dX9_take_201 : decode cX9_take 201 = .ok (.iadd, 1) := by decide +kernel
theorem dX9_take_202 : decode cX9_take 202 = .ok (.istore_n 2, 1) := by decide +kernel
theorem dX9_take_203 : decode cX9_take 203 = .ok (.iinc 5 1, 3) := by decide +kernel
theorem dX9_take_206 : decode cX9_take 206 = .ok (.goto (-120), 3) := by decide +kernel
theorem dX9_take_209 : decode cX9_take 209 = .ok (.iinc 3 1, 3) := by decide +kernel
theorem dX9_take_212 : decode cX9_take 212 = .ok (.goto (-198), 3) := by decide +kernel
theorem dX9_take_215 : decode cX9_take 215 = .ok (.iload_n 2, 1) := by decide +kernel
theorem dX9_take_216 : decode cX9_take 216 = .ok (.ireturn, 1) := by decide +kernel
theorem dX9_why_0 : decode cX9_why 0 = .ok (.aload_n 0, 1) := by decide +kernel
theorem dX9_why_1 : decode cX9_why 1 = .ok (.iload_n 1, 1) := by decide +kernel
theorem dX9_why_2 : decode cX9_why 2 = .ok (.invokevirtual 179, 3) := by decide +kernel
theorem dX9_why_5 : decode cX9_why 5 = .ok (.ifCond .ne 5, 3) := by decide +kernel
theorem dX9_why_8 : decode cX9_why 8 = .ok (.iconst (-1), 1) := by decide +kernel
theorem dX9_why_9 : decode cX9_why 9 = .ok (.ireturn, 1) := by decide +kernel
theorem dX9_why_10 : decode cX9_why 10 = .ok (.bipush (-5), 2) := by decide +kernel
theorem dX9_why_12 : decode cX9_why 12 = .ok (.istore_n 2, 1) := by decide +kernel
theorem dX9_why_13 : decode cX9_why 13 = .ok (.iconst 0, 1) := by decide +kernel
theorem dX9_why_14 : decode cX9_why 14 = .ok (.istore_n 3, 1) := by decide +kernel
theorem dX9_why_15 : decode cX9_why 15 = .ok (.iconst 0, 1) := by decide +kernel
theorem dX9_why_16 : decode cX9_why 16 = .ok (.istore 4, 2) := by decide +kernel
theorem dX9_why_18 : decode cX9_why 18 = .ok (.iload 4, 2) := by decide +kernel
theorem dX9_why_20 : decode cX9_why 20 = .ok (.iconst 1, 1) := by decide +kernel
theorem dX9_why_21 : decode cX9_why 21 = .ok (.aload_n 0, 1) := by decide +kernel
theorem dX9_why_22 : decode cX9_why 22 = .ok (.getfield 132, 3) := by decide +kernel
theorem dX9_why_25 : decode cX9_why 25 = .ok (.ishl, 1) := by decide +kernel
theorem dX9_why_26 : decode cX9_why 26 = .ok (.if_icmp .ge 67, 3) := by decide +kernel
theorem dX9_why_29 : decode cX9_why 29 = .ok (.iconst 0, 1) := by decide +kernel
theorem dX9_why_30 : decode cX9_why 30 = .ok (.istore 5, 2) := by decide +kernel
theorem dX9_why_32 : decode cX9_why 32 = .ok (.iconst 0, 1) := by decide +kernel
theorem dX9_why_33 : decode cX9_why 33 = .ok (.istore 6, 2) := by decide +kernel
theorem dX9_why_35 : decode cX9_why 35 = .ok (.iload 6, 2) := by decide +kernel
theorem dX9_why_37 : decode cX9_why 37 = .ok (.aload_n 0, 1) := by decide +kernel
theorem dX9_why_38 : decode cX9_why 38 = .ok (.getfield 132, 3) := by decide +kernel
theorem dX9_why_41 : decode cX9_why 41 = .ok (.if_icmp .ge 21, 3) := by decide +kernel
theorem dX9_why_44 : decode cX9_why 44 = .ok (.iload 5, 2) := by decide +kernel
theorem dX9_why_46 : decode cX9_why 46 = .ok (.iload 4, 2) := by decide +kernel
theorem dX9_why_48 : decode cX9_why 48 = .ok (.iload 6, 2) := by decide +kernel
theorem dX9_why_50 : decode cX9_why 50 = .ok (.ishr, 1) := by decide +kernel
theorem dX9_why_51 : decode cX9_why 51 = .ok (.iconst 1, 1) := by decide +kernel
theorem dX9_why_52 : decode cX9_why 52 = .ok (.iand, 1) := by decide +kernel
theorem dX9_why_53 : decode cX9_why 53 = .ok (.iadd, 1) := by decide +kernel
theorem dX9_why_54 : decode cX9_why 54 = .ok (.istore 5, 2) := by decide +kernel
theorem dX9_why_56 : decode cX9_why 56 = .ok (.iinc 6 1, 3) := by decide +kernel
theorem dX9_why_59 : decode cX9_why 59 = .ok (.goto (-24), 3) := by decide +kernel
theorem dX9_why_62 : decode cX9_why 62 = .ok (.aload_n 0, 1) := by decide +kernel
theorem dX9_why_63 : decode cX9_why 63 = .ok (.iload 4, 2) := by decide +kernel
theorem dX9_why_65 : decode cX9_why 65 = .ok (.invokevirtual 176, 3) := by decide +kernel
theorem dX9_why_68 : decode cX9_why 68 = .ok (.ifCond .le 19, 3) := by decide +kernel
theorem dX9_why_71 : decode cX9_why 71 = .ok (.iload_n 2, 1) := by decide +kernel
theorem dX9_why_72 : decode cX9_why 72 = .ok (.ifCond .lt 9, 3) := by decide +kernel
theorem dX9_why_75 : decode cX9_why 75 = .ok (.iload 5, 2) := by decide +kernel
theorem dX9_why_77 : decode cX9_why 77 = .ok (.iload_n 3, 1) := by decide +kernel
theorem dX9_why_78 : decode cX9_why 78 = .ok (.if_icmp .ge 9, 3) := by decide +kernel
theorem dX9_why_81 : decode cX9_why 81 = .ok (.iload 4, 2) := by decide +kernel
theorem dX9_why_83 : decode cX9_why 83 = .ok (.istore_n 2, 1) := by decide +kernel
theorem dX9_why_84 : decode cX9_why 84 = .ok (.iload 5, 2) := by decide +kernel
theorem dX9_why_86 : decode cX9_why 86 = .ok (.istore_n 3, 1) := by decide +kernel
theorem dX9_why_87 : decode cX9_why 87 = .ok (.iinc 4 1, 3) := by decide +kernel
theorem dX9_why_90 : decode cX9_why 90 = .ok (.goto (-72), 3) := by decide +kernel
theorem dX9_why_93 : decode cX9_why 93 = .ok (.iload_n 2, 1) := by decide +kernel
theorem dX9_why_94 : decode cX9_why 94 = .ok (.ireturn, 1) := by decide +kernel
theorem dX9_count_0 : decode cX9_count 0 = .ok (.iconst 0, 1) := by decide +kernel
theorem dX9_count_1 : decode cX9_count 1 = .ok (.istore_n 2, 1) := by decide +kernel
theorem dX9_count_2 : decode cX9_count 2 = .ok (.iconst 0, 1) := by decide +kernel
theorem dX9_count_3 : decode cX9_count 3 = .ok (.istore_n 3, 1) := by decide +kernel
theorem dX9_count_4 : decode cX9_count 4 = .ok (.iload_n 3, 1) := by decide +kernel
theorem dX9_count_5 : decode cX9_count 5 = .ok (.bipush 40, 2) := by decide +kernel
theorem dX9_count_7 : decode cX9_count 7 = .ok (.if_icmp .ge 18, 3) := by decide +kernel
theorem dX9_count_10 : decode cX9_count 10 = .ok (.iload_n 2, 1) := by decide +kernel
theorem dX9_count_11 : decode cX9_count 11 = .ok (.aload_n 0, 1) := by decide +kernel
theorem dX9_count_12 : decode cX9_count 12 = .ok (.getfield 22, 3) := by decide +kernel
theorem dX9_count_15 : decode cX9_count 15 = .ok (.iload_n 3, 1) := by decide +kernel
theorem dX9_count_16 : decode cX9_count 16 = .ok (.iaload, 1) := by decide +kernel
theorem dX9_count_17 : decode cX9_count 17 = .ok (.iadd, 1) := by decide +kernel
theorem dX9_count_18 : decode cX9_count 18 = .ok (.istore_n 2, 1) := by decide +kernel
theorem dX9_count_19 : decode cX9_count 19 = .ok (.iinc 3 1, 3) := by decide +kernel
theorem dX9_count_22 : decode cX9_count 22 = .ok (.goto (-18), 3) := by decide +kernel
theorem dX9_count_25 : decode cX9_count 25 = .ok (.iload_n 1, 1) := by decide +kernel
theorem dX9_count_26 : decode cX9_count 26 = .ok (.ifCond .ne 10, 3) := by decide +kernel
theorem dX9_count_29 : decode cX9_count 29 = .ok (.aload_n 0, 1) := by decide +kernel
theorem dX9_count_30 : decode cX9_count 30 = .ok (.getfield 89, 3) := by decide +kernel
theorem dX9_count_33 : decode cX9_count 33 = .ok (.goto 25, 3) := by decide +kernel
theorem dX9_count_36 : decode cX9_count 36 = .ok (.iload_n 1, 1) := by decide +kernel
theorem dX9_count_37 : decode cX9_count 37 = .ok (.iconst 1, 1) := by decide +kernel
theorem dX9_count_38 : decode cX9_count 38 = .ok (.if_icmp .ne 10, 3) := by decide +kernel
theorem dX9_count_41 : decode cX9_count 41 = .ok (.aload_n 0, 1) := by decide +kernel
theorem dX9_count_42 : decode cX9_count 42 = .ok (.getfield 121, 3) := by decide +kernel
theorem dX9_count_45 : decode cX9_count 45 = .ok (.goto 13, 3) := by decide +kernel
theorem dX9_count_48 : decode cX9_count 48 = .ok (.iload_n 1, 1) := by decide +kernel
theorem dX9_count_49 : decode cX9_count 49 = .ok (.iconst 2, 1) := by decide +kernel
theorem dX9_count_50 : decode cX9_count 50 = .ok (.if_icmp .ne 7, 3) := by decide +kernel
theorem dX9_count_53 : decode cX9_count 53 = .ok (.iload_n 2, 1) := by decide +kernel
theorem dX9_count_54 : decode cX9_count 54 = .ok (.goto 4, 3) := by decide +kernel
theorem dX9_count_57 : decode cX9_count 57 = .ok (.iconst (-1), 1) := by decide +kernel
theorem dX9_count_58 : decode cX9_count 58 = .ok (.ireturn, 1) := by decide +kernel
