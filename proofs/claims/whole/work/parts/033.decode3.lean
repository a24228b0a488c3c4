theorem dX9_four_0 : decode cX9_four 0 = .ok (.ldc2_w 51, 3) := by decide +kernel
theorem dX9_four_3 : decode cX9_four 3 = .ok (.ldc2_w 51, 3) := by decide +kernel
theorem dX9_four_6 : decode cX9_four 6 = .ok (.ldc2_w 51, 3) := by decide +kernel
theorem dX9_four_9 : decode cX9_four 9 = .ok (.iload_n 0, 1) := by decide +kernel
theorem dX9_four_10 : decode cX9_four 10 = .ok (.i2l, 1) := by decide +kernel
theorem dX9_four_11 : decode cX9_four 11 = .ok (.ldc2_w 53, 3) := by decide +kernel
theorem dX9_four_14 : decode cX9_four 14 = .ok (.lsub, 1) := by decide +kernel
theorem dX9_four_15 : decode cX9_four 15 = .ok (.lmul, 1) := by decide +kernel
theorem dX9_four_16 : decode cX9_four 16 = .ok (.iload_n 1, 1) := by decide +kernel
theorem dX9_four_17 : decode cX9_four 17 = .ok (.i2l, 1) := by decide +kernel
theorem dX9_four_18 : decode cX9_four 18 = .ok (.ladd, 1) := by decide +kernel
theorem dX9_four_19 : decode cX9_four 19 = .ok (.ldc2_w 53, 3) := by decide +kernel
theorem dX9_four_22 : decode cX9_four 22 = .ok (.lsub, 1) := by decide +kernel
theorem dX9_four_23 : decode cX9_four 23 = .ok (.lmul, 1) := by decide +kernel
theorem dX9_four_24 : decode cX9_four 24 = .ok (.iload_n 2, 1) := by decide +kernel
theorem dX9_four_25 : decode cX9_four 25 = .ok (.i2l, 1) := by decide +kernel
theorem dX9_four_26 : decode cX9_four 26 = .ok (.ladd, 1) := by decide +kernel
theorem dX9_four_27 : decode cX9_four 27 = .ok (.ldc2_w 53, 3) := by decide +kernel
theorem dX9_four_30 : decode cX9_four 30 = .ok (.lsub, 1) := by decide +kernel
theorem dX9_four_31 : decode cX9_four 31 = .ok (.lmul, 1) := by decide +kernel
theorem dX9_four_32 : decode cX9_four 32 = .ok (.iload_n 3, 1) := by decide +kernel
theorem dX9_four_33 : decode cX9_four 33 = .ok (.i2l, 1) := by decide +kernel
theorem dX9_four_34 : decode cX9_four 34 = .ok (.ladd, 1) := by decide +kernel
theorem dX9_four_35 : decode cX9_four 35 = .ok (.ldc2_w 53, 3) := by decide +kernel
theorem dX9_four_38 : decode cX9_four 38 = .ok (.lsub, 1) := by decide +kernel
theorem dX9_four_39 : decode cX9_four 39 = .ok (.lreturn, 1) := by decide +kernel
theorem dX9_wordOf_0 : decode cX9_wordOf 0 = .ok (.iload_n 0, 1) := by decide +kernel
theorem dX9_wordOf_1 : decode cX9_wordOf 1 = .ok (.tableswitch 147 0 5 #[39, 59, 79, 107, 119, 123], 39) := by decide +kernel
theorem dX9_wordOf_40 : decode cX9_wordOf 40 = .ok (.ldc2_w 51, 3) := by decide +kernel
theorem dX9_wordOf_43 : decode cX9_wordOf 43 = .ok (.bipush 109, 2) := by decide +kernel
theorem dX9_wordOf_45 : decode cX9_wordOf 45 = .ok (.bipush 111, 2) := by decide +kernel
theorem dX9_wordOf_47 : decode cX9_wordOf 47 = .ok (.bipush 110, 2) := by decide +kernel
theorem dX9_wordOf_49 : decode cX9_wordOf 49 = .ok (.bipush 116, 2) := by decide +kernel
theorem dX9_wordOf_51 : decode cX9_wordOf 51 = .ok (.invokestatic 55, 3) := by decide +kernel
theorem dX9_wordOf_54 : decode cX9_wordOf 54 = .ok (.lmul, 1) := by decide +kernel
theorem dX9_wordOf_55 : decode cX9_wordOf 55 = .ok (.ldc2_w 59, 3) := by decide +kernel
theorem dX9_wordOf_58 : decode cX9_wordOf 58 = .ok (.ladd, 1) := by decide +kernel
theorem dX9_wordOf_59 : decode cX9_wordOf 59 = .ok (.lreturn, 1) := by decide +kernel
theorem dX9_wordOf_60 : decode cX9_wordOf 60 = .ok (.ldc2_w 51, 3) := by decide +kernel
theorem dX9_wordOf_63 : decode cX9_wordOf 63 = .ok (.bipush 105, 2) := by decide +kernel
theorem dX9_wordOf_65 : decode cX9_wordOf 65 = .ok (.bipush 110, 2) := by decide +kernel
theorem dX9_wordOf_67 : decode cX9_wordOf 67 = .ok (.bipush 100, 2) := by decide +kernel
theorem dX9_wordOf_69 : decode cX9_wordOf 69 = .ok (.bipush 101, 2) := by decide +kernel
theorem dX9_wordOf_71 : decode cX9_wordOf 71 = .ok (.invokestatic 55, 3) := by decide +kernel
theorem dX9_wordOf_74 : decode cX9_wordOf 74 = .ok (.lmul, 1) := by decide +kernel
theorem dX9_wordOf_75 : decode cX9_wordOf 75 = .ok (.ldc2_w 61, 3) := by decide +kernel
theorem dX9_wordOf_78 : decode cX9_wordOf 78 = .ok (.ladd, 1) := by decide +kernel
theorem dX9_wordOf_79 : decode cX9_wordOf 79 = .ok (.lreturn, 1) := by decide +kernel
theorem dX9_wordOf_80 : decode cX9_wordOf 80 = .ok (.ldc2_w 63, 3) := by decide +kernel
theorem dX9_wordOf_83 : decode cX9_wordOf 83 = .ok (.bipush 99, 2) := by decide +kernel
theorem dX9_wordOf_85 : decode cX9_wordOf 85 = .ok (.bipush 111, 2) := by decide +kernel
theorem dX9_wordOf_87 : decode cX9_wordOf 87 = .ok (.bipush 110, 2) := by decide +kernel
theorem dX9_wordOf_89 : decode cX9_wordOf 89 = .ok (.bipush 116, 2) := by decide +kernel
theorem dX9_wordOf_91 : decode cX9_wordOf 91 = .ok (.invokestatic 55, 3) := by decide +kernel
theorem dX9_wordOf_94 : decode cX9_wordOf 94 = .ok (.lmul, 1) := by decide +kernel
theorem dX9_wordOf_95 : decode cX9_wordOf 95 = .ok (.bipush 114, 2) := by decide +kernel
theorem dX9_wordOf_97 : decode cX9_wordOf 97 = .ok (.bipush 97, 2) := by decide +kernel
theorem dX9_wordOf_99 : decode cX9_wordOf 99 = .ok (.bipush 99, 2) := by decide +kernel
theorem dX9_wordOf_101 : decode cX9_wordOf 101 = .ok (.bipush 116, 2) := by decide +kernel
theorem dX9_wordOf_103 : decode cX9_wordOf 103 = .ok (.invokestatic 55, 3) := by decide +kernel
theorem dX9_wordOf_106 : decode cX9_wordOf 106 = .ok (.ladd, 1) := by decide +kernel
theorem dX9_wordOf_107 : decode cX9_wordOf 107 = .ok (.lreturn, 1) := by decide +kernel
theorem dX9_wordOf_108 : decode cX9_wordOf 108 = .ok (.bipush 98, 2) := by decide +kernel
theorem dX9_wordOf_110 : decode cX9_wordOf 110 = .ok (.bipush 97, 2) := by decide +kernel
theorem dX9_wordOf_112 : decode cX9_wordOf 112 = .ok (.bipush 115, 2) := by decide +kernel
theorem dX9_wordOf_114 : decode cX9_wordOf 114 = .ok (.bipush 101, 2) := by decide +kernel
theorem dX9_wordOf_116 : decode cX9_wordOf 116 = .ok (.invokestatic 55, 3) := by decide +kernel
theorem dX9_wordOf_119 : decode cX9_wordOf 119 = .ok (.lreturn, 1) := by decide +kernel
theorem dX9_wordOf_120 : decode cX9_wordOf 120 = .ok (.ldc2_w 65, 3) := by decide +kernel
theorem dX9_wordOf_123 : decode cX9_wordOf 123 = .ok (.lreturn, 1) := by decide +kernel
theorem dX9_wordOf_124 : decode cX9_wordOf 124 = .ok (.ldc2_w 67, 3) := by decide +kernel
theorem dX9_wordOf_127 : decode cX9_wordOf 127 = .ok (.bipush 98, 2) := by decide +kernel
theorem dX9_wordOf_129 : decode cX9_wordOf 129 = .ok (.bipush 101, 2) := by decide +kernel
theorem dX9_wordOf_131 : decode cX9_wordOf 131 = .ok (.bipush 121, 2) := by decide +kernel
theorem dX9_wordOf_133 : decode cX9_wordOf 133 = .ok (.bipush 111, 2) := by decide +kernel
theorem dX9_wordOf_135 : decode cX9_wordOf 135 = .ok (.invokestatic 55, 3) := by decide +kernel
theorem dX9_wordOf_138 : decode cX9_wordOf 138 = .ok (.lmul, 1) := by decide +kernel
theorem dX9_wordOf_139 : decode cX9_wordOf 139 = .ok (.ldc2_w 69, 3) := by decide +kernel
theorem dX9_wordOf_142 : decode cX9_wordOf 142 = .ok (.ladd, 1) := by decide +kernel
theorem dX9_wordOf_143 : decode cX9_wordOf 143 = .ok (.ldc2_w 71, 3) := by decide +kernel
theorem dX9_wordOf_146 : decode cX9_wordOf 146 = .ok (.ladd, 1) := by decide +kernel
theorem dX9_wordOf_147 : decode cX9_wordOf 147 = .ok (.lreturn, 1) := by decide +kernel
theorem dX9_wordOf_148 : decode cX9_wordOf 148 = .ok (.ldc2_w 51, 3) := by decide +kernel
theorem dX9_wordOf_151 : decode cX9_wordOf 151 = .ok (.bipush 115, 2) := by decide +kernel
theorem dX9_wordOf_153 : decode cX9_wordOf 153 = .ok (.bipush 104, 2) := by decide +kernel
theorem dX9_wordOf_155 : decode cX9_wordOf 155 = .ok (.bipush 97, 2) := by decide +kernel
theorem dX9_wordOf_157 : decode cX9_wordOf 157 = .ok (.bipush 114, 2) := by decide +kernel
theorem dX9_wordOf_159 : decode cX9_wordOf 159 = .ok (.invokestatic 55, 3) := by decide +kernel
theorem dX9_wordOf_162 : decode cX9_wordOf 162 = .ok (.lmul, 1) := by decide +kernel
theorem dX9_wordOf_163 : decode cX9_wordOf 163 = .ok (.ldc2_w 73, 3) := by decide +kernel
theorem dX9_wordOf_166 : decode cX9_wordOf 166 = .ok (.ladd, 1) := by decide +kernel
theorem dX9_wordOf_167 : decode cX9_wordOf 167 = .ok (.lreturn, 1) := by decide +kernel
theorem dX9_is_0 : decode cX9_is 0 = .ok (.aload_n 0, 1) := by decide +kernel
theorem dX9_is_1 : decode cX9_is 1 = .ok (.getfield 27, 3) := by decide +kernel
theorem dX9_is_4 : decode cX9_is 4 = .ok (.iconst 2, 1) := by decide +kernel
theorem dX9_is_5 : decode cX9_is 5 = .ok (.if_icmp .ne 19, 3) := by decide +kernel
theorem dX9_is_8 : decode cX9_is 8 = .ok (.aload_n 0, 1) := by decide +kernel
theorem dX9_is_9 : decode cX9_is 9 = .ok (.getfield 40, 3) := by decide +kernel
theorem dX9_is_12 : decode cX9_is 12 = .ok (.iload_n 1, 1) := by decide +kernel
theorem dX9_is_13 : decode cX9_is 13 = .ok (.invokestatic 75, 3) := by decide +kernel
theorem dX9_is_16 : decode cX9_is 16 = .ok (.lcmp, 1) := by decide +kernel
theorem dX9_is_17 : decode cX9_is 17 = .ok (.ifCond .ne 7, 3) := by decide +kernel
theorem dX9_is_20 : decode cX9_is 20 = .ok (.iconst 1, 1) := by decide +kernel
theorem dX9_is_21 : decode cX9_is 21 = .ok (.goto 4, 3) := by decide +kernel
theorem dX9_is_24 : decode cX9_is 24 = .ok (.iconst 0, 1) := by decide +kernel
theorem dX9_is_25 : decode cX9_is 25 = .ok (.ireturn, 1) := by decide +kernel
theorem dX9_isName_0 : decode cX9_isName 0 = .ok (.aload_n 0, 1) := by decide +kernel
theorem dX9_isName_1 : decode cX9_isName 1 = .ok (.getfield 27, 3) := by decide +kernel
theorem dX9_isName_4 : decode cX9_isName 4 = .ok (.iconst 2, 1) := by decide +kernel
theorem dX9_isName_5 : decode cX9_isName 5 = .ok (.if_icmp .ne 7, 3) := by decide +kernel
theorem dX9_isName_8 : decode cX9_isName 8 = .ok (.iconst 1, 1) := by decide +kernel
theorem dX9_isName_9 : decode cX9_isName 9 = .ok (.goto 4, 3) := by decide +kernel
theorem dX9_isName_12 : decode cX9_isName 12 = .ok (.iconst 0, 1) := by decide +kernel
theorem dX9_isName_13 : decode cX9_isName 13 = .ok (.istore_n 1, 1) := by decide +kernel
theorem dX9_isName_14 : decode cX9_isName 14 = .ok (.iconst 0, 1) := by decide +kernel
theorem dX9_isName_15 : decode cX9_isName 15 = .ok (.istore_n 2, 1) := by decide +kernel
theorem dX9_isName_16 : decode cX9_isName 16 = .ok (.iload_n 2, 1) := by decide +kernel
theorem dX9_isName_17 : decode cX9_isName 17 = .ok (.bipush 6, 2) := by decide +kernel
theorem dX9_isName_19 : decode cX9_isName 19 = .ok (.if_icmp .gt 31, 3) := by decide +kernel
theorem dX9_isName_22 : decode cX9_isName 22 = .ok (.iload_n 1, 1) := by decide +kernel
theorem dX9_isName_23 : decode cX9_isName 23 = .ok (.ifCond .eq 19, 3) := by decide +kernel
theorem dX9_isName_26 : decode cX9_isName 26 = .ok (.aload_n 0, 1) := by decide +kernel
theorem dX9_isName_27 : decode cX9_isName 27 = .ok (.getfield 40, 3) := by decide +kernel
theorem dX9_isName_30 : decode cX9_isName 30 = .ok (.iload_n 2, 1) := by decide +kernel
theorem dX9_isName_31 : decode cX9_isName 31 = .ok (.invokestatic 75, 3) := by decide +kernel
theorem dX9_isName_34 : decode cX9_isName 34 = .ok (.lcmp, 1) := by decide +kernel
theorem dX9_isName_35 : decode cX9_isName 35 = .ok (.ifCond .eq 7, 3) := by decide +kernel
theorem dX9_isName_38 : decode cX9_isName 38 = .ok (.iconst 1, 1) := by decide +kernel
theorem dX9_isName_39 : decode cX9_isName 39 = .ok (.goto 4, 3) := by decide +kernel
theorem dX9_isName_42 : decode cX9_isName 42 = .ok (.iconst 0, 1) := by decide +kernel
theorem dX9_isName_43 : decode cX9_isName 43 = .ok (.istore_n 1, 1) := by decide +kernel
theorem dX9_isName_44 : decode cX9_isName 44 = .ok (.iinc 2 1, 3) := by decide +kernel
theorem dX9_isName_47 : decode cX9_isName 47 = .ok (.goto (-31), 3) := by decide +kernel
theorem dX9_isName_50 : decode cX9_isName 50 = .ok (.iload_n 1, 1) := by decide +kernel
theorem dX9_isName_51 : decode cX9_isName 51 = .ok (.ireturn, 1) := by decide +kernel
theorem dX9_isSign_0 : decode cX9_isSign 0 = .ok (.aload_n 0, 1) := by decide +kernel
theorem dX9_isSign_1 : decode cX9_isSign 1 = .ok (.getfield 27, 3) := by decide +kernel
theorem dX9_isSign_4 : decode cX9_isSign 4 = .ok (.iconst 4, 1) := by decide +kernel
theorem dX9_isSign_5 : decode cX9_isSign 5 = .ok (.if_icmp .ne 15, 3) := by decide +kernel
theorem dX9_isSign_8 : decode cX9_isSign 8 = .ok (.aload_n 0, 1) := by decide +kernel
theorem dX9_isSign_9 : decode cX9_isSign 9 = .ok (.getfield 37, 3) := by decide +kernel
theorem dX9_isSign_12 : decode cX9_isSign 12 = .ok (.iload_n 1, 1) := by decide +kernel
theorem dX9_isSign_13 : decode cX9_isSign 13 = .ok (.if_icmp .ne 7, 3) := by decide +kernel
theorem dX9_isSign_16 : decode cX9_isSign 16 = .ok (.iconst 1, 1) := by decide +kernel
theorem dX9_isSign_17 : decode cX9_isSign 17 = .ok (.goto 4, 3) := by decide +kernel
theorem dX9_isSign_20 : decode cX9_isSign 20 = .ok (.iconst 0, 1) := by decide +kernel
theorem dX9_isSign_21 : decode cX9_isSign 21 = .ok (.ireturn, 1) := by decide +kernel
theorem dX9_bad_0 : decode cX9_bad 0 = .ok (.aload_n 0, 1) := by decide +kernel
theorem dX9_bad_1 : decode cX9_bad 1 = .ok (.aload_n 0, 1) := by decide +kernel
theorem dX9_bad_2 : decode cX9_bad 2 = .ok (.getfield 27, 3) := by decide +kernel
theorem dX9_bad_5 : decode cX9_bad 5 = .ok (.iconst 1, 1) := by decide +kernel
theorem dX9_bad_6 : decode cX9_bad 6 = .ok (.if_icmp .ne 7, 3) := by decide +kernel
theorem dX9_bad_9 : decode cX9_bad 9 = .ok (.iconst 1, 1) := by decide +kernel
theorem dX9_bad_10 : decode cX9_bad 10 = .ok (.goto 4, 3) := by decide +kernel
theorem dX9_bad_13 : decode cX9_bad 13 = .ok (.iload_n 1, 1) := by decide +kernel
theorem dX9_bad_14 : decode cX9_bad 14 = .ok (.putfield 79, 3) := by decide +kernel
theorem dX9_bad_17 : decode cX9_bad 17 = .ok (.aload_n 0, 1) := by decide +kernel
theorem dX9_bad_18 : decode cX9_bad 18 = .ok (.aload_n 0, 1) := by decide +kernel
theorem dX9_bad_19 : decode cX9_bad 19 = .ok (.getfield 24, 3) := by decide +kernel
theorem dX9_bad_22 : decode cX9_bad 22 = .ok (.putfield 82, 3) := by decide +kernel
theorem dX9_bad_25 : decode cX9_bad 25 = .ok (.iconst 0, 1) := by decide +kernel
theorem dX9_bad_26 : decode cX9_bad 26 = .ok (.ireturn, 1) := by decide +kernel
theorem dX9_init_0 : decode cX9_init 0 = .ok (.aload_n 0, 1) := by decide +kernel
theorem dX9_init_1 : decode cX9_init 1 = .ok (.invokespecial 85, 3) := by decide +kernel
theorem dX9_init_4 : decode cX9_init 4 = .ok (.aload_n 0, 1) := by decide +kernel
theorem dX9_init_5 : decode cX9_init 5 = .ok (.sipush 740, 3) := by decide +kernel
theorem dX9_init_8 : decode cX9_init 8 = .ok (.newarray .int, 2) := by decide +kernel
theorem dX9_init_10 : decode cX9_init 10 = .ok (.putfield 7, 3) := by decide +kernel
theorem dX9_init_13 : decode cX9_init 13 = .ok (.aload_n 0, 1) := by decide +kernel
theorem dX9_init_14 : decode cX9_init 14 = .ok (.sipush 880, 3) := by decide +kernel
theorem dX9_init_17 : decode cX9_init 17 = .ok (.newarray .int, 2) := by decide +kernel
theorem dX9_init_19 : decode cX9_init 19 = .ok (.putfield 91, 3) := by decide +kernel
theorem dX9_init_22 : decode cX9_init 22 = .ok (.aload_n 0, 1) := by decide +kernel
theorem dX9_init_23 : decode cX9_init 23 = .ok (.sipush 880, 3) := by decide +kernel
theorem dX9_init_26 : decode cX9_init 26 = .ok (.newarray .int, 2) := by decide +kernel
theorem dX9_init_28 : decode cX9_init 28 = .ok (.putfield 94, 3) := by decide +kernel
theorem dX9_init_31 : decode cX9_init 31 = .ok (.aload_n 0, 1) := by decide +kernel
theorem dX9_init_32 : decode cX9_init 32 = .ok (.sipush 7040, 3) := by decide +kernel
theorem dX9_init_35 : decode cX9_init 35 = .ok (.newarray .int, 2) := by decide +kernel
theorem dX9_init_37 : decode cX9_init 37 = .ok (.putfield 97, 3) := by decide +kernel
theorem dX9_init_40 : decode cX9_init 40 = .ok (.aload_n 0, 1) := by decide +kernel
theorem dX9_init_41 : decode cX9_init 41 = .ok (.bipush 6, 2) := by decide +kernel
theorem dX9_init_43 : decode cX9_init 43 = .ok (.newarray .long, 2) := by decide +kernel
theorem dX9_init_45 : decode cX9_init 45 = .ok (.putfield 100, 3) := by decide +kernel
theorem dX9_init_48 : decode cX9_init 48 = .ok (.return_, 1) := by decide +kernel
theorem dX9_told_0 : decode cX9_told 0 = .ok (.aload_n 0, 1) := by decide +kernel
theorem dX9_told_1 : decode cX9_told 1 = .ok (.getfield 27, 3) := by decide +kernel
theorem dX9_told_4 : decode cX9_told 4 = .ok (.iconst 3, 1) := by decide +kernel
theorem dX9_told_5 : decode cX9_told 5 = .ok (.if_icmp .eq 9, 3) := by decide +kernel
theorem dX9_told_8 : decode cX9_told 8 = .ok (.aload_n 0, 1) := by decide +kernel
theorem dX9_told_9 : decode cX9_told 9 = .ok (.iconst 1, 1) := by decide +kernel
theorem dX9_told_10 : decode cX9_told 10 = .ok (.invokevirtual 104, 3) := by decide +kernel
theorem dX9_told_13 : decode cX9_told 13 = .ok (.ireturn, 1) := by decide +kernel
theorem dX9_told_14 : decode cX9_told 14 = .ok (.aload_n 0, 1) := by decide +kernel
theorem dX9_told_15 : decode cX9_told 15 = .ok (.getfield 44, 3) := by decide +kernel
theorem dX9_told_18 : decode cX9_told 18 = .ok (.iload_n 2, 1) := by decide +kernel
theorem dX9_told_19 : decode cX9_told 19 = .ok (.iload_n 3, 1) := by decide +kernel
theorem dX9_told_20 : decode cX9_told 20 = .ok (.invokestatic 107, 3) := by decide +kernel
theorem dX9_told_23 : decode cX9_told 23 = .ok (.ifCond .ne 9, 3) := by decide +kernel
theorem dX9_told_26 : decode cX9_told 26 = .ok (.aload_n 0, 1) := by decide +kernel
theorem dX9_told_27 : decode cX9_told 27 = .ok (.iconst 2, 1) := by decide +kernel
theorem dX9_told_28 : decode cX9_told 28 = .ok (.invokevirtual 104, 3) := by decide +kernel
theorem dX9_told_31 : decode cX9_told 31 = .ok (.ireturn, 1) := by decide +kernel
theorem dX9_told_32 : decode cX9_told 32 = .ok (.aload_n 0, 1) := by decide +kernel
theorem dX9_told_33 : decode cX9_told 33 = .ok (.getfield 94, 3) := by decide +kernel
theorem dX9_told_36 : decode cX9_told 36 = .ok (.iload_n 1, 1) := by decide +kernel
theorem dX9_told_37 : decode cX9_told 37 = .ok (.aload_n 0, 1) := by decide +kernel
theorem dX9_told_38 : decode cX9_told 38 = .ok (.getfield 44, 3) := by decide +kernel
theorem dX9_told_41 : decode cX9_told 41 = .ok (.iastore, 1) := by decide +kernel
theorem dX9_told_42 : decode cX9_told 42 = .ok (.aload_n 0, 1) := by decide +kernel
theorem dX9_told_43 : decode cX9_told 43 = .ok (.invokevirtual 111, 3) := by decide +kernel
theorem dX9_told_46 : decode cX9_told 46 = .ok (.iconst 1, 1) := by decide +kernel
theorem dX9_told_47 : decode cX9_told 47 = .ok (.ireturn, 1) := by decide +kernel
theorem dX9_named_0 : decode cX9_named 0 = .ok (.iconst 0, 1) := by decide +kernel
theorem dX9_named_1 : decode cX9_named 1 = .ok (.istore_n 1, 1) := by decide +kernel
theorem dX9_named_2 : decode cX9_named 2 = .ok (.iload_n 1, 1) := by decide +kernel
theorem dX9_named_3 : decode cX9_named 3 = .ok (.aload_n 0, 1) := by decide +kernel
theorem dX9_named_4 : decode cX9_named 4 = .ok (.getfield 94, 3) := by decide +kernel
theorem dX9_named_7 : decode cX9_named 7 = .ok (.iconst 1, 1) := by decide +kernel
theorem dX9_named_8 : decode cX9_named 8 = .ok (.iaload, 1) := by decide +kernel
theorem dX9_named_9 : decode cX9_named 9 = .ok (.if_icmp .ge 25, 3) := by decide +kernel
theorem dX9_named_12 : decode cX9_named 12 = .ok (.aload_n 0, 1) := by decide +kernel
theorem dX9_named_13 : decode cX9_named 13 = .ok (.getfield 100, 3) := by decide +kernel
theorem dX9_named_16 : decode cX9_named 16 = .ok (.iload_n 1, 1) := by decide +kernel
theorem dX9_named_17 : decode cX9_named 17 = .ok (.laload, 1) := by decide +kernel
theorem dX9_named_18 : decode cX9_named 18 = .ok (.aload_n 0, 1) := by decide +kernel
theorem dX9_named_19 : decode cX9_named 19 = .ok (.getfield 40, 3) := by decide +kernel
theorem dX9_named_22 : decode cX9_named 22 = .ok (.lcmp, 1) := by decide +kernel
theorem dX9_named_23 : decode cX9_named 23 = .ok (.ifCond .ne 5, 3) := by decide +kernel
theorem dX9_named_26 : decode cX9_named 26 = .ok (.iload_n 1, 1) := by decide +kernel
theorem dX9_named_27 : decode cX9_named 27 = .ok (.ireturn, 1) := by decide +kernel
theorem dX9_named_28 : decode cX9_named 28 = .ok (.iinc 1 1, 3) := by decide +kernel
theorem dX9_named_31 : decode cX9_named 31 = .ok (.goto (-29), 3) := by decide +kernel
theorem dX9_named_34 : decode cX9_named 34 = .ok (.iconst (-1), 1) := by decide +kernel
theorem dX9_named_35 : decode cX9_named 35 = .ok (.ireturn, 1) := by decide +kernel
theorem dX9_readWord_0 : decode cX9_readWord 0 = .ok (.aload_n 0, 1) := by decide +kernel
theorem dX9_readWord_1 : decode cX9_readWord 1 = .ok (.iload_n 1, 1) := by decide +kernel
theorem dX9_readWord_2 : decode cX9_readWord 2 = .ok (.invokevirtual 114, 3) := by decide +kernel
theorem dX9_readWord_5 : decode cX9_readWord 5 = .ok (.ifCond .ne 9, 3) := by decide +kernel
theorem dX9_readWord_8 : decode cX9_readWord 8 = .ok (.aload_n 0, 1) := by decide +kernel
theorem dX9_readWord_9 : decode cX9_readWord 9 = .ok (.iconst 1, 1) := by decide +kernel
theorem dX9_readWord_10 : decode cX9_readWord 10 = .ok (.invokevirtual 104, 3) := by decide +kernel
theorem dX9_readWord_13 : decode cX9_readWord 13 = .ok (.ireturn, 1) := by decide +kernel
theorem dX9_readWord_14 : decode cX9_readWord 14 = .ok (.aload_n 0, 1) := by decide +kernel
theorem dX9_readWord_15 : decode cX9_readWord 15 = .ok (.invokevirtual 111, 3) := by decide +kernel
theorem dX9_readWord_18 : decode cX9_readWord 18 = .ok (.iconst 1, 1) := by decide +kernel
theorem dX9_readWord_19 : decode cX9_readWord 19 = .ok (.ireturn, 1) := by decide +kernel
theorem dX9_readIndex_0 : decode cX9_readIndex 0 = .ok (.aload_n 0, 1) := by decide +kernel
theorem dX9_readIndex_1 : decode cX9_readIndex 1 = .ok (.getfield 94, 3) := by decide +kernel
theorem dX9_readIndex_4 : decode cX9_readIndex 4 = .ok (.iconst 1, 1) := by decide +kernel
theorem dX9_readIndex_5 : decode cX9_readIndex 5 = .ok (.iaload, 1) := by decide +kernel
theorem dX9_readIndex_6 : decode cX9_readIndex 6 = .ok (.istore_n 1, 1) := by decide +kernel
theorem dX9_readIndex_7 : decode cX9_readIndex 7 = .ok (.iload_n 1, 1) := by decide +kernel
theorem dX9_readIndex_8 : decode cX9_readIndex 8 = .ok (.bipush 6, 2) := by decide +kernel
theorem dX9_readIndex_10 : decode cX9_readIndex 10 = .ok (.if_icmp .ne 9, 3) := by decide +kernel
theorem dX9_readIndex_13 : decode cX9_readIndex 13 = .ok (.aload_n 0, 1) := by decide +kernel
theorem dX9_readIndex_14 : decode cX9_readIndex 14 = .ok (.iconst 4, 1) := by decide +kernel
theorem dX9_readIndex_15 : decode cX9_readIndex 15 = .ok (.invokevirtual 104, 3) := by decide +kernel
theorem dX9_readIndex_18 : decode cX9_readIndex 18 = .ok (.ireturn, 1) := by decide +kernel
theorem dX9_readIndex_19 : decode cX9_readIndex 19 = .ok (.aload_n 0, 1) := by decide +kernel
theorem dX9_readIndex_20 : decode cX9_readIndex 20 = .ok (.invokevirtual 111, 3) := by decide +kernel
theorem dX9_readIndex_23 : decode cX9_readIndex 23 = .ok (.aload_n 0, 1) := by decide +kernel
theorem dX9_readIndex_24 : decode cX9_readIndex 24 = .ok (.invokevirtual 117, 3) := by decide +kernel
theorem dX9_readIndex_27 : decode cX9_readIndex 27 = .ok (.ifCond .ne 9, 3) := by decide +kernel
theorem dX9_readIndex_30 : decode cX9_readIndex 30 = .ok (.aload_n 0, 1) := by decide +kernel
theorem dX9_readIndex_31 : decode cX9_readIndex 31 = .ok (.iconst 1, 1) := by decide +kernel
theorem dX9_readIndex_32 : decode cX9_readIndex 32 = .ok (.invokevirtual 104, 3) := by decide +kernel
theorem dX9_readIndex_35 : decode cX9_readIndex 35 = .ok (.ireturn, 1) := by decide +kernel
theorem dX9_readIndex_36 : decode cX9_readIndex 36 = .ok (.aload_n 0, 1) := by decide +kernel
theorem dX9_readIndex_37 : decode cX9_readIndex 37 = .ok (.invokevirtual 121, 3) := by decide +kernel
theorem dX9_readIndex_40 : decode cX9_readIndex 40 = .ok (.iconst (-1), 1) := by decide +kernel
theorem dX9_readIndex_41 : decode cX9_readIndex 41 = .ok (.if_icmp .eq 9, 3) := by decide +kernel
theorem dX9_readIndex_44 : decode cX9_readIndex 44 = .ok (.aload_n 0, 1) := by decide +kernel
theorem dX9_readIndex_45 : decode cX9_readIndex 45 = .ok (.iconst 3, 1) := by decide +kernel
theorem dX9_readIndex_46 : decode cX9_readIndex 46 = .ok (.invokevirtual 104, 3) := by decide +kernel
theorem dX9_readIndex_49 : decode cX9_readIndex 49 = .ok (.ireturn, 1) := by decide +kernel
theorem dX9_readIndex_50 : decode cX9_readIndex 50 = .ok (.aload_n 0, 1) := by decide +kernel
theorem dX9_readIndex_51 : decode cX9_readIndex 51 = .ok (.getfield 100, 3) := by decide +kernel
theorem dX9_readIndex_54 : decode cX9_readIndex 54 = .ok (.iload_n 1, 1) := by decide +kernel
theorem dX9_readIndex_55 : decode cX9_readIndex 55 = .ok (.aload_n 0, 1) := by decide +kernel
theorem dX9_readIndex_56 : decode cX9_readIndex 56 = .ok (.getfield 40, 3) := by decide +kernel
theorem dX9_readIndex_59 : decode cX9_readIndex 59 = .ok (.lastore, 1) := by decide +kernel
theorem dX9_readIndex_60 : decode cX9_readIndex 60 = .ok (.aload_n 0, 1) := by decide +kernel
theorem dX9_readIndex_61 : decode cX9_readIndex 61 = .ok (.invokevirtual 111, 3) := by decide +kernel
theorem dX9_readIndex_64 : decode cX9_readIndex 64 = .ok (.aload_n 0, 1) := by decide +kernel
theorem dX9_readIndex_65 : decode cX9_readIndex 65 = .ok (.getfield 27, 3) := by decide +kernel
theorem dX9_readIndex_68 : decode cX9_readIndex 68 = .ok (.iconst 3, 1) := by decide +kernel
theorem dX9_readIndex_69 : decode cX9_readIndex 69 = .ok (.if_icmp .eq 9, 3) := by decide +kernel
theorem dX9_readIndex_72 : decode cX9_readIndex 72 = .ok (.aload_n 0, 1) := by decide +kernel
theorem dX9_readIndex_73 : decode cX9_readIndex 73 = .ok (.iconst 1, 1) := by decide +kernel
theorem dX9_readIndex_74 : decode cX9_readIndex 74 = .ok (.invokevirtual 104, 3) := by decide +kernel
theorem dX9_readIndex_77 : decode cX9_readIndex 77 = .ok (.ireturn, 1) := by decide +kernel
theorem dX9_readIndex_78 : decode cX9_readIndex 78 = .ok (.iconst 0, 1) := by decide +kernel
theorem dX9_readIndex_79 : decode cX9_readIndex 79 = .ok (.istore_n 2, 1) := by decide +kernel
theorem dX9_readIndex_80 : decode cX9_readIndex 80 = .ok (.aload_n 0, 1) := by decide +kernel
theorem dX9_readIndex_81 : decode cX9_readIndex 81 = .ok (.getfield 27, 3) := by decide +kernel
theorem dX9_readIndex_84 : decode cX9_readIndex 84 = .ok (.iconst 3, 1) := by decide +kernel
theorem dX9_readIndex_85 : decode cX9_readIndex 85 = .ok (.if_icmp .ne 62, 3) := by decide +kernel
theorem dX9_readIndex_88 : decode cX9_readIndex 88 = .ok (.iload_n 2, 1) := by decide +kernel
theorem dX9_readIndex_89 : decode cX9_readIndex 89 = .ok (.aload_n 0, 1) := by decide +kernel
theorem dX9_readIndex_90 : decode cX9_readIndex 90 = .ok (.getfield 94, 3) := by decide +kernel
theorem dX9_readIndex_93 : decode cX9_readIndex 93 = .ok (.iconst 0, 1) := by decide +kernel
theorem dX9_readIndex_94 : decode cX9_readIndex 94 = .ok (.iaload, 1) := by decide +kernel
theorem dX9_readIndex_95 : decode cX9_readIndex 95 = .ok (.if_icmp .le 9, 3) := by decide +kernel
theorem dX9_readIndex_98 : decode cX9_readIndex 98 = .ok (.aload_n 0, 1) := by decide +kernel
theorem dX9_readIndex_99 : decode cX9_readIndex 99 = .ok (.iconst 2, 1) := by decide +kernel
theorem dX9_readIndex_100 : decode cX9_readIndex 100 = .ok (.invokevirtual 104, 3) := by decide +kernel
theorem dX9_readIndex_103 : decode cX9_readIndex 103 = .ok (.ireturn, 1) := by decide +kernel
theorem dX9_readIndex_104 : decode cX9_readIndex 104 = .ok (.aload_n 0, 1) := by decide +kernel
theorem dX9_readIndex_105 : decode cX9_readIndex 105 = .ok (.iconst 2, 1) := by decide +kernel
theorem dX9_readIndex_106 : decode cX9_readIndex 106 = .ok (.bipush 36, 2) := by decide +kernel
theorem dX9_readIndex_108 : decode cX9_readIndex 108 = .ok (.iload_n 1, 1) := by decide +kernel
theorem dX9_readIndex_109 : decode cX9_readIndex 109 = .ok (.imul, 1) := by decide +kernel
theorem dX9_readIndex_110 : decode cX9_readIndex 110 = .ok (.iadd, 1) := by decide +kernel
theorem dX9_readIndex_111 : decode cX9_readIndex 111 = .ok (.iload_n 2, 1) := by decide +kernel
theorem dX9_readIndex_112 : decode cX9_readIndex 112 = .ok (.iadd, 1) := by decide +kernel
theorem dX9_readIndex_113 : decode cX9_readIndex 113 = .ok (.iconst 1, 1) := by decide +kernel
theorem dX9_readIndex_114 : decode cX9_readIndex 114 = .ok (.sipush 999, 3) := by decide +kernel
theorem dX9_readIndex_117 : decode cX9_readIndex 117 = .ok (.invokevirtual 125, 3) := by decide +kernel
theorem dX9_readIndex_120 : decode cX9_readIndex 120 = .ok (.ifCond .ne 5, 3) := by decide +kernel
theorem dX9_readIndex_123 : decode cX9_readIndex 123 = .ok (.iconst 0, 1) := by decide +kernel
theorem dX9_readIndex_124 : decode cX9_readIndex 124 = .ok (.ireturn, 1) := by decide +kernel
theorem dX9_readIndex_125 : decode cX9_readIndex 125 = .ok (.aload_n 0, 1) := by decide +kernel
theorem dX9_readIndex_126 : decode cX9_readIndex 126 = .ok (.getfield 94, 3) := by decide +kernel
theorem dX9_readIndex_129 : decode cX9_readIndex 129 = .ok (.sipush 218, 3) := by decide +kernel
theorem dX9_readIndex_132 : decode cX9_readIndex 132 = .ok (.bipush 36, 2) := by decide +kernel
theorem dX9_readIndex_134 : decode cX9_readIndex 134 = .ok (.iload_n 1, 1) := by decide +kernel
theorem dX9_readIndex_135 : decode cX9_readIndex 135 = .ok (.imul, 1) := by decide +kernel
theorem dX9_readIndex_136 : decode cX9_readIndex 136 = .ok (.iadd, 1) := by decide +kernel
theorem dX9_readIndex_137 : decode cX9_readIndex 137 = .ok (.iload_n 2, 1) := by decide +kernel
theorem dX9_readIndex_138 : decode cX9_readIndex 138 = .ok (.iadd, 1) := by decide +kernel
theorem dX9_readIndex_139 : decode cX9_readIndex 139 = .ok (.iconst 2, 1) := by decide +kernel
theorem dX9_readIndex_140 : decode cX9_readIndex 140 = .ok (.iastore, 1) := by decide +kernel
theorem dX9_readIndex_141 : decode cX9_readIndex 141 = .ok (.iinc 2 1, 3) := by decide +kernel
theorem dX9_readIndex_144 : decode cX9_readIndex 144 = .ok (.goto (-64), 3) := by decide +kernel
theorem dX9_readIndex_147 : decode cX9_readIndex 147 = .ok (.aload_n 0, 1) := by decide +kernel
theorem dX9_readIndex_148 : decode cX9_readIndex 148 = .ok (.getfield 94, 3) := by decide +kernel
theorem dX9_readIndex_151 : decode cX9_readIndex 151 = .ok (.iconst 1, 1) := by decide +kernel
theorem dX9_readIndex_152 : decode cX9_readIndex 152 = .ok (.dup2, 1) := by decide +kernel
theorem dX9_readIndex_153 : decode cX9_readIndex 153 = .ok (.iaload, 1) := by decide +kernel
theorem dX9_readIndex_154 : decode cX9_readIndex 154 = .ok (.iconst 1, 1) := by decide +kernel
theorem dX9_readIndex_155 : decode cX9_readIndex 155 = .ok (.iadd, 1) := by decide +kernel
theorem dX9_readIndex_156 : decode cX9_readIndex 156 = .ok (.iastore, 1) := by decide +kernel
theorem dX9_readIndex_157 : decode cX9_readIndex 157 = .ok (.iconst 1, 1) := by decide +kernel
theorem dX9_readIndex_158 : decode cX9_readIndex 158 = .ok (.ireturn, 1) := by decide +kernel
theorem dX9_readTerms_0 : decode cX9_readTerms 0 = .ok (.aload_n 0, 1) := by decide +kernel
theorem dX9_readTerms_1 : decode cX9_readTerms 1 = .ok (.getfield 94, 3) := by decide +kernel
theorem dX9_readTerms_4 : decode cX9_readTerms 4 = .ok (.iload_n 1, 1) := by decide +kernel
theorem dX9_readTerms_5 : decode cX9_readTerms 5 = .ok (.iconst 1, 1) := by decide +kernel
theorem dX9_readTerms_6 : decode cX9_readTerms 6 = .ok (.iadd, 1) := by decide +kernel
theorem dX9_readTerms_7 : decode cX9_readTerms 7 = .ok (.iaload, 1) := by decide +kernel
theorem dX9_readTerms_8 : decode cX9_readTerms 8 = .ok (.istore_n 2, 1) := by decide +kernel
theorem dX9_readTerms_9 : decode cX9_readTerms 9 = .ok (.aload_n 0, 1) := by decide +kernel
theorem dX9_readTerms_10 : decode cX9_readTerms 10 = .ok (.bipush 43, 2) := by decide +kernel
theorem dX9_readTerms_12 : decode cX9_readTerms 12 = .ok (.invokevirtual 128, 3) := by decide +kernel
theorem dX9_readTerms_15 : decode cX9_readTerms 15 = .ok (.ifCond .eq 197, 3) := by decide +kernel
theorem dX9_readTerms_18 : decode cX9_readTerms 18 = .ok (.aload_n 0, 1) := by decide +kernel
theorem dX9_readTerms_19 : decode cX9_readTerms 19 = .ok (.invokevirtual 111, 3) := by decide +kernel
theorem dX9_readTerms_22 : decode cX9_readTerms 22 = .ok (.aload_n 0, 1) := by decide +kernel
theorem dX9_readTerms_23 : decode cX9_readTerms 23 = .ok (.getfield 94, 3) := by decide +kernel
theorem dX9_readTerms_26 : decode cX9_readTerms 26 = .ok (.iload_n 1, 1) := by decide +kernel
theorem dX9_readTerms_27 : decode cX9_readTerms 27 = .ok (.bipush 6, 2) := by decide +kernel
theorem dX9_readTerms_29 : decode cX9_readTerms 29 = .ok (.iadd, 1) := by decide +kernel
theorem dX9_readTerms_30 : decode cX9_readTerms 30 = .ok (.iaload, 1) := by decide +kernel
theorem dX9_readTerms_31 : decode cX9_readTerms 31 = .ok (.istore_n 3, 1) := by decide +kernel
theorem dX9_readTerms_32 : decode cX9_readTerms 32 = .ok (.iload_n 3, 1) := by decide +kernel
theorem dX9_readTerms_33 : decode cX9_readTerms 33 = .ok (.bipush 6, 2) := by decide +kernel
theorem dX9_readTerms_35 : decode cX9_readTerms 35 = .ok (.if_icmp .ge 14, 3) := by decide +kernel
theorem dX9_readTerms_38 : decode cX9_readTerms 38 = .ok (.iload_n 1, 1) := by decide +kernel
theorem dX9_readTerms_39 : decode cX9_readTerms 39 = .ok (.bipush 7, 2) := by decide +kernel
theorem dX9_readTerms_41 : decode cX9_readTerms 41 = .ok (.iadd, 1) := by decide +kernel
theorem dX9_readTerms_42 : decode cX9_readTerms 42 = .ok (.iconst 2, 1) := by decide +kernel
theorem dX9_readTerms_43 : decode cX9_readTerms 43 = .ok (.iload_n 3, 1) := by decide +kernel
theorem dX9_readTerms_44 : decode cX9_readTerms 44 = .ok (.imul, 1) := by decide +kernel
theorem dX9_readTerms_45 : decode cX9_readTerms 45 = .ok (.iadd, 1) := by decide +kernel
theorem dX9_readTerms_46 : decode cX9_readTerms 46 = .ok (.goto 4, 3) := by decide +kernel
theorem dX9_readTerms_49 : decode cX9_readTerms 49 = .ok (.iconst (-1), 1) := by decide +kernel
theorem dX9_readTerms_50 : decode cX9_readTerms 50 = .ok (.istore 4, 2) := by decide +kernel
theorem dX9_readTerms_52 : decode cX9_readTerms 52 = .ok (.aload_n 0, 1) := by decide +kernel
theorem dX9_readTerms_53 : decode cX9_readTerms 53 = .ok (.getfield 27, 3) := by decide +kernel
theorem dX9_readTerms_56 : decode cX9_readTerms 56 = .ok (.iconst 3, 1) := by decide +kernel
theorem dX9_readTerms_57 : decode cX9_readTerms 57 = .ok (.if_icmp .eq 9, 3) := by decide +kernel
theorem dX9_readTerms_60 : decode cX9_readTerms 60 = .ok (.aload_n 0, 1) := by decide +kernel
theorem dX9_readTerms_61 : decode cX9_readTerms 61 = .ok (.iconst 1, 1) := by decide +kernel
theorem dX9_readTerms_62 : decode cX9_readTerms 62 = .ok (.invokevirtual 104, 3) := by decide +kernel
theorem dX9_readTerms_65 : decode cX9_readTerms 65 = .ok (.ireturn, 1) := by decide +kernel
theorem dX9_readTerms_66 : decode cX9_readTerms 66 = .ok (.aload_n 0, 1) := by decide +kernel
theorem dX9_readTerms_67 : decode cX9_readTerms 67 = .ok (.getfield 44, 3) := by decide +kernel
theorem dX9_readTerms_70 : decode cX9_readTerms 70 = .ok (.iconst 0, 1) := by decide +kernel
theorem dX9_readTerms_71 : decode cX9_readTerms 71 = .ok (.sipush 1000, 3) := by decide +kernel
theorem dX9_readTerms_74 : decode cX9_readTerms 74 = .ok (.invokestatic 107, 3) := by decide +kernel
theorem dX9_readTerms_77 : decode cX9_readTerms 77 = .ok (.ifCond .ne 9, 3) := by decide +kernel
theorem dX9_readTerms_80 : decode cX9_readTerms 80 = .ok (.aload_n 0, 1) := by decide +kernel
theorem dX9_readTerms_81 : decode cX9_readTerms 81 = .ok (.iconst 2, 1) := by decide +kernel
theorem dX9_readTerms_82 : decode cX9_readTerms 82 = .ok (.invokevirtual 104, 3) := by decide +kernel
theorem dX9_readTerms_85 : decode cX9_readTerms 85 = .ok (.ireturn, 1) := by decide +kernel
theorem dX9_readTerms_86 : decode cX9_readTerms 86 = .ok (.aload_n 0, 1) := by decide +kernel
theorem dX9_readTerms_87 : decode cX9_readTerms 87 = .ok (.getfield 44, 3) := by decide +kernel
theorem dX9_readTerms_90 : decode cX9_readTerms 90 = .ok (.istore 5, 2) := by decide +kernel
theorem dX9_readTerms_92 : decode cX9_readTerms 92 = .ok (.aload_n 0, 1) := by decide +kernel
theorem dX9_readTerms_93 : decode cX9_readTerms 93 = .ok (.invokevirtual 111, 3) := by decide +kernel
theorem dX9_readTerms_96 : decode cX9_readTerms 96 = .ok (.aload_n 0, 1) := by decide +kernel
theorem dX9_readTerms_97 : decode cX9_readTerms 97 = .ok (.invokevirtual 117, 3) := by decide +kernel
theorem dX9_readTerms_100 : decode cX9_readTerms 100 = .ok (.ifCond .ne 9, 3) := by decide +kernel
theorem dX9_readTerms_103 : decode cX9_readTerms 103 = .ok (.aload_n 0, 1) := by decide +kernel
theorem dX9_readTerms_104 : decode cX9_readTerms 104 = .ok (.iconst 1, 1) := by decide +kernel
theorem dX9_readTerms_105 : decode cX9_readTerms 105 = .ok (.invokevirtual 104, 3) := by decide +kernel
theorem dX9_readTerms_108 : decode cX9_readTerms 108 = .ok (.ireturn, 1) := by decide +kernel
theorem dX9_readTerms_109 : decode cX9_readTerms 109 = .ok (.aload_n 0, 1) := by decide +kernel
theorem dX9_readTerms_110 : decode cX9_readTerms 110 = .ok (.invokevirtual 121, 3) := by decide +kernel
theorem dX9_readTerms_113 : decode cX9_readTerms 113 = .ok (.istore 6, 2) := by decide +kernel
theorem dX9_readTerms_115 : decode cX9_readTerms 115 = .ok (.iload 6, 2) := by decide +kernel
theorem dX9_readTerms_117 : decode cX9_readTerms 117 = .ok (.iconst (-1), 1) := by decide +kernel
theorem dX9_readTerms_118 : decode cX9_readTerms 118 = .ok (.if_icmp .ne 9, 3) := by decide +kernel
theorem dX9_readTerms_121 : decode cX9_readTerms 121 = .ok (.aload_n 0, 1) := by decide +kernel
theorem dX9_readTerms_122 : decode cX9_readTerms 122 = .ok (.iconst 3, 1) := by decide +kernel
theorem dX9_readTerms_123 : decode cX9_readTerms 123 = .ok (.invokevirtual 104, 3) := by decide +kernel
theorem dX9_readTerms_126 : decode cX9_readTerms 126 = .ok (.ireturn, 1) := by decide +kernel
theorem dX9_readTerms_127 : decode cX9_readTerms 127 = .ok (.iconst 0, 1) := by decide +kernel
theorem dX9_readTerms_128 : decode cX9_readTerms 128 = .ok (.istore 7, 2) := by decide +kernel
theorem dX9_readTerms_130 : decode cX9_readTerms 130 = .ok (.iload 7, 2) := by decide +kernel
theorem dX9_readTerms_132 : decode cX9_readTerms 132 = .ok (.iload_n 3, 1) := by decide +kernel
theorem dX9_readTerms_133 : decode cX9_readTerms 133 = .ok (.if_icmp .ge 34, 3) := by decide +kernel
theorem dX9_readTerms_136 : decode cX9_readTerms 136 = .ok (.aload_n 0, 1) := by decide +kernel
theorem dX9_readTerms_137 : decode cX9_readTerms 137 = .ok (.getfield 94, 3) := by decide +kernel
theorem dX9_readTerms_140 : decode cX9_readTerms 140 = .ok (.iload_n 1, 1) := by decide +kernel
theorem dX9_readTerms_141 : decode cX9_readTerms 141 = .ok (.bipush 8, 2) := by decide +kernel
theorem dX9_readTerms_143 : decode cX9_readTerms 143 = .ok (.iadd, 1) := by decide +kernel
theorem dX9_readTerms_144 : decode cX9_readTerms 144 = .ok (.iconst 2, 1) := by decide +kernel
theorem dX9_readTerms_145 : decode cX9_readTerms 145 = .ok (.iload 7, 2) := by decide +kernel
theorem dX9_readTerms_147 : decode cX9_readTerms 147 = .ok (.imul, 1) := by decide +kernel
theorem dX9_readTerms_148 : decode cX9_readTerms 148 = .ok (.iadd, 1) := by decide +kernel
theorem dX9_readTerms_149 : decode cX9_readTerms 149 = .ok (.iaload, 1) := by decide +kernel
theorem dX9_readTerms_150 : decode cX9_readTerms 150 = .ok (.iload 6, 2) := by decide +kernel
theorem dX9_readTerms_152 : decode cX9_readTerms 152 = .ok (.if_icmp .ne 9, 3) := by decide +kernel
theorem dX9_readTerms_155 : decode cX9_readTerms 155 = .ok (.aload_n 0, 1) := by decide +kernel
theorem dX9_readTerms_156 : decode cX9_readTerms 156 = .ok (.iconst 3, 1) := by decide +kernel
theorem dX9_readTerms_157 : decode cX9_readTerms 157 = .ok (.invokevirtual 104, 3) := by decide +kernel
theorem dX9_readTerms_160 : decode cX9_readTerms 160 = .ok (.ireturn, 1) := by decide +kernel
theorem dX9_readTerms_161 : decode cX9_readTerms 161 = .ok (.iinc 7 1, 3) := by decide +kernel
theorem dX9_readTerms_164 : decode cX9_readTerms 164 = .ok (.goto (-34), 3) := by decide +kernel
theorem dX9_readTerms_167 : decode cX9_readTerms 167 = .ok (.aload_n 0, 1) := by decide +kernel
theorem dX9_readTerms_168 : decode cX9_readTerms 168 = .ok (.getfield 94, 3) := by decide +kernel
theorem dX9_readTerms_171 : decode cX9_readTerms 171 = .ok (.iload 4, 2) := by decide +kernel
theorem dX9_readTerms_173 : decode cX9_readTerms 173 = .ok (.iload 5, 2) := by decide +kernel
theorem dX9_readTerms_175 : decode cX9_readTerms 175 = .ok (.iastore, 1) := by decide +kernel
theorem dX9_readTerms_176 : decode cX9_readTerms 176 = .ok (.aload_n 0, 1) := by decide +kernel
theorem dX9_readTerms_177 : decode cX9_readTerms 177 = .ok (.getfield 94, 3) := by decide +kernel
theorem dX9_readTerms_180 : decode cX9_readTerms 180 = .ok (.iload 4, 2) := by decide +kernel
theorem dX9_readTerms_182 : decode cX9_readTerms 182 = .ok (.iconst 1, 1) := by decide +kernel
theorem dX9_readTerms_183 : decode cX9_readTerms 183 = .ok (.iadd, 1) := by decide +kernel
theorem dX9_readTerms_184 : decode cX9_readTerms 184 = .ok (.iload 6, 2) := by decide +kernel
theorem dX9_readTerms_186 : decode cX9_readTerms 186 = .ok (.iastore, 1) := by decide +kernel
theorem dX9_readTerms_187 : decode cX9_readTerms 187 = .ok (.aload_n 0, 1) := by decide +kernel
theorem dX9_readTerms_188 : decode cX9_readTerms 188 = .ok (.getfield 94, 3) := by decide +kernel
theorem dX9_readTerms_191 : decode cX9_readTerms 191 = .ok (.iload_n 1, 1) := by decide +kernel
theorem dX9_readTerms_192 : decode cX9_readTerms 192 = .ok (.bipush 6, 2) := by decide +kernel
theorem dX9_readTerms_194 : decode cX9_readTerms 194 = .ok (.iadd, 1) := by decide +kernel
theorem dX9_readTerms_195 : decode cX9_readTerms 195 = .ok (.dup2, 1) := by decide +kernel
theorem dX9_readTerms_196 : decode cX9_readTerms 196 = .ok (.iaload, 1) := by decide +kernel
theorem dX9_readTerms_197 : decode cX9_readTerms 197 = .ok (.iconst 1, 1) := by decide +kernel
theorem dX9_readTerms_198 : decode cX9_readTerms 198 = .ok (.iadd, 1) := by decide +kernel
theorem dX9_readTerms_199 : decode cX9_readTerms 199 = .ok (.iastore, 1) := by decide +kernel
theorem dX9_readTerms_200 : decode cX9_readTerms 200 = .ok (.iload_n 2, 1) := by decide +kernel
theorem dX9_readTerms_201 : decode cX9_readTerms 201 = .ok (.iload 5, 2) := by decide +kernel
theorem dX9_readTerms_203 : decode cX9_readTerms 203 = .ok (.iadd, 1) := by decide +kernel
theorem dX9_readTerms_204 : decode cX9_readTerms 204 = .ok (.istore_n 2, 1) := by decide +kernel
theorem dX9_readTerms_205 : decode cX9_readTerms 205 = .ok (.aload_n 0, 1) := by decide +kernel
theorem dX9_readTerms_206 : decode cX9_readTerms 206 = .ok (.invokevirtual 111, 3) := by decide +kernel
theorem dX9_readTerms_209 : decode cX9_readTerms 209 = .ok (.goto (-200), 3) := by decide +kernel
theorem dX9_readTerms_212 : decode cX9_readTerms 212 = .ok (.aload_n 0, 1) := by decide +kernel
theorem dX9_readTerms_213 : decode cX9_readTerms 213 = .ok (.iconst 3, 1) := by decide +kernel
theorem dX9_readTerms_214 : decode cX9_readTerms 214 = .ok (.invokevirtual 114, 3) := by decide +kernel
theorem dX9_readTerms_217 : decode cX9_readTerms 217 = .ok (.ifCond .ne 9, 3) := by decide +kernel
theorem dX9_readTerms_220 : decode cX9_readTerms 220 = .ok (.aload_n 0, 1) := by decide +kernel
theorem dX9_readTerms_221 : decode cX9_readTerms 221 = .ok (.iconst 1, 1) := by decide +kernel
theorem dX9_readTerms_222 : decode cX9_readTerms 222 = .ok (.invokevirtual 104, 3) := by decide +kernel
theorem dX9_readTerms_225 : decode cX9_readTerms 225 = .ok (.ireturn, 1) := by decide +kernel
theorem dX9_readTerms_226 : decode cX9_readTerms 226 = .ok (.iload_n 2, 1) := by decide +kernel
theorem dX9_readTerms_227 : decode cX9_readTerms 227 = .ok (.sipush 1000, 3) := by decide +kernel
theorem dX9_readTerms_230 : decode cX9_readTerms 230 = .ok (.if_icmp .eq 9, 3) := by decide +kernel
theorem dX9_readTerms_233 : decode cX9_readTerms 233 = .ok (.aload_n 0, 1) := by decide +kernel
theorem dX9_readTerms_234 : decode cX9_readTerms 234 = .ok (.iconst 5, 1) := by decide +kernel
theorem dX9_readTerms_235 : decode cX9_readTerms 235 = .ok (.invokevirtual 104, 3) := by decide +kernel
theorem dX9_readTerms_238 : decode cX9_readTerms 238 = .ok (.ireturn, 1) := by decide +kernel
theorem dX9_readTerms_239 : decode cX9_readTerms 239 = .ok (.aload_n 0, 1) := by decide +kernel
theorem dX9_readTerms_240 : decode cX9_readTerms 240 = .ok (.invokevirtual 111, 3) := by decide +kernel
theorem dX9_readTerms_243 : decode cX9_readTerms 243 = .ok (.iconst 1, 1) := by decide +kernel
theorem dX9_readTerms_244 : decode cX9_readTerms 244 = .ok (.ireturn, 1) := by decide +kernel
theorem dX9_readBase_0 : decode cX9_readBase 0 = .ok (.aload_n 0, 1) := by decide +kernel
theorem dX9_readBase_1 : decode cX9_readBase 1 = .ok (.getfield 27, 3) := by decide +kernel
theorem dX9_readBase_4 : decode cX9_readBase 4 = .ok (.iconst 3, 1) := by decide +kernel
theorem dX9_readBase_5 : decode cX9_readBase 5 = .ok (.if_icmp .ne 76, 3) := by decide +kernel
theorem dX9_readBase_8 : decode cX9_readBase 8 = .ok (.aload_n 0, 1) := by decide +kernel
theorem dX9_readBase_9 : decode cX9_readBase 9 = .ok (.getfield 44, 3) := by decide +kernel
theorem dX9_readBase_12 : decode cX9_readBase 12 = .ok (.aload_n 0, 1) := by decide +kernel
theorem dX9_readBase_13 : decode cX9_readBase 13 = .ok (.getfield 94, 3) := by decide +kernel
theorem dX9_readBase_16 : decode cX9_readBase 16 = .ok (.iconst 0, 1) := by decide +kernel
theorem dX9_readBase_17 : decode cX9_readBase 17 = .ok (.iaload, 1) := by decide +kernel
theorem dX9_readBase_18 : decode cX9_readBase 18 = .ok (.if_icmp .gt 63, 3) := by decide +kernel
theorem dX9_readBase_21 : decode cX9_readBase 21 = .ok (.iconst 0, 1) := by decide +kernel
theorem dX9_readBase_22 : decode cX9_readBase 22 = .ok (.istore_n 2, 1) := by decide +kernel
theorem dX9_readBase_23 : decode cX9_readBase 23 = .ok (.iload_n 2, 1) := by decide +kernel
theorem dX9_readBase_24 : decode cX9_readBase 24 = .ok (.aload_n 0, 1) := by decide +kernel
theorem dX9_readBase_25 : decode cX9_readBase 25 = .ok (.getfield 94, 3) := by decide +kernel
theorem dX9_readBase_28 : decode cX9_readBase 28 = .ok (.iload_n 1, 1) := by decide +kernel
theorem dX9_readBase_29 : decode cX9_readBase 29 = .ok (.bipush 6, 2) := by decide +kernel
theorem dX9_readBase_31 : decode cX9_readBase 31 = .ok (.iadd, 1) := by decide +kernel
theorem dX9_readBase_32 : decode cX9_readBase 32 = .ok (.iaload, 1) := by decide +kernel
theorem dX9_readBase_33 : decode cX9_readBase 33 = .ok (.if_icmp .ge 48, 3) := by decide +kernel
theorem dX9_readBase_36 : decode cX9_readBase 36 = .ok (.aload_n 0, 1) := by decide +kernel
theorem dX9_readBase_37 : decode cX9_readBase 37 = .ok (.getfield 94, 3) := by decide +kernel
theorem dX9_readBase_40 : decode cX9_readBase 40 = .ok (.sipush 218, 3) := by decide +kernel
theorem dX9_readBase_43 : decode cX9_readBase 43 = .ok (.bipush 36, 2) := by decide +kernel
theorem dX9_readBase_45 : decode cX9_readBase 45 = .ok (.aload_n 0, 1) := by decide +kernel
theorem dX9_readBase_46 : decode cX9_readBase 46 = .ok (.getfield 94, 3) := by decide +kernel
theorem dX9_readBase_49 : decode cX9_readBase 49 = .ok (.iload_n 1, 1) := by decide +kernel
theorem dX9_readBase_50 : decode cX9_readBase 50 = .ok (.bipush 8, 2) := by decide +kernel
theorem dX9_readBase_52 : decode cX9_readBase 52 = .ok (.iadd, 1) := by decide +kernel
theorem dX9_readBase_53 : decode cX9_readBase 53 = .ok (.iconst 2, 1) := by decide +kernel
theorem dX9_readBase_54 : decode cX9_readBase 54 = .ok (.iload_n 2, 1) := by decide +kernel
theorem dX9_readBase_55 : decode cX9_readBase 55 = .ok (.imul, 1) := by decide +kernel
theorem dX9_readBase_56 : decode cX9_readBase 56 = .ok (.iadd, 1) := by decide +kernel
theorem dX9_readBase_57 : decode cX9_readBase 57 = .ok (.iaload, 1) := by decide +kernel
theorem dX9_readBase_58 : decode cX9_readBase 58 = .ok (.imul, 1) := by decide +kernel
theorem dX9_readBase_59 : decode cX9_readBase 59 = .ok (.iadd, 1) := by decide +kernel
theorem dX9_readBase_60 : decode cX9_readBase 60 = .ok (.aload_n 0, 1) := by decide +kernel
theorem dX9_readBase_61 : decode cX9_readBase 61 = .ok (.getfield 44, 3) := by decide +kernel
theorem dX9_readBase_64 : decode cX9_readBase 64 = .ok (.iadd, 1) := by decide +kernel
theorem dX9_readBase_65 : decode cX9_readBase 65 = .ok (.iaload, 1) := by decide +kernel
theorem dX9_readBase_66 : decode cX9_readBase 66 = .ok (.ifCond .ne 9, 3) := by decide +kernel
theorem dX9_readBase_69 : decode cX9_readBase 69 = .ok (.aload_n 0, 1) := by decide +kernel
theorem dX9_readBase_70 : decode cX9_readBase 70 = .ok (.iconst 5, 1) := by decide +kernel
theorem dX9_readBase_71 : decode cX9_readBase 71 = .ok (.invokevirtual 104, 3) := by decide +kernel
theorem dX9_readBase_74 : decode cX9_readBase 74 = .ok (.ireturn, 1) := by decide +kernel
theorem dX9_readBase_75 : decode cX9_readBase 75 = .ok (.iinc 2 1, 3) := by decide +kernel
theorem dX9_readBase_78 : decode cX9_readBase 78 = .ok (.goto (-55), 3) := by decide +kernel
theorem dX9_readBase_81 : decode cX9_readBase 81 = .ok (.aload_n 0, 1) := by decide +kernel
theorem dX9_readBase_82 : decode cX9_readBase 82 = .ok (.iload_n 1, 1) := by decide +kernel
theorem dX9_readBase_83 : decode cX9_readBase 83 = .ok (.iconst 2, 1) := by decide +kernel
theorem dX9_readBase_84 : decode cX9_readBase 84 = .ok (.iadd, 1) := by decide +kernel
theorem dX9_readBase_85 : decode cX9_readBase 85 = .ok (.iconst 0, 1) := by decide +kernel
theorem dX9_readBase_86 : decode cX9_readBase 86 = .ok (.aload_n 0, 1) := by decide +kernel
theorem dX9_readBase_87 : decode cX9_readBase 87 = .ok (.getfield 94, 3) := by decide +kernel
theorem dX9_readBase_90 : decode cX9_readBase 90 = .ok (.iconst 0, 1) := by decide +kernel
theorem dX9_readBase_91 : decode cX9_readBase 91 = .ok (.iaload, 1) := by decide +kernel
theorem dX9_readBase_92 : decode cX9_readBase 92 = .ok (.invokevirtual 125, 3) := by decide +kernel
theorem dX9_readBase_95 : decode cX9_readBase 95 = .ok (.ireturn, 1) := by decide +kernel
theorem dX9_readContract_0 : decode cX9_readContract 0 = .ok (.aload_n 0, 1) := by decide +kernel
theorem dX9_readContract_1 : decode cX9_readContract 1 = .ok (.getfield 94, 3) := by decide +kernel
theorem dX9_readContract_4 : decode cX9_readContract 4 = .ok (.sipush 494, 3) := by decide +kernel
theorem dX9_readContract_7 : decode cX9_readContract 7 = .ok (.iaload, 1) := by decide +kernel
theorem dX9_readContract_8 : decode cX9_readContract 8 = .ok (.bipush 6, 2) := by decide +kernel
theorem dX9_readContract_10 : decode cX9_readContract 10 = .ok (.if_icmp .ne 9, 3) := by decide +kernel
theorem dX9_readContract_13 : decode cX9_readContract 13 = .ok (.aload_n 0, 1) := by decide +kernel
theorem dX9_readContract_14 : decode cX9_readContract 14 = .ok (.iconst 4, 1) := by decide +kernel
theorem dX9_readContract_15 : decode cX9_readContract 15 = .ok (.invokevirtual 104, 3) := by decide +kernel
theorem dX9_readContract_18 : decode cX9_readContract 18 = .ok (.ireturn, 1) := by decide +kernel
theorem dX9_readContract_19 : decode cX9_readContract 19 = .ok (.aload_n 0, 1) := by decide +kernel
theorem dX9_readContract_20 : decode cX9_readContract 20 = .ok (.invokevirtual 111, 3) := by decide +kernel
theorem dX9_readContract_23 : decode cX9_readContract 23 = .ok (.sipush 495, 3) := by decide +kernel
theorem dX9_readContract_26 : decode cX9_readContract 26 = .ok (.bipush 19, 2) := by decide +kernel
theorem dX9_readContract_28 : decode cX9_readContract 28 = .ok (.aload_n 0, 1) := by decide +kernel
theorem dX9_readContract_29 : decode cX9_readContract 29 = .ok (.getfield 94, 3) := by decide +kernel
theorem dX9_readContract_32 : decode cX9_readContract 32 = .ok (.sipush 494, 3) := by decide +kernel
theorem dX9_readContract_35 : decode cX9_readContract 35 = .ok (.iaload, 1) := by decide +kernel
theorem dX9_readContract_36 : decode cX9_readContract 36 = .ok (.imul, 1) := by decide +kernel
theorem dX9_readContract_37 : decode cX9_readContract 37 = .ok (.iadd, 1) := by decide +kernel
theorem dX9_readContract_38 : decode cX9_readContract 38 = .ok (.istore_n 1, 1) := by decide +kernel
theorem dX9_readContract_39 : decode cX9_readContract 39 = .ok (.aload_n 0, 1) := by decide +kernel
theorem dX9_readContract_40 : decode cX9_readContract 40 = .ok (.iload_n 1, 1) := by decide +kernel
theorem dX9_readContract_41 : decode cX9_readContract 41 = .ok (.iconst 0, 1) := by decide +kernel
theorem dX9_readContract_42 : decode cX9_readContract 42 = .ok (.iadd, 1) := by decide +kernel
theorem dX9_readContract_43 : decode cX9_readContract 43 = .ok (.iconst 1, 1) := by decide +kernel
theorem dX9_readContract_44 : decode cX9_readContract 44 = .ok (.sipush 9999, 3) := by decide +kernel
theorem dX9_readContract_47 : decode cX9_readContract 47 = .ok (.invokevirtual 125, 3) := by decide +kernel
theorem dX9_readContract_50 : decode cX9_readContract 50 = .ok (.ifCond .ne 5, 3) := by decide +kernel
theorem dX9_readContract_53 : decode cX9_readContract 53 = .ok (.iconst 0, 1) := by decide +kernel
theorem dX9_readContract_54 : decode cX9_readContract 54 = .ok (.ireturn, 1) := by decide +kernel
theorem dX9_readContract_55 : decode cX9_readContract 55 = .ok (.aload_n 0, 1) := by decide +kernel
theorem dX9_readContract_56 : decode cX9_readContract 56 = .ok (.bipush 61, 2) := by decide +kernel
theorem dX9_readContract_58 : decode cX9_readContract 58 = .ok (.invokevirtual 128, 3) := by decide +kernel
theorem dX9_readContract_61 : decode cX9_readContract 61 = .ok (.ifCond .ne 9, 3) := by decide +kernel
theorem dX9_readContract_64 : decode cX9_readContract 64 = .ok (.aload_n 0, 1) := by decide +kernel
theorem dX9_readContract_65 : decode cX9_readContract 65 = .ok (.iconst 1, 1) := by decide +kernel
theorem dX9_readContract_66 : decode cX9_readContract 66 = .ok (.invokevirtual 104, 3) := by decide +kernel
theorem dX9_readContract_69 : decode cX9_readContract 69 = .ok (.ireturn, 1) := by decide +kernel
theorem dX9_readContract_70 : decode cX9_readContract 70 = .ok (.aload_n 0, 1) := by decide +kernel
theorem dX9_readContract_71 : decode cX9_readContract 71 = .ok (.invokevirtual 111, 3) := by decide +kernel
theorem dX9_readContract_74 : decode cX9_readContract 74 = .ok (.aload_n 0, 1) := by decide +kernel
theorem dX9_readContract_75 : decode cX9_readContract 75 = .ok (.iload_n 1, 1) := by decide +kernel
theorem dX9_readContract_76 : decode cX9_readContract 76 = .ok (.iconst 1, 1) := by decide +kernel
theorem dX9_readContract_77 : decode cX9_readContract 77 = .ok (.iadd, 1) := by decide +kernel
theorem dX9_readContract_78 : decode cX9_readContract 78 = .ok (.iconst 0, 1) := by decide +kernel
theorem dX9_readContract_79 : decode cX9_readContract 79 = .ok (.sipush 1000, 3) := by decide +kernel
theorem dX9_readContract_82 : decode cX9_readContract 82 = .ok (.invokevirtual 125, 3) := by decide +kernel
theorem dX9_readContract_85 : decode cX9_readContract 85 = .ok (.ifCond .eq 19, 3) := by decide +kernel
theorem dX9_readContract_88 : decode cX9_readContract 88 = .ok (.aload_n 0, 1) := by decide +kernel
theorem dX9_readContract_89 : decode cX9_readContract 89 = .ok (.iload_n 1, 1) := by decide +kernel
theorem dX9_readContract_90 : decode cX9_readContract 90 = .ok (.invokevirtual 131, 3) := by decide +kernel
theorem dX9_readContract_93 : decode cX9_readContract 93 = .ok (.ifCond .eq 11, 3) := by decide +kernel
theorem dX9_readContract_96 : decode cX9_readContract 96 = .ok (.aload_n 0, 1) := by decide +kernel
theorem dX9_readContract_97 : decode cX9_readContract 97 = .ok (.iload_n 1, 1) := by decide +kernel
theorem dX9_readContract_98 : decode cX9_readContract 98 = .ok (.invokevirtual 134, 3) := by decide +kernel
theorem dX9_readContract_101 : decode cX9_readContract 101 = .ok (.ifCond .ne 5, 3) := by decide +kernel
theorem dX9_readContract_104 : decode cX9_readContract 104 = .ok (.iconst 0, 1) := by decide +kernel
theorem dX9_readContract_105 : decode cX9_readContract 105 = .ok (.ireturn, 1) := by decide +kernel
theorem dX9_readContract_106 : decode cX9_readContract 106 = .ok (.aload_n 0, 1) := by decide +kernel
theorem dX9_readContract_107 : decode cX9_readContract 107 = .ok (.iconst 5, 1) := by decide +kernel
theorem dX9_readContract_108 : decode cX9_readContract 108 = .ok (.invokevirtual 114, 3) := by decide +kernel
theorem dX9_readContract_111 : decode cX9_readContract 111 = .ok (.istore_n 2, 1) := by decide +kernel
theorem dX9_readContract_112 : decode cX9_readContract 112 = .ok (.iload_n 2, 1) := by decide +kernel
theorem dX9_readContract_113 : decode cX9_readContract 113 = .ok (.ifCond .ne 17, 3) := by decide +kernel
theorem dX9_readContract_116 : decode cX9_readContract 116 = .ok (.aload_n 0, 1) := by decide +kernel
theorem dX9_readContract_117 : decode cX9_readContract 117 = .ok (.iconst 4, 1) := by decide +kernel
theorem dX9_readContract_118 : decode cX9_readContract 118 = .ok (.invokevirtual 114, 3) := by decide +kernel
theorem dX9_readContract_121 : decode cX9_readContract 121 = .ok (.ifCond .ne 9, 3) := by decide +kernel
theorem dX9_readContract_124 : decode cX9_readContract 124 = .ok (.aload_n 0, 1) := by decide +kernel
theorem dX9_readContract_125 : decode cX9_readContract 125 = .ok (.iconst 1, 1) := by decide +kernel
theorem dX9_readContract_126 : decode cX9_readContract 126 = .ok (.invokevirtual 104, 3) := by decide +kernel
theorem dX9_readContract_129 : decode cX9_readContract 129 = .ok (.ireturn, 1) := by decide +kernel
theorem dX9_readContract_130 : decode cX9_readContract 130 = .ok (.aload_n 0, 1) := by decide +kernel
theorem dX9_readContract_131 : decode cX9_readContract 131 = .ok (.getfield 94, 3) := by decide +kernel
theorem dX9_readContract_134 : decode cX9_readContract 134 = .ok (.iload_n 1, 1) := by decide +kernel
theorem dX9_readContract_135 : decode cX9_readContract 135 = .ok (.iconst 5, 1) := by decide +kernel
theorem dX9_readContract_136 : decode cX9_readContract 136 = .ok (.iadd, 1) := by decide +kernel
theorem dX9_readContract_137 : decode cX9_readContract 137 = .ok (.iload_n 2, 1) := by decide +kernel
theorem dX9_readContract_138 : decode cX9_readContract 138 = .ok (.ifCond .eq 7, 3) := by decide +kernel
theorem dX9_readContract_141 : decode cX9_readContract 141 = .ok (.iconst 1, 1) := by decide +kernel
theorem dX9_readContract_142 : decode cX9_readContract 142 = .ok (.goto 4, 3) := by decide +kernel
theorem dX9_readContract_145 : decode cX9_readContract 145 = .ok (.iconst 0, 1) := by decide +kernel
theorem dX9_readContract_146 : decode cX9_readContract 146 = .ok (.iastore, 1) := by decide +kernel
theorem dX9_readContract_147 : decode cX9_readContract 147 = .ok (.aload_n 0, 1) := by decide +kernel
theorem dX9_readContract_148 : decode cX9_readContract 148 = .ok (.invokevirtual 111, 3) := by decide +kernel
theorem dX9_readContract_151 : decode cX9_readContract 151 = .ok (.aload_n 0, 1) := by decide +kernel
theorem dX9_readContract_152 : decode cX9_readContract 152 = .ok (.iload_n 1, 1) := by decide +kernel
theorem dX9_readContract_153 : decode cX9_readContract 153 = .ok (.iconst 3, 1) := by decide +kernel
theorem dX9_readContract_154 : decode cX9_readContract 154 = .ok (.iadd, 1) := by decide +kernel
theorem dX9_readContract_155 : decode cX9_readContract 155 = .ok (.iconst 0, 1) := by decide +kernel
theorem dX9_readContract_156 : decode cX9_readContract 156 = .ok (.sipush 999, 3) := by decide +kernel
theorem dX9_readContract_159 : decode cX9_readContract 159 = .ok (.invokevirtual 125, 3) := by decide +kernel
theorem dX9_readContract_162 : decode cX9_readContract 162 = .ok (.ifCond .eq 25, 3) := by decide +kernel
theorem dX9_readContract_165 : decode cX9_readContract 165 = .ok (.aload_n 0, 1) := by decide +kernel
theorem dX9_readContract_166 : decode cX9_readContract 166 = .ok (.bipush 6, 2) := by decide +kernel
theorem dX9_readContract_168 : decode cX9_readContract 168 = .ok (.invokevirtual 137, 3) := by decide +kernel
theorem dX9_readContract_171 : decode cX9_readContract 171 = .ok (.ifCond .eq 16, 3) := by decide +kernel
theorem dX9_readContract_174 : decode cX9_readContract 174 = .ok (.aload_n 0, 1) := by decide +kernel
theorem dX9_readContract_175 : decode cX9_readContract 175 = .ok (.iload_n 1, 1) := by decide +kernel
theorem dX9_readContract_176 : decode cX9_readContract 176 = .ok (.iconst 4, 1) := by decide +kernel
theorem dX9_readContract_177 : decode cX9_readContract 177 = .ok (.iadd, 1) := by decide +kernel
theorem dX9_readContract_178 : decode cX9_readContract 178 = .ok (.iconst 0, 1) := by decide +kernel
theorem dX9_readContract_179 : decode cX9_readContract 179 = .ok (.bipush 100, 2) := by decide +kernel
theorem dX9_readContract_181 : decode cX9_readContract 181 = .ok (.invokevirtual 125, 3) := by decide +kernel
theorem dX9_readContract_184 : decode cX9_readContract 184 = .ok (.ifCond .ne 5, 3) := by decide +kernel
theorem dX9_readContract_187 : decode cX9_readContract 187 = .ok (.iconst 0, 1) := by decide +kernel
theorem dX9_readContract_188 : decode cX9_readContract 188 = .ok (.ireturn, 1) := by decide +kernel
theorem dX9_readContract_189 : decode cX9_readContract 189 = .ok (.aload_n 0, 1) := by decide +kernel
theorem dX9_readContract_190 : decode cX9_readContract 190 = .ok (.getfield 94, 3) := by decide +kernel
theorem dX9_readContract_193 : decode cX9_readContract 193 = .ok (.sipush 494, 3) := by decide +kernel
theorem dX9_readContract_196 : decode cX9_readContract 196 = .ok (.dup2, 1) := by decide +kernel
theorem dX9_readContract_197 : decode cX9_readContract 197 = .ok (.iaload, 1) := by decide +kernel
theorem dX9_readContract_198 : decode cX9_readContract 198 = .ok (.iconst 1, 1) := by decide +kernel
theorem dX9_readContract_199 : decode cX9_readContract 199 = .ok (.iadd, 1) := by decide +kernel
theorem dX9_readContract_200 : decode cX9_readContract 200 = .ok (.iastore, 1) := by decide +kernel
theorem dX9_readContract_201 : decode cX9_readContract 201 = .ok (.iconst 1, 1) := by decide +kernel
theorem dX9_readContract_202 : decode cX9_readContract 202 = .ok (.ireturn, 1) := by decide +kernel
theorem dX9_readLine_0 : decode cX9_readLine 0 = .ok (.iload_n 1, 1) := by decide +kernel
theorem dX9_readLine_1 : decode cX9_readLine 1 = .ok (.ifCond .eq 30, 3) := by decide +kernel
theorem dX9_readLine_4 : decode cX9_readLine 4 = .ok (.aload_n 0, 1) := by decide +kernel
theorem dX9_readLine_5 : decode cX9_readLine 5 = .ok (.iconst 0, 1) := by decide +kernel
theorem dX9_readLine_6 : decode cX9_readLine 6 = .ok (.invokevirtual 114, 3) := by decide +kernel
theorem dX9_readLine_9 : decode cX9_readLine 9 = .ok (.ifCond .ne 9, 3) := by decide +kernel
theorem dX9_readLine_12 : decode cX9_readLine 12 = .ok (.aload_n 0, 1) := by decide +kernel
theorem dX9_readLine_13 : decode cX9_readLine 13 = .ok (.iconst 1, 1) := by decide +kernel
theorem dX9_readLine_14 : decode cX9_readLine 14 = .ok (.invokevirtual 104, 3) := by decide +kernel
theorem dX9_readLine_17 : decode cX9_readLine 17 = .ok (.ireturn, 1) := by decide +kernel
theorem dX9_readLine_18 : decode cX9_readLine 18 = .ok (.aload_n 0, 1) := by decide +kernel
theorem dX9_readLine_19 : decode cX9_readLine 19 = .ok (.invokevirtual 111, 3) := by decide +kernel
theorem dX9_readLine_22 : decode cX9_readLine 22 = .ok (.aload_n 0, 1) := by decide +kernel
theorem dX9_readLine_23 : decode cX9_readLine 23 = .ok (.iconst 0, 1) := by decide +kernel
theorem dX9_readLine_24 : decode cX9_readLine 24 = .ok (.iconst 0, 1) := by decide +kernel
theorem dX9_readLine_25 : decode cX9_readLine 25 = .ok (.bipush 35, 2) := by decide +kernel
theorem dX9_readLine_27 : decode cX9_readLine 27 = .ok (.invokevirtual 125, 3) := by decide +kernel
theorem dX9_readLine_30 : decode cX9_readLine 30 = .ok (.ireturn, 1) := by decide +kernel
theorem dX9_readLine_31 : decode cX9_readLine 31 = .ok (.aload_n 0, 1) := by decide +kernel
theorem dX9_readLine_32 : decode cX9_readLine 32 = .ok (.iconst 1, 1) := by decide +kernel
theorem dX9_readLine_33 : decode cX9_readLine 33 = .ok (.invokevirtual 114, 3) := by decide +kernel
theorem dX9_readLine_36 : decode cX9_readLine 36 = .ok (.ifCond .eq 8, 3) := by decide +kernel
theorem dX9_readLine_39 : decode cX9_readLine 39 = .ok (.aload_n 0, 1) := by decide +kernel
theorem dX9_readLine_40 : decode cX9_readLine 40 = .ok (.invokevirtual 140, 3) := by decide +kernel
theorem dX9_readLine_43 : decode cX9_readLine 43 = .ok (.ireturn, 1) := by decide +kernel
theorem dX9_readLine_44 : decode cX9_readLine 44 = .ok (.aload_n 0, 1) := by decide +kernel
theorem dX9_readLine_45 : decode cX9_readLine 45 = .ok (.iconst 2, 1) := by decide +kernel
theorem dX9_readLine_46 : decode cX9_readLine 46 = .ok (.invokevirtual 114, 3) := by decide +kernel
theorem dX9_readLine_49 : decode cX9_readLine 49 = .ok (.ifCond .eq 10, 3) := by decide +kernel
theorem dX9_readLine_52 : decode cX9_readLine 52 = .ok (.aload_n 0, 1) := by decide +kernel
theorem dX9_readLine_53 : decode cX9_readLine 53 = .ok (.invokevirtual 143, 3) := by decide +kernel
theorem dX9_readLine_56 : decode cX9_readLine 56 = .ok (.goto 8, 3) := by decide +kernel
theorem dX9_readLine_59 : decode cX9_readLine 59 = .ok (.aload_n 0, 1) := by decide +kernel
theorem dX9_readLine_60 : decode cX9_readLine 60 = .ok (.iconst 1, 1) := by decide +kernel
theorem dX9_readLine_61 : decode cX9_readLine 61 = .ok (.invokevirtual 104, 3) := by decide +kernel
theorem dX9_readLine_64 : decode cX9_readLine 64 = .ok (.ireturn, 1) := by decide +kernel
theorem dX9_readEnd_0 : decode cX9_readEnd 0 = .ok (.aload_n 0, 1) := by decide +kernel
theorem dX9_readEnd_1 : decode cX9_readEnd 1 = .ok (.bipush 59, 2) := by decide +kernel
theorem dX9_readEnd_3 : decode cX9_readEnd 3 = .ok (.invokevirtual 128, 3) := by decide +kernel
theorem dX9_readEnd_6 : decode cX9_readEnd 6 = .ok (.ifCond .ne 9, 3) := by decide +kernel
theorem dX9_readEnd_9 : decode cX9_readEnd 9 = .ok (.aload_n 0, 1) := by decide +kernel
theorem dX9_readEnd_10 : decode cX9_readEnd 10 = .ok (.iconst 1, 1) := by decide +kernel
theorem dX9_readEnd_11 : decode cX9_readEnd 11 = .ok (.invokevirtual 104, 3) := by decide +kernel
theorem dX9_readEnd_14 : decode cX9_readEnd 14 = .ok (.ireturn, 1) := by decide +kernel
theorem dX9_readEnd_15 : decode cX9_readEnd 15 = .ok (.aload_n 0, 1) := by decide +kernel
theorem dX9_readEnd_16 : decode cX9_readEnd 16 = .ok (.invokevirtual 111, 3) := by decide +kernel
theorem dX9_readEnd_19 : decode cX9_readEnd 19 = .ok (.iconst 1, 1) := by decide +kernel
theorem dX9_readEnd_20 : decode cX9_readEnd 20 = .ok (.ireturn, 1) := by decide +kernel
theorem dX9_text_0 : decode cX9_text 0 = .ok (.aload_n 0, 1) := by decide +kernel
theorem dX9_text_1 : decode cX9_text 1 = .ok (.iconst 0, 1) := by decide +kernel
theorem dX9_text_2 : decode cX9_text 2 = .ok (.putfield 1, 3) := by decide +kernel
theorem dX9_text_5 : decode cX9_text 5 = .ok (.aload_n 0, 1) := by decide +kernel
theorem dX9_text_6 : decode cX9_text 6 = .ok (.aload_n 0, 1) := by decide +kernel
theorem dX9_text_7 : decode cX9_text 7 = .ok (.getfield 11, 3) := by decide +kernel
theorem dX9_text_10 : decode cX9_text 10 = .ok (.putfield 18, 3) := by decide +kernel
theorem dX9_text_13 : decode cX9_text 13 = .ok (.aload_n 0, 1) := by decide +kernel
theorem dX9_text_14 : decode cX9_text 14 = .ok (.iconst 0, 1) := by decide +kernel
theorem dX9_text_15 : decode cX9_text 15 = .ok (.putfield 11, 3) := by decide +kernel
theorem dX9_text_18 : decode cX9_text 18 = .ok (.aload_n 0, 1) := by decide +kernel
theorem dX9_text_19 : decode cX9_text 19 = .ok (.iconst 0, 1) := by decide +kernel
theorem dX9_text_20 : decode cX9_text 20 = .ok (.putfield 79, 3) := by decide +kernel
theorem dX9_text_23 : decode cX9_text 23 = .ok (.aload_n 0, 1) := by decide +kernel
theorem dX9_text_24 : decode cX9_text 24 = .ok (.iconst 0, 1) := by decide +kernel
theorem dX9_text_25 : decode cX9_text 25 = .ok (.putfield 21, 3) := by decide +kernel
theorem dX9_text_28 : decode cX9_text 28 = .ok (.iconst 0, 1) := by decide +kernel
theorem dX9_text_29 : decode cX9_text 29 = .ok (.istore_n 1, 1) := by decide +kernel
theorem dX9_text_30 : decode cX9_text 30 = .ok (.iconst 0, 1) := by decide +kernel
theorem dX9_text_31 : decode cX9_text 31 = .ok (.istore_n 2, 1) := by decide +kernel
theorem dX9_text_32 : decode cX9_text 32 = .ok (.iload_n 2, 1) := by decide +kernel
theorem dX9_text_33 : decode cX9_text 33 = .ok (.sipush 880, 3) := by decide +kernel
theorem dX9_text_36 : decode cX9_text 36 = .ok (.if_icmp .ge 16, 3) := by decide +kernel
theorem dX9_text_39 : decode cX9_text 39 = .ok (.aload_n 0, 1) := by decide +kernel
theorem dX9_text_40 : decode cX9_text 40 = .ok (.getfield 94, 3) := by decide +kernel
theorem dX9_text_43 : decode cX9_text 43 = .ok (.iload_n 2, 1) := by decide +kernel
theorem dX9_text_44 : decode cX9_text 44 = .ok (.iconst 0, 1) := by decide +kernel
theorem dX9_text_45 : decode cX9_text 45 = .ok (.iastore, 1) := by decide +kernel
theorem dX9_text_46 : decode cX9_text 46 = .ok (.iinc 2 1, 3) := by decide +kernel
theorem dX9_text_49 : decode cX9_text 49 = .ok (.goto (-17), 3) := by decide +kernel
theorem dX9_text_52 : decode cX9_text 52 = .ok (.aload_n 0, 1) := by decide +kernel
theorem dX9_text_53 : decode cX9_text 53 = .ok (.invokevirtual 111, 3) := by decide +kernel
theorem dX9_text_56 : decode cX9_text 56 = .ok (.aload_n 0, 1) := by decide +kernel
theorem dX9_text_57 : decode cX9_text 57 = .ok (.getfield 27, 3) := by decide +kernel
theorem dX9_text_60 : decode cX9_text 60 = .ok (.ifCond .eq 39, 3) := by decide +kernel
theorem dX9_text_63 : decode cX9_text 63 = .ok (.aload_n 0, 1) := by decide +kernel
theorem dX9_text_64 : decode cX9_text 64 = .ok (.iload_n 1, 1) := by decide +kernel
theorem dX9_text_65 : decode cX9_text 65 = .ok (.ifCond .ne 7, 3) := by decide +kernel
theorem dX9_text_68 : decode cX9_text 68 = .ok (.iconst 1, 1) := by decide +kernel
theorem dX9_text_69 : decode cX9_text 69 = .ok (.goto 4, 3) := by decide +kernel
theorem dX9_text_72 : decode cX9_text 72 = .ok (.iconst 0, 1) := by decide +kernel
theorem dX9_text_73 : decode cX9_text 73 = .ok (.invokevirtual 146, 3) := by decide +kernel
theorem dX9_text_76 : decode cX9_text 76 = .ok (.ifCond .eq 10, 3) := by decide +kernel
theorem dX9_text_79 : decode cX9_text 79 = .ok (.aload_n 0, 1) := by decide +kernel
theorem dX9_text_80 : decode cX9_text 80 = .ok (.invokevirtual 150, 3) := by decide +kernel
theorem dX9_text_83 : decode cX9_text 83 = .ok (.ifCond .ne 10, 3) := by decide +kernel
theorem dX9_text_86 : decode cX9_text 86 = .ok (.iconst (-1), 1) := by decide +kernel
theorem dX9_text_87 : decode cX9_text 87 = .ok (.aload_n 0, 1) := by decide +kernel
theorem dX9_text_88 : decode cX9_text 88 = .ok (.getfield 82, 3) := by decide +kernel
theorem dX9_text_91 : decode cX9_text 91 = .ok (.isub, 1) := by decide +kernel
theorem dX9_text_92 : decode cX9_text 92 = .ok (.ireturn, 1) := by decide +kernel
theorem dX9_text_93 : decode cX9_text 93 = .ok (.iinc 1 1, 3) := by decide +kernel
theorem dX9_text_96 : decode cX9_text 96 = .ok (.goto (-40), 3) := by decide +kernel
theorem dX9_text_99 : decode cX9_text 99 = .ok (.iconst 0, 1) := by decide +kernel
theorem dX9_text_100 : decode cX9_text 100 = .ok (.istore_n 2, 1) := by decide +kernel
theorem dX9_text_101 : decode cX9_text 101 = .ok (.iload_n 2, 1) := by decide +kernel
theorem dX9_text_102 : decode cX9_text 102 = .ok (.sipush 880, 3) := by decide +kernel
theorem dX9_text_105 : decode cX9_text 105 = .ok (.if_icmp .ge 21, 3) := by decide +kernel
theorem dX9_text_108 : decode cX9_text 108 = .ok (.aload_n 0, 1) := by decide +kernel
theorem dX9_text_109 : decode cX9_text 109 = .ok (.getfield 91, 3) := by decide +kernel
theorem dX9_text_112 : decode cX9_text 112 = .ok (.iload_n 2, 1) := by decide +kernel
theorem dX9_text_113 : decode cX9_text 113 = .ok (.aload_n 0, 1) := by decide +kernel
theorem dX9_text_114 : decode cX9_text 114 = .ok (.getfield 94, 3) := by decide +kernel
theorem dX9_text_117 : decode cX9_text 117 = .ok (.iload_n 2, 1) := by decide +kernel
theorem dX9_text_118 : decode cX9_text 118 = .ok (.iaload, 1) := by decide +kernel
theorem dX9_text_119 : decode cX9_text 119 = .ok (.iastore, 1) := by decide +kernel
theorem dX9_text_120 : decode cX9_text 120 = .ok (.iinc 2 1, 3) := by decide +kernel
theorem dX9_text_123 : decode cX9_text 123 = .ok (.goto (-22), 3) := by decide +kernel
theorem dX9_text_126 : decode cX9_text 126 = .ok (.aload_n 0, 1) := by decide +kernel
theorem dX9_text_127 : decode cX9_text 127 = .ok (.iconst 0, 1) := by decide +kernel
theorem dX9_text_128 : decode cX9_text 128 = .ok (.putfield 153, 3) := by decide +kernel
theorem dX9_text_131 : decode cX9_text 131 = .ok (.iload_n 1, 1) := by decide +kernel
theorem dX9_text_132 : decode cX9_text 132 = .ok (.ireturn, 1) := by decide +kernel
theorem dX9_fault_0 : decode cX9_fault 0 = .ok (.aload_n 0, 1) := by decide +kernel
theorem dX9_fault_1 : decode cX9_fault 1 = .ok (.iconst 0, 1) := by decide +kernel
theorem dX9_fault_2 : decode cX9_fault 2 = .ok (.putfield 1, 3) := by decide +kernel
theorem dX9_fault_5 : decode cX9_fault 5 = .ok (.aload_n 0, 1) := by decide +kernel
theorem dX9_fault_6 : decode cX9_fault 6 = .ok (.getfield 79, 3) := by decide +kernel
theorem dX9_fault_9 : decode cX9_fault 9 = .ok (.ireturn, 1) := by decide +kernel
theorem dX9_month_0 : decode cX9_month 0 = .ok (.aload_n 0, 1) := by decide +kernel
theorem dX9_month_1 : decode cX9_month 1 = .ok (.getfield 91, 3) := by decide +kernel
theorem dX9_month_4 : decode cX9_month 4 = .ok (.iconst 0, 1) := by decide +kernel
theorem dX9_month_5 : decode cX9_month 5 = .ok (.iaload, 1) := by decide +kernel
theorem dX9_month_6 : decode cX9_month 6 = .ok (.ireturn, 1) := by decide +kernel
theorem dX9_isIndex_0 : decode cX9_isIndex 0 = .ok (.iload_n 1, 1) := by decide +kernel
theorem dX9_isIndex_1 : decode cX9_isIndex 1 = .ok (.iconst 0, 1) := by decide +kernel
theorem dX9_isIndex_2 : decode cX9_isIndex 2 = .ok (.aload_n 0, 1) := by decide +kernel
theorem dX9_isIndex_3 : decode cX9_isIndex 3 = .ok (.getfield 91, 3) := by decide +kernel
theorem dX9_isIndex_6 : decode cX9_isIndex 6 = .ok (.iconst 1, 1) := by decide +kernel
theorem dX9_isIndex_7 : decode cX9_isIndex 7 = .ok (.iaload, 1) := by decide +kernel
theorem dX9_isIndex_8 : decode cX9_isIndex 8 = .ok (.iconst 1, 1) := by decide +kernel
theorem dX9_isIndex_9 : decode cX9_isIndex 9 = .ok (.isub, 1) := by decide +kernel
theorem dX9_isIndex_10 : decode cX9_isIndex 10 = .ok (.invokestatic 107, 3) := by decide +kernel
theorem dX9_isIndex_13 : decode cX9_isIndex 13 = .ok (.ireturn, 1) := by decide +kernel
theorem dX9_isContract_0 : decode cX9_isContract 0 = .ok (.iload_n 1, 1) := by decide +kernel
theorem dX9_isContract_1 : decode cX9_isContract 1 = .ok (.iconst 0, 1) := by decide +kernel
theorem dX9_isContract_2 : decode cX9_isContract 2 = .ok (.aload_n 0, 1) := by decide +kernel
theorem dX9_isContract_3 : decode cX9_isContract 3 = .ok (.getfield 91, 3) := by decide +kernel
theorem dX9_isContract_6 : decode cX9_isContract 6 = .ok (.sipush 494, 3) := by decide +kernel
theorem dX9_isContract_9 : decode cX9_isContract 9 = .ok (.iaload, 1) := by decide +kernel
theorem dX9_isContract_10 : decode cX9_isContract 10 = .ok (.iconst 1, 1) := by decide +kernel
theorem dX9_isContract_11 : decode cX9_isContract 11 = .ok (.isub, 1) := by decide +kernel
theorem dX9_isContract_12 : decode cX9_isContract 12 = .ok (.invokestatic 107, 3) := by decide +kernel
theorem dX9_isContract_15 : decode cX9_isContract 15 = .ok (.ireturn, 1) := by decide +kernel
theorem dX9_isDelivery_0 : decode cX9_isDelivery 0 = .ok (.iload_n 1, 1) := by decide +kernel
theorem dX9_isDelivery_1 : decode cX9_isDelivery 1 = .ok (.iconst 0, 1) := by decide +kernel
theorem dX9_isDelivery_2 : decode cX9_isDelivery 2 = .ok (.aload_n 0, 1) := by decide +kernel
theorem dX9_isDelivery_3 : decode cX9_isDelivery 3 = .ok (.getfield 91, 3) := by decide +kernel
theorem dX9_isDelivery_6 : decode cX9_isDelivery 6 = .ok (.sipush 609, 3) := by decide +kernel
theorem dX9_isDelivery_9 : decode cX9_isDelivery 9 = .ok (.iaload, 1) := by decide +kernel
theorem dX9_isDelivery_10 : decode cX9_isDelivery 10 = .ok (.iconst 1, 1) := by decide +kernel
theorem dX9_isDelivery_11 : decode cX9_isDelivery 11 = .ok (.isub, 1) := by decide +kernel
theorem dX9_isDelivery_12 : decode cX9_isDelivery 12 = .ok (.invokestatic 107, 3) := by decide +kernel
theorem dX9_isDelivery_15 : decode cX9_isDelivery 15 = .ok (.ireturn, 1) := by decide +kernel
theorem dX9_isMonth_0 : decode cX9_isMonth 0 = .ok (.iload_n 0, 1) := by decide +kernel
theorem dX9_isMonth_1 : decode cX9_isMonth 1 = .ok (.iconst 0, 1) := by decide +kernel
theorem dX9_isMonth_2 : decode cX9_isMonth 2 = .ok (.bipush 35, 2) := by decide +kernel
theorem dX9_isMonth_4 : decode cX9_isMonth 4 = .ok (.invokestatic 107, 3) := by decide +kernel
theorem dX9_isMonth_7 : decode cX9_isMonth 7 = .ok (.ireturn, 1) := by decide +kernel
theorem dX9_sureOf_0 : decode cX9_sureOf 0 = .ok (.aload_n 0, 1) := by decide +kernel
theorem dX9_sureOf_1 : decode cX9_sureOf 1 = .ok (.getfield 91, 3) := by decide +kernel
theorem dX9_sureOf_4 : decode cX9_sureOf 4 = .ok (.sipush 218, 3) := by decide +kernel
theorem dX9_sureOf_7 : decode cX9_sureOf 7 = .ok (.bipush 36, 2) := by decide +kernel
theorem dX9_sureOf_9 : decode cX9_sureOf 9 = .ok (.iload_n 1, 1) := by decide +kernel
theorem dX9_sureOf_10 : decode cX9_sureOf 10 = .ok (.imul, 1) := by decide +kernel
theorem dX9_sureOf_11 : decode cX9_sureOf 11 = .ok (.iadd, 1) := by decide +kernel
theorem dX9_sureOf_12 : decode cX9_sureOf 12 = .ok (.iload_n 2, 1) := by decide +kernel
theorem dX9_sureOf_13 : decode cX9_sureOf 13 = .ok (.iadd, 1) := by decide +kernel
theorem dX9_sureOf_14 : decode cX9_sureOf 14 = .ok (.iaload, 1) := by decide +kernel
theorem dX9_sureOf_15 : decode cX9_sureOf 15 = .ok (.ireturn, 1) := by decide +kernel
theorem dX9_valueOf_0 : decode cX9_valueOf 0 = .ok (.aload_n 0, 1) := by decide +kernel
theorem dX9_valueOf_1 : decode cX9_valueOf 1 = .ok (.getfield 91, 3) := by decide +kernel
theorem dX9_valueOf_4 : decode cX9_valueOf 4 = .ok (.iconst 2, 1) := by decide +kernel
theorem dX9_valueOf_5 : decode cX9_valueOf 5 = .ok (.bipush 36, 2) := by decide +kernel
theorem dX9_valueOf_7 : decode cX9_valueOf 7 = .ok (.iload_n 1, 1) := by decide +kernel
theorem dX9_valueOf_8 : decode cX9_valueOf 8 = .ok (.imul, 1) := by decide +kernel
theorem dX9_valueOf_9 : decode cX9_valueOf 9 = .ok (.iadd, 1) := by decide +kernel
theorem dX9_valueOf_10 : decode cX9_valueOf 10 = .ok (.iload_n 2, 1) := by decide +kernel
theorem dX9_valueOf_11 : decode cX9_valueOf 11 = .ok (.iadd, 1) := by decide +kernel
theorem dX9_valueOf_12 : decode cX9_valueOf 12 = .ok (.iaload, 1) := by decide +kernel
theorem dX9_valueOf_13 : decode cX9_valueOf 13 = .ok (.ireturn, 1) := by decide +kernel
theorem dX9_knownAt_0 : decode cX9_knownAt 0 = .ok (.iload_n 2, 1) := by decide +kernel
theorem dX9_knownAt_1 : decode cX9_knownAt 1 = .ok (.istore_n 3, 1) := by decide +kernel
theorem dX9_knownAt_2 : decode cX9_knownAt 2 = .ok (.iload_n 3, 1) := by decide +kernel
theorem dX9_knownAt_3 : decode cX9_knownAt 3 = .ok (.ifCond .lt 18, 3) := by decide +kernel
theorem dX9_knownAt_6 : decode cX9_knownAt 6 = .ok (.aload_n 0, 1) := by decide +kernel
theorem dX9_knownAt_7 : decode cX9_knownAt 7 = .ok (.iload_n 1, 1) := by decide +kernel
theorem dX9_knownAt_8 : decode cX9_knownAt 8 = .ok (.iload_n 3, 1) := by decide +kernel
theorem dX9_knownAt_9 : decode cX9_knownAt 9 = .ok (.invokevirtual 156, 3) := by decide +kernel
theorem dX9_knownAt_12 : decode cX9_knownAt 12 = .ok (.ifCond .ne 9, 3) := by decide +kernel
theorem dX9_knownAt_15 : decode cX9_knownAt 15 = .ok (.iinc 3 (-1), 3) := by decide +kernel
theorem dX9_knownAt_18 : decode cX9_knownAt 18 = .ok (.goto (-16), 3) := by decide +kernel
theorem dX9_knownAt_21 : decode cX9_knownAt 21 = .ok (.iload_n 3, 1) := by decide +kernel
theorem dX9_knownAt_22 : decode cX9_knownAt 22 = .ok (.ireturn, 1) := by decide +kernel
theorem dX9_settled_0 : decode cX9_settled 0 = .ok (.iconst 0, 1) := by decide +kernel
theorem dX9_settled_1 : decode cX9_settled 1 = .ok (.istore_n 1, 1) := by decide +kernel
theorem dX9_settled_2 : decode cX9_settled 2 = .ok (.iconst 0, 1) := by decide +kernel
theorem dX9_settled_3 : decode cX9_settled 3 = .ok (.istore_n 2, 1) := by decide +kernel
theorem dX9_settled_4 : decode cX9_settled 4 = .ok (.iload_n 2, 1) := by decide +kernel
theorem dX9_settled_5 : decode cX9_settled 5 = .ok (.aload_n 0, 1) := by decide +kernel
theorem dX9_settled_6 : decode cX9_settled 6 = .ok (.getfield 91, 3) := by decide +kernel
theorem dX9_settled_9 : decode cX9_settled 9 = .ok (.sipush 609, 3) := by decide +kernel
theorem dX9_settled_12 : decode cX9_settled 12 = .ok (.iaload, 1) := by decide +kernel
theorem dX9_settled_13 : decode cX9_settled 13 = .ok (.if_icmp .ge 19, 3) := by decide +kernel
theorem dX9_settled_16 : decode cX9_settled 16 = .ok (.iload_n 1, 1) := by decide +kernel
theorem dX9_settled_17 : decode cX9_settled 17 = .ok (.aload_n 0, 1) := by decide +kernel
theorem dX9_settled_18 : decode cX9_settled 18 = .ok (.iload_n 2, 1) := by decide +kernel
theorem dX9_settled_19 : decode cX9_settled 19 = .ok (.bipush 6, 2) := by decide +kernel
theorem dX9_settled_21 : decode cX9_settled 21 = .ok (.invokevirtual 160, 3) := by decide +kernel
theorem dX9_settled_24 : decode cX9_settled 24 = .ok (.iadd, 1) := by decide +kernel
theorem dX9_settled_25 : decode cX9_settled 25 = .ok (.istore_n 1, 1) := by decide +kernel
theorem dX9_settled_26 : decode cX9_settled 26 = .ok (.iinc 2 1, 3) := by decide +kernel
theorem dX9_settled_29 : decode cX9_settled 29 = .ok (.goto (-25), 3) := by decide +kernel
theorem dX9_settled_32 : decode cX9_settled 32 = .ok (.iload_n 1, 1) := by decide +kernel
theorem dX9_settled_33 : decode cX9_settled 33 = .ok (.ireturn, 1) := by decide +kernel
theorem dX9_now_0 : decode cX9_now 0 = .ok (.aload_n 0, 1) := by decide +kernel
theorem dX9_now_1 : decode cX9_now 1 = .ok (.iconst 0, 1) := by decide +kernel
theorem dX9_now_2 : decode cX9_now 2 = .ok (.putfield 1, 3) := by decide +kernel
theorem dX9_now_5 : decode cX9_now 5 = .ok (.iload_n 1, 1) := by decide +kernel
theorem dX9_now_6 : decode cX9_now 6 = .ok (.tableswitch 87 0 6 #[42, 47, 54, 63, 72, 77, 82], 42) := by decide +kernel
theorem dX9_now_48 : decode cX9_now 48 = .ok (.aload_n 0, 1) := by decide +kernel
theorem dX9_now_49 : decode cX9_now 49 = .ok (.invokevirtual 163, 3) := by decide +kernel
theorem dX9_now_52 : decode cX9_now 52 = .ok (.ireturn, 1) := by decide +kernel
theorem dX9_now_53 : decode cX9_now 53 = .ok (.aload_n 0, 1) := by decide +kernel
theorem dX9_now_54 : decode cX9_now 54 = .ok (.getfield 91, 3) := by decide +kernel
theorem dX9_now_57 : decode cX9_now 57 = .ok (.iconst 1, 1) := by decide +kernel
theorem dX9_now_58 : decode cX9_now 58 = .ok (.iaload, 1) := by decide +kernel
theorem dX9_now_59 : decode cX9_now 59 = .ok (.ireturn, 1) := by decide +kernel
theorem dX9_now_60 : decode cX9_now 60 = .ok (.aload_n 0, 1) := by decide +kernel
theorem dX9_now_61 : decode cX9_now 61 = .ok (.getfield 91, 3) := by decide +kernel
theorem dX9_now_64 : decode cX9_now 64 = .ok (.sipush 494, 3) := by decide +kernel
theorem dX9_now_67 : decode cX9_now 67 = .ok (.iaload, 1) := by decide +kernel
theorem dX9_now_68 : decode cX9_now 68 = .ok (.ireturn, 1) := by decide +kernel
theorem dX9_now_69 : decode cX9_now 69 = .ok (.aload_n 0, 1) := by decide +kernel
theorem dX9_now_70 : decode cX9_now 70 = .ok (.getfield 91, 3) := by decide +kernel
theorem dX9_now_73 : decode cX9_now 73 = .ok (.sipush 609, 3) := by decide +kernel
theorem dX9_now_76 : decode cX9_now 76 = .ok (.iaload, 1) := by decide +kernel
theorem dX9_now_77 : decode cX9_now 77 = .ok (.ireturn, 1) := by decide +kernel
theorem dX9_now_78 : decode cX9_now 78 = .ok (.aload_n 0, 1) := by decide +kernel
theorem dX9_now_79 : decode cX9_now 79 = .ok (.invokevirtual 166, 3) := by decide +kernel
theorem dX9_now_82 : decode cX9_now 82 = .ok (.ireturn, 1) := by decide +kernel
theorem dX9_now_83 : decode cX9_now 83 = .ok (.aload_n 0, 1) := by decide +kernel
theorem dX9_now_84 : decode cX9_now 84 = .ok (.getfield 153, 3) := by decide +kernel
theorem dX9_now_87 : decode cX9_now 87 = .ok (.ireturn, 1) := by decide +kernel
theorem dX9_now_88 : decode cX9_now 88 = .ok (.aload_n 0, 1) := by decide +kernel
theorem dX9_now_89 : decode cX9_now 89 = .ok (.getfield 11, 3) := by decide +kernel
theorem dX9_now_92 : decode cX9_now 92 = .ok (.ireturn, 1) := by decide +kernel
theorem dX9_now_93 : decode cX9_now 93 = .ok (.iconst (-1), 1) := by decide +kernel
theorem dX9_now_94 : decode cX9_now 94 = .ok (.ireturn, 1) := by decide +kernel
theorem dX9_value_0 : decode cX9_value 0 = .ok (.aload_n 0, 1) := by decide +kernel
theorem dX9_value_1 : decode cX9_value 1 = .ok (.iconst 0, 1) := by decide +kernel
theorem dX9_value_2 : decode cX9_value 2 = .ok (.putfield 1, 3) := by decide +kernel
theorem dX9_value_5 : decode cX9_value 5 = .ok (.aload_n 0, 1) := by decide +kernel
theorem dX9_value_6 : decode cX9_value 6 = .ok (.iload_n 1, 1) := by decide +kernel
theorem dX9_value_7 : decode cX9_value 7 = .ok (.invokevirtual 169, 3) := by decide +kernel
theorem dX9_value_10 : decode cX9_value 10 = .ok (.ifCond .eq 10, 3) := by decide +kernel
theorem dX9_value_13 : decode cX9_value 13 = .ok (.iload_n 2, 1) := by decide +kernel
theorem dX9_value_14 : decode cX9_value 14 = .ok (.invokestatic 172, 3) := by decide +kernel
theorem dX9_value_17 : decode cX9_value 17 = .ok (.ifCond .ne 5, 3) := by decide +kernel
theorem dX9_value_20 : decode cX9_value 20 = .ok (.iconst (-1), 1) := by decide +kernel
theorem dX9_value_21 : decode cX9_value 21 = .ok (.ireturn, 1) := by decide +kernel
theorem dX9_value_22 : decode cX9_value 22 = .ok (.aload_n 0, 1) := by decide +kernel
theorem dX9_value_23 : decode cX9_value 23 = .ok (.iload_n 1, 1) := by decide +kernel
theorem dX9_value_24 : decode cX9_value 24 = .ok (.iload_n 2, 1) := by decide +kernel
theorem dX9_value_25 : decode cX9_value 25 = .ok (.invokevirtual 175, 3) := by decide +kernel
theorem dX9_value_28 : decode cX9_value 28 = .ok (.istore 4, 2) := by decide +kernel
theorem dX9_value_30 : decode cX9_value 30 = .ok (.iload_n 3, 1) := by decide +kernel
theorem dX9_value_31 : decode cX9_value 31 = .ok (.tableswitch 77 0 3 #[29, 49, 56, 74], 29) := by decide +kernel
theorem dX9_value_60 : decode cX9_value 60 = .ok (.aload_n 0, 1) := by decide +kernel
theorem dX9_value_61 : decode cX9_value 61 = .ok (.iload_n 1, 1) := by decide +kernel
theorem dX9_value_62 : decode cX9_value 62 = .ok (.iload_n 2, 1) := by decide +kernel
theorem dX9_value_63 : decode cX9_value 63 = .ok (.invokevirtual 156, 3) := by decide +kernel
theorem dX9_value_66 : decode cX9_value 66 = .ok (.ifCond .ne 7, 3) := by decide +kernel
theorem dX9_value_69 : decode cX9_value 69 = .ok (.iconst (-1), 1) := by decide +kernel
theorem dX9_value_70 : decode cX9_value 70 = .ok (.goto 9, 3) := by decide +kernel
theorem dX9_value_73 : decode cX9_value 73 = .ok (.aload_n 0, 1) := by decide +kernel
theorem dX9_value_74 : decode cX9_value 74 = .ok (.iload_n 1, 1) := by decide +kernel
theorem dX9_value_75 : decode cX9_value 75 = .ok (.iload_n 2, 1) := by decide +kernel
theorem dX9_value_76 : decode cX9_value 76 = .ok (.invokevirtual 178, 3) := by decide +kernel
theorem dX9_value_79 : decode cX9_value 79 = .ok (.ireturn, 1) := by decide +kernel
theorem dX9_value_80 : decode cX9_value 80 = .ok (.aload_n 0, 1) := by decide +kernel
theorem dX9_value_81 : decode cX9_value 81 = .ok (.iload_n 1, 1) := by decide +kernel
theorem dX9_value_82 : decode cX9_value 82 = .ok (.iload_n 2, 1) := by decide +kernel
theorem dX9_value_83 : decode cX9_value 83 = .ok (.invokevirtual 156, 3) := by decide +kernel
theorem dX9_value_86 : decode cX9_value 86 = .ok (.ireturn, 1) := by decide +kernel
theorem dX9_value_87 : decode cX9_value 87 = .ok (.iload 4, 2) := by decide +kernel
theorem dX9_value_89 : decode cX9_value 89 = .ok (.iconst (-1), 1) := by decide +kernel
theorem dX9_value_90 : decode cX9_value 90 = .ok (.if_icmp .ne 7, 3) := by decide +kernel
theorem dX9_value_93 : decode cX9_value 93 = .ok (.iconst (-1), 1) := by decide +kernel
theorem dX9_value_94 : decode cX9_value 94 = .ok (.goto 10, 3) := by decide +kernel
theorem dX9_value_97 : decode cX9_value 97 = .ok (.aload_n 0, 1) := by decide +kernel
theorem dX9_value_98 : decode cX9_value 98 = .ok (.iload_n 1, 1) := by decide +kernel
theorem dX9_value_99 : decode cX9_value 99 = .ok (.iload 4, 2) := by decide +kernel
theorem dX9_value_101 : decode cX9_value 101 = .ok (.invokevirtual 178, 3) := by decide +kernel
theorem dX9_value_104 : decode cX9_value 104 = .ok (.ireturn, 1) := by decide +kernel
theorem dX9_value_105 : decode cX9_value 105 = .ok (.iload 4, 2) := by decide +kernel
theorem dX9_value_107 : decode cX9_value 107 = .ok (.ireturn, 1) := by decide +kernel
theorem dX9_value_108 : decode cX9_value 108 = .ok (.iconst (-1), 1) := by decide +kernel
theorem dX9_value_109 : decode cX9_value 109 = .ok (.ireturn, 1) := by decide +kernel
theorem dX9_baseOf_0 : decode cX9_baseOf 0 = .ok (.aload_n 0, 1) := by decide +kernel
theorem dX9_baseOf_1 : decode cX9_baseOf 1 = .ok (.getfield 91, 3) := by decide +kernel
theorem dX9_baseOf_4 : decode cX9_baseOf 4 = .ok (.sipush 434, 3) := by decide +kernel
theorem dX9_baseOf_7 : decode cX9_baseOf 7 = .ok (.bipush 10, 2) := by decide +kernel
theorem dX9_baseOf_9 : decode cX9_baseOf 9 = .ok (.iload_n 1, 1) := by decide +kernel
theorem dX9_baseOf_10 : decode cX9_baseOf 10 = .ok (.imul, 1) := by decide +kernel
theorem dX9_baseOf_11 : decode cX9_baseOf 11 = .ok (.iadd, 1) := by decide +kernel
theorem dX9_baseOf_12 : decode cX9_baseOf 12 = .ok (.iconst 1, 1) := by decide +kernel
theorem dX9_baseOf_13 : decode cX9_baseOf 13 = .ok (.iadd, 1) := by decide +kernel
theorem dX9_baseOf_14 : decode cX9_baseOf 14 = .ok (.iconst 3, 1) := by decide +kernel
theorem dX9_baseOf_15 : decode cX9_baseOf 15 = .ok (.iload_n 2, 1) := by decide +kernel
theorem dX9_baseOf_16 : decode cX9_baseOf 16 = .ok (.imul, 1) := by decide +kernel
theorem dX9_baseOf_17 : decode cX9_baseOf 17 = .ok (.iadd, 1) := by decide +kernel
theorem dX9_baseOf_18 : decode cX9_baseOf 18 = .ok (.iload_n 3, 1) := by decide +kernel
theorem dX9_baseOf_19 : decode cX9_baseOf 19 = .ok (.iadd, 1) := by decide +kernel
theorem dX9_baseOf_20 : decode cX9_baseOf 20 = .ok (.iaload, 1) := by decide +kernel
theorem dX9_baseOf_21 : decode cX9_baseOf 21 = .ok (.ireturn, 1) := by decide +kernel
theorem dX9_rebased_0 : decode cX9_rebased 0 = .ok (.aload_n 0, 1) := by decide +kernel
theorem dX9_rebased_1 : decode cX9_rebased 1 = .ok (.iconst 0, 1) := by decide +kernel
theorem dX9_rebased_2 : decode cX9_rebased 2 = .ok (.putfield 1, 3) := by decide +kernel
theorem dX9_rebased_5 : decode cX9_rebased 5 = .ok (.aload_n 0, 1) := by decide +kernel
theorem dX9_rebased_6 : decode cX9_rebased 6 = .ok (.iload_n 1, 1) := by decide +kernel
theorem dX9_rebased_7 : decode cX9_rebased 7 = .ok (.invokevirtual 169, 3) := by decide +kernel
theorem dX9_rebased_10 : decode cX9_rebased 10 = .ok (.ifCond .eq 45, 3) := by decide +kernel
theorem dX9_rebased_13 : decode cX9_rebased 13 = .ok (.iload_n 2, 1) := by decide +kernel
theorem dX9_rebased_14 : decode cX9_rebased 14 = .ok (.iconst 0, 1) := by decide +kernel
theorem dX9_rebased_15 : decode cX9_rebased 15 = .ok (.aload_n 0, 1) := by decide +kernel
theorem dX9_rebased_16 : decode cX9_rebased 16 = .ok (.getfield 91, 3) := by decide +kernel
theorem dX9_rebased_19 : decode cX9_rebased 19 = .ok (.sipush 434, 3) := by decide +kernel
theorem dX9_rebased_22 : decode cX9_rebased 22 = .ok (.bipush 10, 2) := by decide +kernel
theorem dX9_rebased_24 : decode cX9_rebased 24 = .ok (.iload_n 1, 1) := by decide +kernel
theorem dX9_rebased_25 : decode cX9_rebased 25 = .ok (.imul, 1) := by decide +kernel
theorem dX9_rebased_26 : decode cX9_rebased 26 = .ok (.iadd, 1) := by decide +kernel
theorem dX9_rebased_27 : decode cX9_rebased 27 = .ok (.iaload, 1) := by decide +kernel
theorem dX9_rebased_28 : decode cX9_rebased 28 = .ok (.iconst 1, 1) := by decide +kernel
theorem dX9_rebased_29 : decode cX9_rebased 29 = .ok (.isub, 1) := by decide +kernel
theorem dX9_rebased_30 : decode cX9_rebased 30 = .ok (.invokestatic 107, 3) := by decide +kernel
theorem dX9_rebased_33 : decode cX9_rebased 33 = .ok (.ifCond .eq 22, 3) := by decide +kernel
theorem dX9_rebased_36 : decode cX9_rebased 36 = .ok (.iload_n 3, 1) := by decide +kernel
theorem dX9_rebased_37 : decode cX9_rebased 37 = .ok (.iconst 0, 1) := by decide +kernel
theorem dX9_rebased_38 : decode cX9_rebased 38 = .ok (.iconst 2, 1) := by decide +kernel
theorem dX9_rebased_39 : decode cX9_rebased 39 = .ok (.invokestatic 107, 3) := by decide +kernel
theorem dX9_rebased_42 : decode cX9_rebased 42 = .ok (.ifCond .eq 13, 3) := by decide +kernel
theorem dX9_rebased_45 : decode cX9_rebased 45 = .ok (.aload_n 0, 1) := by decide +kernel
theorem dX9_rebased_46 : decode cX9_rebased 46 = .ok (.iload_n 1, 1) := by decide +kernel
theorem dX9_rebased_47 : decode cX9_rebased 47 = .ok (.iload_n 2, 1) := by decide +kernel
theorem dX9_rebased_48 : decode cX9_rebased 48 = .ok (.iload_n 3, 1) := by decide +kernel
theorem dX9_rebased_49 : decode cX9_rebased 49 = .ok (.invokevirtual 181, 3) := by decide +kernel
theorem dX9_rebased_52 : decode cX9_rebased 52 = .ok (.goto 4, 3) := by decide +kernel
theorem dX9_rebased_55 : decode cX9_rebased 55 = .ok (.iconst (-1), 1) := by decide +kernel
theorem dX9_rebased_56 : decode cX9_rebased 56 = .ok (.ireturn, 1) := by decide +kernel
theorem dX9_ratioOf_0 : decode cX9_ratioOf 0 = .ok (.aload_n 0, 1) := by decide +kernel
theorem dX9_ratioOf_1 : decode cX9_ratioOf 1 = .ok (.iload_n 1, 1) := by decide +kernel
theorem dX9_ratioOf_2 : decode cX9_ratioOf 2 = .ok (.iload_n 3, 1) := by decide +kernel
theorem dX9_ratioOf_3 : decode cX9_ratioOf 3 = .ok (.invokevirtual 178, 3) := by decide +kernel
theorem dX9_ratioOf_6 : decode cX9_ratioOf 6 = .ok (.i2l, 1) := by decide +kernel
theorem dX9_ratioOf_7 : decode cX9_ratioOf 7 = .ok (.lstore 4, 2) := by decide +kernel
theorem dX9_ratioOf_9 : decode cX9_ratioOf 9 = .ok (.aload_n 0, 1) := by decide +kernel
theorem dX9_ratioOf_10 : decode cX9_ratioOf 10 = .ok (.iload_n 1, 1) := by decide +kernel
theorem dX9_ratioOf_11 : decode cX9_ratioOf 11 = .ok (.iload_n 2, 1) := by decide +kernel
theorem dX9_ratioOf_12 : decode cX9_ratioOf 12 = .ok (.invokevirtual 178, 3) := by decide +kernel
theorem dX9_ratioOf_15 : decode cX9_ratioOf 15 = .ok (.i2l, 1) := by decide +kernel
theorem dX9_ratioOf_16 : decode cX9_ratioOf 16 = .ok (.lstore 6, 2) := by decide +kernel
theorem dX9_ratioOf_18 : decode cX9_ratioOf 18 = .ok (.iconst 0, 1) := by decide +kernel
theorem dX9_ratioOf_19 : decode cX9_ratioOf 19 = .ok (.istore 8, 2) := by decide +kernel
theorem dX9_ratioOf_21 : decode cX9_ratioOf 21 = .ok (.iload 8, 2) := by decide +kernel
theorem dX9_ratioOf_23 : decode cX9_ratioOf 23 = .ok (.aload_n 0, 1) := by decide +kernel
theorem dX9_ratioOf_24 : decode cX9_ratioOf 24 = .ok (.getfield 91, 3) := by decide +kernel
theorem dX9_ratioOf_27 : decode cX9_ratioOf 27 = .ok (.sipush 434, 3) := by decide +kernel
theorem dX9_ratioOf_30 : decode cX9_ratioOf 30 = .ok (.bipush 10, 2) := by decide +kernel
theorem dX9_ratioOf_32 : decode cX9_ratioOf 32 = .ok (.iload_n 1, 1) := by decide +kernel
theorem dX9_ratioOf_33 : decode cX9_ratioOf 33 = .ok (.imul, 1) := by decide +kernel
theorem dX9_ratioOf_34 : decode cX9_ratioOf 34 = .ok (.iadd, 1) := by decide +kernel
theorem dX9_ratioOf_35 : decode cX9_ratioOf 35 = .ok (.iaload, 1) := by decide +kernel
theorem dX9_ratioOf_36 : decode cX9_ratioOf 36 = .ok (.if_icmp .ge 58, 3) := by decide +kernel
theorem dX9_ratioOf_39 : decode cX9_ratioOf 39 = .ok (.aload_n 0, 1) := by decide +kernel
theorem dX9_ratioOf_40 : decode cX9_ratioOf 40 = .ok (.iload_n 1, 1) := by decide +kernel
theorem dX9_ratioOf_41 : decode cX9_ratioOf 41 = .ok (.iload 8, 2) := by decide +kernel
theorem dX9_ratioOf_43 : decode cX9_ratioOf 43 = .ok (.iconst 0, 1) := by decide +kernel
theorem dX9_ratioOf_44 : decode cX9_ratioOf 44 = .ok (.invokevirtual 181, 3) := by decide +kernel
theorem dX9_ratioOf_47 : decode cX9_ratioOf 47 = .ok (.iload_n 2, 1) := by decide +kernel
theorem dX9_ratioOf_48 : decode cX9_ratioOf 48 = .ok (.iload_n 3, 1) := by decide +kernel
theorem dX9_ratioOf_49 : decode cX9_ratioOf 49 = .ok (.iconst 1, 1) := by decide +kernel
theorem dX9_ratioOf_50 : decode cX9_ratioOf 50 = .ok (.isub, 1) := by decide +kernel
theorem dX9_ratioOf_51 : decode cX9_ratioOf 51 = .ok (.invokestatic 107, 3) := by decide +kernel
theorem dX9_ratioOf_54 : decode cX9_ratioOf 54 = .ok (.ifCond .ne 6, 3) := by decide +kernel
theorem dX9_ratioOf_57 : decode cX9_ratioOf 57 = .ok (.goto 31, 3) := by decide +kernel
theorem dX9_ratioOf_60 : decode cX9_ratioOf 60 = .ok (.lload 4, 2) := by decide +kernel
theorem dX9_ratioOf_62 : decode cX9_ratioOf 62 = .ok (.aload_n 0, 1) := by decide +kernel
theorem dX9_ratioOf_63 : decode cX9_ratioOf 63 = .ok (.iload_n 1, 1) := by decide +kernel
theorem dX9_ratioOf_64 : decode cX9_ratioOf 64 = .ok (.iload 8, 2) := by decide +kernel
theorem dX9_ratioOf_66 : decode cX9_ratioOf 66 = .ok (.iconst 1, 1) := by decide +kernel
theorem dX9_ratioOf_67 : decode cX9_ratioOf 67 = .ok (.invokevirtual 181, 3) := by decide +kernel
theorem dX9_ratioOf_70 : decode cX9_ratioOf 70 = .ok (.i2l, 1) := by decide +kernel
theorem dX9_ratioOf_71 : decode cX9_ratioOf 71 = .ok (.lmul, 1) := by decide +kernel
theorem dX9_ratioOf_72 : decode cX9_ratioOf 72 = .ok (.lstore 4, 2) := by decide +kernel
theorem dX9_ratioOf_74 : decode cX9_ratioOf 74 = .ok (.lload 6, 2) := by decide +kernel
theorem dX9_ratioOf_76 : decode cX9_ratioOf 76 = .ok (.aload_n 0, 1) := by decide +kernel
theorem dX9_ratioOf_77 : decode cX9_ratioOf 77 = .ok (.iload_n 1, 1) := by decide +kernel
theorem dX9_ratioOf_78 : decode cX9_ratioOf 78 = .ok (.iload 8, 2) := by decide +kernel
theorem dX9_ratioOf_80 : decode cX9_ratioOf 80 = .ok (.iconst 2, 1) := by decide +kernel
theorem dX9_ratioOf_81 : decode cX9_ratioOf 81 = .ok (.invokevirtual 181, 3) := by decide +kernel
theorem dX9_ratioOf_84 : decode cX9_ratioOf 84 = .ok (.i2l, 1) := by decide +kernel
theorem dX9_ratioOf_85 : decode cX9_ratioOf 85 = .ok (.lmul, 1) := by decide +kernel
theorem dX9_ratioOf_86 : decode cX9_ratioOf 86 = .ok (.lstore 6, 2) := by decide +kernel
theorem dX9_ratioOf_88 : decode cX9_ratioOf 88 = .ok (.iinc 8 1, 3) := by decide +kernel
theorem dX9_ratioOf_91 : decode cX9_ratioOf 91 = .ok (.goto (-70), 3) := by decide +kernel
theorem dX9_ratioOf_94 : decode cX9_ratioOf 94 = .ok (.lload 4, 2) := by decide +kernel
theorem dX9_ratioOf_96 : decode cX9_ratioOf 96 = .ok (.ldc2_w 185, 3) := by decide +kernel
theorem dX9_ratioOf_99 : decode cX9_ratioOf 99 = .ok (.lmul, 1) := by decide +kernel
theorem dX9_ratioOf_100 : decode cX9_ratioOf 100 = .ok (.lload 6, 2) := by decide +kernel
theorem dX9_ratioOf_102 : decode cX9_ratioOf 102 = .ok (.ldiv, 1) := by decide +kernel
theorem dX9_ratioOf_103 : decode cX9_ratioOf 103 = .ok (.lstore 8, 2) := by decide +kernel
theorem dX9_ratioOf_105 : decode cX9_ratioOf 105 = .ok (.lload 8, 2) := by decide +kernel
theorem dX9_ratioOf_107 : decode cX9_ratioOf 107 = .ok (.ldc2_w 187, 3) := by decide +kernel
theorem dX9_ratioOf_110 : decode cX9_ratioOf 110 = .ok (.lcmp, 1) := by decide +kernel
theorem dX9_ratioOf_111 : decode cX9_ratioOf 111 = .ok (.ifCond .le 8, 3) := by decide +kernel
theorem dX9_ratioOf_114 : decode cX9_ratioOf 114 = .ok (.ldc 189, 2) := by decide +kernel
theorem dX9_ratioOf_116 : decode cX9_ratioOf 116 = .ok (.goto 6, 3) := by decide +kernel
theorem dX9_ratioOf_119 : decode cX9_ratioOf 119 = .ok (.lload 8, 2) := by decide +kernel
theorem dX9_ratioOf_121 : decode cX9_ratioOf 121 = .ok (.l2i, 1) := by decide +kernel
theorem dX9_ratioOf_122 : decode cX9_ratioOf 122 = .ok (.ireturn, 1) := by decide +kernel
theorem dX9_ratio_0 : decode cX9_ratio 0 = .ok (.aload_n 0, 1) := by decide +kernel
theorem dX9_ratio_1 : decode cX9_ratio 1 = .ok (.iconst 0, 1) := by decide +kernel
theorem dX9_ratio_2 : decode cX9_ratio 2 = .ok (.putfield 1, 3) := by decide +kernel
theorem dX9_ratio_5 : decode cX9_ratio 5 = .ok (.aload_n 0, 1) := by decide +kernel
theorem dX9_ratio_6 : decode cX9_ratio 6 = .ok (.iload_n 1, 1) := by decide +kernel
theorem dX9_ratio_7 : decode cX9_ratio 7 = .ok (.invokevirtual 169, 3) := by decide +kernel
theorem dX9_ratio_10 : decode cX9_ratio 10 = .ok (.ifCond .eq 40, 3) := by decide +kernel
theorem dX9_ratio_13 : decode cX9_ratio 13 = .ok (.iload_n 2, 1) := by decide +kernel
theorem dX9_ratio_14 : decode cX9_ratio 14 = .ok (.invokestatic 172, 3) := by decide +kernel
theorem dX9_ratio_17 : decode cX9_ratio 17 = .ok (.ifCond .eq 33, 3) := by decide +kernel
theorem dX9_ratio_20 : decode cX9_ratio 20 = .ok (.iload_n 3, 1) := by decide +kernel
theorem dX9_ratio_21 : decode cX9_ratio 21 = .ok (.invokestatic 172, 3) := by decide +kernel
theorem dX9_ratio_24 : decode cX9_ratio 24 = .ok (.ifCond .eq 26, 3) := by decide +kernel
theorem dX9_ratio_27 : decode cX9_ratio 27 = .ok (.iload_n 2, 1) := by decide +kernel
theorem dX9_ratio_28 : decode cX9_ratio 28 = .ok (.iload_n 3, 1) := by decide +kernel
theorem dX9_ratio_29 : decode cX9_ratio 29 = .ok (.if_icmp .gt 21, 3) := by decide +kernel
theorem dX9_ratio_32 : decode cX9_ratio 32 = .ok (.aload_n 0, 1) := by decide +kernel
theorem dX9_ratio_33 : decode cX9_ratio 33 = .ok (.iload_n 1, 1) := by decide +kernel
theorem dX9_ratio_34 : decode cX9_ratio 34 = .ok (.iload_n 2, 1) := by decide +kernel
theorem dX9_ratio_35 : decode cX9_ratio 35 = .ok (.invokevirtual 156, 3) := by decide +kernel
theorem dX9_ratio_38 : decode cX9_ratio 38 = .ok (.ifCond .eq 12, 3) := by decide +kernel
theorem dX9_ratio_41 : decode cX9_ratio 41 = .ok (.aload_n 0, 1) := by decide +kernel
theorem dX9_ratio_42 : decode cX9_ratio 42 = .ok (.iload_n 1, 1) := by decide +kernel
theorem dX9_ratio_43 : decode cX9_ratio 43 = .ok (.iload_n 3, 1) := by decide +kernel
theorem dX9_ratio_44 : decode cX9_ratio 44 = .ok (.invokevirtual 156, 3) := by decide +kernel
theorem dX9_ratio_47 : decode cX9_ratio 47 = .ok (.ifCond .ne 8, 3) := by decide +kernel
theorem dX9_ratio_50 : decode cX9_ratio 50 = .ok (.aload_n 0, 1) := by decide +kernel
theorem dX9_ratio_51 : decode cX9_ratio 51 = .ok (.invokevirtual 190, 3) := by decide +kernel
theorem dX9_ratio_54 : decode cX9_ratio 54 = .ok (.ireturn, 1) := by decide +kernel
theorem dX9_ratio_55 : decode cX9_ratio 55 = .ok (.aload_n 0, 1) := by decide +kernel
theorem dX9_ratio_56 : decode cX9_ratio 56 = .ok (.iload_n 1, 1) := by decide +kernel
theorem dX9_ratio_57 : decode cX9_ratio 57 = .ok (.iload_n 2, 1) := by decide +kernel
theorem dX9_ratio_58 : decode cX9_ratio 58 = .ok (.iload_n 3, 1) := by decide +kernel
theorem dX9_ratio_59 : decode cX9_ratio 59 = .ok (.invokevirtual 193, 3) := by decide +kernel
theorem dX9_ratio_62 : decode cX9_ratio 62 = .ok (.ireturn, 1) := by decide +kernel
theorem dX9_toldBy_0 : decode cX9_toldBy 0 = .ok (.aload_n 0, 1) := by decide +kernel
theorem dX9_toldBy_1 : decode cX9_toldBy 1 = .ok (.getfield 91, 3) := by decide +kernel
theorem dX9_toldBy_4 : decode cX9_toldBy 4 = .ok (.sipush 495, 3) := by decide +kernel
theorem dX9_toldBy_7 : decode cX9_toldBy 7 = .ok (.bipush 19, 2) := by decide +kernel
theorem dX9_toldBy_9 : decode cX9_toldBy 9 = .ok (.iload_n 1, 1) := by decide +kernel
theorem dX9_toldBy_10 : decode cX9_toldBy 10 = .ok (.imul, 1) := by decide +kernel
theorem dX9_toldBy_11 : decode cX9_toldBy 11 = .ok (.iadd, 1) := by decide +kernel
theorem dX9_toldBy_12 : decode cX9_toldBy 12 = .ok (.iload_n 2, 1) := by decide +kernel
theorem dX9_toldBy_13 : decode cX9_toldBy 13 = .ok (.iadd, 1) := by decide +kernel
theorem dX9_toldBy_14 : decode cX9_toldBy 14 = .ok (.iaload, 1) := by decide +kernel
theorem dX9_toldBy_15 : decode cX9_toldBy 15 = .ok (.ireturn, 1) := by decide +kernel
theorem dX9_contract_0 : decode cX9_contract 0 = .ok (.aload_n 0, 1) := by decide +kernel
theorem dX9_contract_1 : decode cX9_contract 1 = .ok (.iconst 0, 1) := by decide +kernel
theorem dX9_contract_2 : decode cX9_contract 2 = .ok (.putfield 1, 3) := by decide +kernel
theorem dX9_contract_5 : decode cX9_contract 5 = .ok (.aload_n 0, 1) := by decide +kernel
theorem dX9_contract_6 : decode cX9_contract 6 = .ok (.iload_n 1, 1) := by decide +kernel
theorem dX9_contract_7 : decode cX9_contract 7 = .ok (.invokevirtual 196, 3) := by decide +kernel
theorem dX9_contract_10 : decode cX9_contract 10 = .ok (.ifCond .eq 32, 3) := by decide +kernel
theorem dX9_contract_13 : decode cX9_contract 13 = .ok (.iload_n 2, 1) := by decide +kernel
theorem dX9_contract_14 : decode cX9_contract 14 = .ok (.iconst 0, 1) := by decide +kernel
theorem dX9_contract_15 : decode cX9_contract 15 = .ok (.bipush 6, 2) := by decide +kernel
theorem dX9_contract_17 : decode cX9_contract 17 = .ok (.iconst 2, 1) := by decide +kernel
theorem dX9_contract_18 : decode cX9_contract 18 = .ok (.aload_n 0, 1) := by decide +kernel
theorem dX9_contract_19 : decode cX9_contract 19 = .ok (.iload_n 1, 1) := by decide +kernel
theorem dX9_contract_20 : decode cX9_contract 20 = .ok (.bipush 6, 2) := by decide +kernel
theorem dX9_contract_22 : decode cX9_contract 22 = .ok (.invokevirtual 199, 3) := by decide +kernel
theorem dX9_contract_25 : decode cX9_contract 25 = .ok (.imul, 1) := by decide +kernel
theorem dX9_contract_26 : decode cX9_contract 26 = .ok (.iadd, 1) := by decide +kernel
theorem dX9_contract_27 : decode cX9_contract 27 = .ok (.invokestatic 107, 3) := by decide +kernel
theorem dX9_contract_30 : decode cX9_contract 30 = .ok (.ifCond .eq 12, 3) := by decide +kernel
theorem dX9_contract_33 : decode cX9_contract 33 = .ok (.aload_n 0, 1) := by decide +kernel
theorem dX9_contract_34 : decode cX9_contract 34 = .ok (.iload_n 1, 1) := by decide +kernel
theorem dX9_contract_35 : decode cX9_contract 35 = .ok (.iload_n 2, 1) := by decide +kernel
theorem dX9_contract_36 : decode cX9_contract 36 = .ok (.invokevirtual 199, 3) := by decide +kernel
theorem dX9_contract_39 : decode cX9_contract 39 = .ok (.goto 4, 3) := by decide +kernel
theorem dX9_contract_42 : decode cX9_contract 42 = .ok (.iconst (-1), 1) := by decide +kernel
theorem dX9_contract_43 : decode cX9_contract 43 = .ok (.ireturn, 1) := by decide +kernel
theorem dX9_factorOf_0 : decode cX9_factorOf 0 = .ok (.ldc2_w 185, 3) := by decide +kernel
theorem dX9_factorOf_3 : decode cX9_factorOf 3 = .ok (.aload_n 0, 1) := by decide +kernel
theorem dX9_factorOf_4 : decode cX9_factorOf 4 = .ok (.iload_n 1, 1) := by decide +kernel
theorem dX9_factorOf_5 : decode cX9_factorOf 5 = .ok (.iconst 1, 1) := by decide +kernel
theorem dX9_factorOf_6 : decode cX9_factorOf 6 = .ok (.invokevirtual 199, 3) := by decide +kernel
theorem dX9_factorOf_9 : decode cX9_factorOf 9 = .ok (.i2l, 1) := by decide +kernel
theorem dX9_factorOf_10 : decode cX9_factorOf 10 = .ok (.lmul, 1) := by decide +kernel
theorem dX9_factorOf_11 : decode cX9_factorOf 11 = .ok (.lstore_n 3, 1) := by decide +kernel
theorem dX9_factorOf_12 : decode cX9_factorOf 12 = .ok (.iconst 0, 1) := by decide +kernel
theorem dX9_factorOf_13 : decode cX9_factorOf 13 = .ok (.istore 5, 2) := by decide +kernel
theorem dX9_factorOf_15 : decode cX9_factorOf 15 = .ok (.iload 5, 2) := by decide +kernel
theorem dX9_factorOf_17 : decode cX9_factorOf 17 = .ok (.aload_n 0, 1) := by decide +kernel
theorem dX9_factorOf_18 : decode cX9_factorOf 18 = .ok (.iload_n 1, 1) := by decide +kernel
theorem dX9_factorOf_19 : decode cX9_factorOf 19 = .ok (.bipush 6, 2) := by decide +kernel
theorem dX9_factorOf_21 : decode cX9_factorOf 21 = .ok (.invokevirtual 199, 3) := by decide +kernel
theorem dX9_factorOf_24 : decode cX9_factorOf 24 = .ok (.if_icmp .ge 60, 3) := by decide +kernel
theorem dX9_factorOf_27 : decode cX9_factorOf 27 = .ok (.aload_n 0, 1) := by decide +kernel
theorem dX9_factorOf_28 : decode cX9_factorOf 28 = .ok (.iload_n 1, 1) := by decide +kernel
theorem dX9_factorOf_29 : decode cX9_factorOf 29 = .ok (.bipush 8, 2) := by decide +kernel
theorem dX9_factorOf_31 : decode cX9_factorOf 31 = .ok (.iconst 2, 1) := by decide +kernel
theorem dX9_factorOf_32 : decode cX9_factorOf 32 = .ok (.iload 5, 2) := by decide +kernel
theorem dX9_factorOf_34 : decode cX9_factorOf 34 = .ok (.imul, 1) := by decide +kernel
theorem dX9_factorOf_35 : decode cX9_factorOf 35 = .ok (.iadd, 1) := by decide +kernel
theorem dX9_factorOf_36 : decode cX9_factorOf 36 = .ok (.invokevirtual 199, 3) := by decide +kernel
theorem dX9_factorOf_39 : decode cX9_factorOf 39 = .ok (.istore 6, 2) := by decide +kernel
theorem dX9_factorOf_41 : decode cX9_factorOf 41 = .ok (.lload_n 3, 1) := by decide +kernel
theorem dX9_factorOf_42 : decode cX9_factorOf 42 = .ok (.aload_n 0, 1) := by decide +kernel
theorem dX9_factorOf_43 : decode cX9_factorOf 43 = .ok (.iload_n 1, 1) := by decide +kernel
theorem dX9_factorOf_44 : decode cX9_factorOf 44 = .ok (.bipush 7, 2) := by decide +kernel
theorem dX9_factorOf_46 : decode cX9_factorOf 46 = .ok (.iconst 2, 1) := by decide +kernel
theorem dX9_factorOf_47 : decode cX9_factorOf 47 = .ok (.iload 5, 2) := by decide +kernel
theorem dX9_factorOf_49 : decode cX9_factorOf 49 = .ok (.imul, 1) := by decide +kernel
theorem dX9_factorOf_50 : decode cX9_factorOf 50 = .ok (.iadd, 1) := by decide +kernel
theorem dX9_factorOf_51 : decode cX9_factorOf 51 = .ok (.invokevirtual 199, 3) := by decide +kernel
theorem dX9_factorOf_54 : decode cX9_factorOf 54 = .ok (.i2l, 1) := by decide +kernel
theorem dX9_factorOf_55 : decode cX9_factorOf 55 = .ok (.aload_n 0, 1) := by decide +kernel
theorem dX9_factorOf_56 : decode cX9_factorOf 56 = .ok (.iload 6, 2) := by decide +kernel
theorem dX9_factorOf_58 : decode cX9_factorOf 58 = .ok (.aload_n 0, 1) := by decide +kernel
theorem dX9_factorOf_59 : decode cX9_factorOf 59 = .ok (.iload_n 1, 1) := by decide +kernel
theorem dX9_factorOf_60 : decode cX9_factorOf 60 = .ok (.iconst 2, 1) := by decide +kernel
theorem dX9_factorOf_61 : decode cX9_factorOf 61 = .ok (.invokevirtual 199, 3) := by decide +kernel
theorem dX9_factorOf_64 : decode cX9_factorOf 64 = .ok (.aload_n 0, 1) := by decide +kernel
theorem dX9_factorOf_65 : decode cX9_factorOf 65 = .ok (.iload 6, 2) := by decide +kernel
theorem dX9_factorOf_67 : decode cX9_factorOf 67 = .ok (.iload_n 2, 1) := by decide +kernel
theorem dX9_factorOf_68 : decode cX9_factorOf 68 = .ok (.invokevirtual 175, 3) := by decide +kernel
theorem dX9_factorOf_71 : decode cX9_factorOf 71 = .ok (.invokevirtual 193, 3) := by decide +kernel
theorem dX9_factorOf_74 : decode cX9_factorOf 74 = .ok (.i2l, 1) := by decide +kernel
theorem dX9_factorOf_75 : decode cX9_factorOf 75 = .ok (.lmul, 1) := by decide +kernel
theorem dX9_factorOf_76 : decode cX9_factorOf 76 = .ok (.ladd, 1) := by decide +kernel
theorem dX9_factorOf_77 : decode cX9_factorOf 77 = .ok (.lstore_n 3, 1) := by decide +kernel
theorem dX9_factorOf_78 : decode cX9_factorOf 78 = .ok (.iinc 5 1, 3) := by decide +kernel
theorem dX9_factorOf_81 : decode cX9_factorOf 81 = .ok (.goto (-66), 3) := by decide +kernel
theorem dX9_factorOf_84 : decode cX9_factorOf 84 = .ok (.lload_n 3, 1) := by decide +kernel
theorem dX9_factorOf_85 : decode cX9_factorOf 85 = .ok (.ldc2_w 202, 3) := by decide +kernel
theorem dX9_factorOf_88 : decode cX9_factorOf 88 = .ok (.ldiv, 1) := by decide +kernel
theorem dX9_factorOf_89 : decode cX9_factorOf 89 = .ok (.l2i, 1) := by decide +kernel
theorem dX9_factorOf_90 : decode cX9_factorOf 90 = .ok (.ireturn, 1) := by decide +kernel
theorem dX9_moveOf_0 : decode cX9_moveOf 0 = .ok (.aload_n 0, 1) := by decide +kernel
theorem dX9_moveOf_1 : decode cX9_moveOf 1 = .ok (.iload_n 1, 1) := by decide +kernel
theorem dX9_moveOf_2 : decode cX9_moveOf 2 = .ok (.iload_n 2, 1) := by decide +kernel
theorem dX9_moveOf_3 : decode cX9_moveOf 3 = .ok (.invokevirtual 204, 3) := by decide +kernel
theorem dX9_moveOf_6 : decode cX9_moveOf 6 = .ok (.ldc 207, 2) := by decide +kernel
theorem dX9_moveOf_8 : decode cX9_moveOf 8 = .ok (.isub, 1) := by decide +kernel
theorem dX9_moveOf_9 : decode cX9_moveOf 9 = .ok (.istore_n 3, 1) := by decide +kernel
theorem dX9_moveOf_10 : decode cX9_moveOf 10 = .ok (.iload_n 3, 1) := by decide +kernel
theorem dX9_moveOf_11 : decode cX9_moveOf 11 = .ok (.ifCond .ge 8, 3) := by decide +kernel
theorem dX9_moveOf_14 : decode cX9_moveOf 14 = .ok (.iload_n 3, 1) := by decide +kernel
theorem dX9_moveOf_15 : decode cX9_moveOf 15 = .ok (.ineg, 1) := by decide +kernel
theorem dX9_moveOf_16 : decode cX9_moveOf 16 = .ok (.goto 4, 3) := by decide +kernel
theorem dX9_moveOf_19 : decode cX9_moveOf 19 = .ok (.iload_n 3, 1) := by decide +kernel
theorem dX9_moveOf_20 : decode cX9_moveOf 20 = .ok (.istore 4, 2) := by decide +kernel
theorem dX9_moveOf_22 : decode cX9_moveOf 22 = .ok (.sipush 1000, 3) := by decide +kernel
theorem dX9_moveOf_25 : decode cX9_moveOf 25 = .ok (.aload_n 0, 1) := by decide +kernel
theorem dX9_moveOf_26 : decode cX9_moveOf 26 = .ok (.iload_n 1, 1) := by decide +kernel
theorem dX9_moveOf_27 : decode cX9_moveOf 27 = .ok (.iconst 3, 1) := by decide +kernel
theorem dX9_moveOf_28 : decode cX9_moveOf 28 = .ok (.invokevirtual 199, 3) := by decide +kernel
theorem dX9_moveOf_31 : decode cX9_moveOf 31 = .ok (.imul, 1) := by decide +kernel
theorem dX9_moveOf_32 : decode cX9_moveOf 32 = .ok (.istore 5, 2) := by decide +kernel
theorem dX9_moveOf_34 : decode cX9_moveOf 34 = .ok (.iload 4, 2) := by decide +kernel
theorem dX9_moveOf_36 : decode cX9_moveOf 36 = .ok (.iload 5, 2) := by decide +kernel
theorem dX9_moveOf_38 : decode cX9_moveOf 38 = .ok (.if_icmp .gt 5, 3) := by decide +kernel
theorem dX9_moveOf_41 : decode cX9_moveOf 41 = .ok (.iconst 0, 1) := by decide +kernel
theorem dX9_moveOf_42 : decode cX9_moveOf 42 = .ok (.ireturn, 1) := by decide +kernel
theorem dX9_moveOf_43 : decode cX9_moveOf 43 = .ok (.aload_n 0, 1) := by decide +kernel
theorem dX9_moveOf_44 : decode cX9_moveOf 44 = .ok (.iload_n 1, 1) := by decide +kernel
theorem dX9_moveOf_45 : decode cX9_moveOf 45 = .ok (.iconst 5, 1) := by decide +kernel
theorem dX9_moveOf_46 : decode cX9_moveOf 46 = .ok (.invokevirtual 199, 3) := by decide +kernel
theorem dX9_moveOf_49 : decode cX9_moveOf 49 = .ok (.iconst 1, 1) := by decide +kernel
theorem dX9_moveOf_50 : decode cX9_moveOf 50 = .ok (.if_icmp .ne 10, 3) := by decide +kernel
theorem dX9_moveOf_53 : decode cX9_moveOf 53 = .ok (.iload 4, 2) := by decide +kernel
theorem dX9_moveOf_55 : decode cX9_moveOf 55 = .ok (.iload 5, 2) := by decide +kernel
theorem dX9_moveOf_57 : decode cX9_moveOf 57 = .ok (.isub, 1) := by decide +kernel
theorem dX9_moveOf_58 : decode cX9_moveOf 58 = .ok (.istore 4, 2) := by decide +kernel
theorem dX9_moveOf_60 : decode cX9_moveOf 60 = .ok (.iload 4, 2) := by decide +kernel
theorem dX9_moveOf_62 : decode cX9_moveOf 62 = .ok (.i2l, 1) := by decide +kernel
theorem dX9_moveOf_63 : decode cX9_moveOf 63 = .ok (.aload_n 0, 1) := by decide +kernel
theorem dX9_moveOf_64 : decode cX9_moveOf 64 = .ok (.iload_n 1, 1) := by decide +kernel
theorem dX9_moveOf_65 : decode cX9_moveOf 65 = .ok (.iconst 4, 1) := by decide +kernel
theorem dX9_moveOf_66 : decode cX9_moveOf 66 = .ok (.invokevirtual 199, 3) := by decide +kernel
theorem dX9_moveOf_69 : decode cX9_moveOf 69 = .ok (.i2l, 1) := by decide +kernel
theorem dX9_moveOf_70 : decode cX9_moveOf 70 = .ok (.lmul, 1) := by decide +kernel
theorem dX9_moveOf_71 : decode cX9_moveOf 71 = .ok (.ldc2_w 208, 3) := by decide +kernel
theorem dX9_moveOf_74 : decode cX9_moveOf 74 = .ok (.ldiv, 1) := by decide +kernel
theorem dX9_moveOf_75 : decode cX9_moveOf 75 = .ok (.l2i, 1) := by decide +kernel
theorem dX9_moveOf_76 : decode cX9_moveOf 76 = .ok (.istore 6, 2) := by decide +kernel
theorem dX9_moveOf_78 : decode cX9_moveOf 78 = .ok (.iload_n 3, 1) := by decide +kernel
theorem dX9_moveOf_79 : decode cX9_moveOf 79 = .ok (.ifCond .ge 9, 3) := by decide +kernel
theorem dX9_moveOf_82 : decode cX9_moveOf 82 = .ok (.iload 6, 2) := by decide +kernel
theorem dX9_moveOf_84 : decode cX9_moveOf 84 = .ok (.ineg, 1) := by decide +kernel
theorem dX9_moveOf_85 : decode cX9_moveOf 85 = .ok (.goto 5, 3) := by decide +kernel
theorem dX9_moveOf_88 : decode cX9_moveOf 88 = .ok (.iload 6, 2) := by decide +kernel
theorem dX9_moveOf_90 : decode cX9_moveOf 90 = .ok (.ireturn, 1) := by decide +kernel
theorem dX9_priceOf_0 : decode cX9_priceOf 0 = .ok (.aload_n 0, 1) := by decide +kernel
theorem dX9_priceOf_1 : decode cX9_priceOf 1 = .ok (.iload_n 1, 1) := by decide +kernel
theorem dX9_priceOf_2 : decode cX9_priceOf 2 = .ok (.iconst 0, 1) := by decide +kernel
theorem dX9_priceOf_3 : decode cX9_priceOf 3 = .ok (.invokevirtual 199, 3) := by decide +kernel
theorem dX9_priceOf_6 : decode cX9_priceOf 6 = .ok (.i2l, 1) := by decide +kernel
theorem dX9_priceOf_7 : decode cX9_priceOf 7 = .ok (.ldc2_w 185, 3) := by decide +kernel
theorem dX9_priceOf_10 : decode cX9_priceOf 10 = .ok (.aload_n 0, 1) := by decide +kernel
theorem dX9_priceOf_11 : decode cX9_priceOf 11 = .ok (.iload_n 1, 1) := by decide +kernel
theorem dX9_priceOf_12 : decode cX9_priceOf 12 = .ok (.iload_n 2, 1) := by decide +kernel
theorem dX9_priceOf_13 : decode cX9_priceOf 13 = .ok (.invokevirtual 210, 3) := by decide +kernel
theorem dX9_priceOf_16 : decode cX9_priceOf 16 = .ok (.i2l, 1) := by decide +kernel
theorem dX9_priceOf_17 : decode cX9_priceOf 17 = .ok (.ladd, 1) := by decide +kernel
theorem dX9_priceOf_18 : decode cX9_priceOf 18 = .ok (.lmul, 1) := by decide +kernel
theorem dX9_priceOf_19 : decode cX9_priceOf 19 = .ok (.ldc2_w 213, 3) := by decide +kernel
theorem dX9_priceOf_22 : decode cX9_priceOf 22 = .ok (.ladd, 1) := by decide +kernel
theorem dX9_priceOf_23 : decode cX9_priceOf 23 = .ok (.ldc2_w 185, 3) := by decide +kernel
theorem dX9_priceOf_26 : decode cX9_priceOf 26 = .ok (.ldiv, 1) := by decide +kernel
theorem dX9_priceOf_27 : decode cX9_priceOf 27 = .ok (.l2i, 1) := by decide +kernel
theorem dX9_priceOf_28 : decode cX9_priceOf 28 = .ok (.ireturn, 1) := by decide +kernel
theorem dX9_price_0 : decode cX9_price 0 = .ok (.aload_n 0, 1) := by decide +kernel
theorem dX9_price_1 : decode cX9_price 1 = .ok (.iconst 0, 1) := by decide +kernel
theorem dX9_price_2 : decode cX9_price 2 = .ok (.putfield 1, 3) := by decide +kernel
theorem dX9_price_5 : decode cX9_price 5 = .ok (.aload_n 0, 1) := by decide +kernel
theorem dX9_price_6 : decode cX9_price 6 = .ok (.iload_n 1, 1) := by decide +kernel
theorem dX9_price_7 : decode cX9_price 7 = .ok (.invokevirtual 196, 3) := by decide +kernel
theorem dX9_price_10 : decode cX9_price 10 = .ok (.ifCond .eq 29, 3) := by decide +kernel
theorem dX9_price_13 : decode cX9_price 13 = .ok (.iload_n 2, 1) := by decide +kernel
theorem dX9_price_14 : decode cX9_price 14 = .ok (.aload_n 0, 1) := by decide +kernel
theorem dX9_price_15 : decode cX9_price 15 = .ok (.iload_n 1, 1) := by decide +kernel
theorem dX9_price_16 : decode cX9_price 16 = .ok (.iconst 2, 1) := by decide +kernel
theorem dX9_price_17 : decode cX9_price 17 = .ok (.invokevirtual 199, 3) := by decide +kernel
theorem dX9_price_20 : decode cX9_price 20 = .ok (.aload_n 0, 1) := by decide +kernel
theorem dX9_price_21 : decode cX9_price 21 = .ok (.invokevirtual 163, 3) := by decide +kernel
theorem dX9_price_24 : decode cX9_price 24 = .ok (.invokestatic 107, 3) := by decide +kernel
theorem dX9_price_27 : decode cX9_price 27 = .ok (.ifCond .eq 12, 3) := by decide +kernel
theorem dX9_price_30 : decode cX9_price 30 = .ok (.iload_n 3, 1) := by decide +kernel
theorem dX9_price_31 : decode cX9_price 31 = .ok (.iconst 0, 1) := by decide +kernel
theorem dX9_price_32 : decode cX9_price 32 = .ok (.iconst 2, 1) := by decide +kernel
theorem dX9_price_33 : decode cX9_price 33 = .ok (.invokestatic 107, 3) := by decide +kernel
theorem dX9_price_36 : decode cX9_price 36 = .ok (.ifCond .ne 8, 3) := by decide +kernel
theorem dX9_price_39 : decode cX9_price 39 = .ok (.aload_n 0, 1) := by decide +kernel
theorem dX9_price_40 : decode cX9_price 40 = .ok (.invokevirtual 190, 3) := by decide +kernel
theorem dX9_price_43 : decode cX9_price 43 = .ok (.ireturn, 1) := by decide +kernel
theorem dX9_price_44 : decode cX9_price 44 = .ok (.iload_n 3, 1) := by decide +kernel
theorem dX9_price_45 : decode cX9_price 45 = .ok (.ifCond .ne 12, 3) := by decide +kernel
theorem dX9_price_48 : decode cX9_price 48 = .ok (.aload_n 0, 1) := by decide +kernel
theorem dX9_price_49 : decode cX9_price 49 = .ok (.iload_n 1, 1) := by decide +kernel
theorem dX9_price_50 : decode cX9_price 50 = .ok (.iload_n 2, 1) := by decide +kernel
theorem dX9_price_51 : decode cX9_price 51 = .ok (.invokevirtual 204, 3) := by decide +kernel
theorem dX9_price_54 : decode cX9_price 54 = .ok (.goto 23, 3) := by decide +kernel
theorem dX9_price_57 : decode cX9_price 57 = .ok (.iload_n 3, 1) := by decide +kernel
theorem dX9_price_58 : decode cX9_price 58 = .ok (.iconst 1, 1) := by decide +kernel
theorem dX9_price_59 : decode cX9_price 59 = .ok (.if_icmp .ne 12, 3) := by decide +kernel
theorem dX9_price_62 : decode cX9_price 62 = .ok (.aload_n 0, 1) := by decide +kernel
theorem dX9_price_63 : decode cX9_price 63 = .ok (.iload_n 1, 1) := by decide +kernel
theorem dX9_price_64 : decode cX9_price 64 = .ok (.iload_n 2, 1) := by decide +kernel
theorem dX9_price_65 : decode cX9_price 65 = .ok (.invokevirtual 210, 3) := by decide +kernel
theorem dX9_price_68 : decode cX9_price 68 = .ok (.goto 9, 3) := by decide +kernel
theorem dX9_price_71 : decode cX9_price 71 = .ok (.aload_n 0, 1) := by decide +kernel
theorem dX9_price_72 : decode cX9_price 72 = .ok (.iload_n 1, 1) := by decide +kernel
theorem dX9_price_73 : decode cX9_price 73 = .ok (.iload_n 2, 1) := by decide +kernel
theorem dX9_price_74 : decode cX9_price 74 = .ok (.invokevirtual 215, 3) := by decide +kernel
theorem dX9_price_77 : decode cX9_price 77 = .ok (.ireturn, 1) := by decide +kernel
theorem dX9_priceBy_0 : decode cX9_priceBy 0 = .ok (.bipush 36, 2) := by decide +kernel
theorem dX9_priceBy_2 : decode cX9_priceBy 2 = .ok (.iload_n 2, 1) := by decide +kernel
theorem dX9_priceBy_3 : decode cX9_priceBy 3 = .ok (.imul, 1) := by decide +kernel
theorem dX9_priceBy_4 : decode cX9_priceBy 4 = .ok (.aload_n 0, 1) := by decide +kernel
theorem dX9_priceBy_5 : decode cX9_priceBy 5 = .ok (.invokevirtual 163, 3) := by decide +kernel
theorem dX9_priceBy_8 : decode cX9_priceBy 8 = .ok (.iadd, 1) := by decide +kernel
theorem dX9_priceBy_9 : decode cX9_priceBy 9 = .ok (.istore 4, 2) := by decide +kernel
theorem dX9_priceBy_11 : decode cX9_priceBy 11 = .ok (.aload_n 0, 1) := by decide +kernel
theorem dX9_priceBy_12 : decode cX9_priceBy 12 = .ok (.getfield 91, 3) := by decide +kernel
theorem dX9_priceBy_15 : decode cX9_priceBy 15 = .ok (.iconst 2, 1) := by decide +kernel
theorem dX9_priceBy_16 : decode cX9_priceBy 16 = .ok (.iload 4, 2) := by decide +kernel
theorem dX9_priceBy_18 : decode cX9_priceBy 18 = .ok (.iadd, 1) := by decide +kernel
theorem dX9_priceBy_19 : decode cX9_priceBy 19 = .ok (.iaload, 1) := by decide +kernel
theorem dX9_priceBy_20 : decode cX9_priceBy 20 = .ok (.istore 5, 2) := by decide +kernel
theorem dX9_priceBy_22 : decode cX9_priceBy 22 = .ok (.aload_n 0, 1) := by decide +kernel
theorem dX9_priceBy_23 : decode cX9_priceBy 23 = .ok (.getfield 91, 3) := by decide +kernel
theorem dX9_priceBy_26 : decode cX9_priceBy 26 = .ok (.sipush 218, 3) := by decide +kernel
theorem dX9_priceBy_29 : decode cX9_priceBy 29 = .ok (.iload 4, 2) := by decide +kernel
theorem dX9_priceBy_31 : decode cX9_priceBy 31 = .ok (.iadd, 1) := by decide +kernel
theorem dX9_priceBy_32 : decode cX9_priceBy 32 = .ok (.iaload, 1) := by decide +kernel
theorem dX9_priceBy_33 : decode cX9_priceBy 33 = .ok (.istore 6, 2) := by decide +kernel
theorem dX9_priceBy_35 : decode cX9_priceBy 35 = .ok (.aload_n 0, 1) := by decide +kernel
theorem dX9_priceBy_36 : decode cX9_priceBy 36 = .ok (.getfield 91, 3) := by decide +kernel
theorem dX9_priceBy_39 : decode cX9_priceBy 39 = .ok (.iconst 2, 1) := by decide +kernel
theorem dX9_priceBy_40 : decode cX9_priceBy 40 = .ok (.iload 4, 2) := by decide +kernel
theorem dX9_priceBy_42 : decode cX9_priceBy 42 = .ok (.iadd, 1) := by decide +kernel
theorem dX9_priceBy_43 : decode cX9_priceBy 43 = .ok (.iload_n 3, 1) := by decide +kernel
theorem dX9_priceBy_44 : decode cX9_priceBy 44 = .ok (.iastore, 1) := by decide +kernel
theorem dX9_priceBy_45 : decode cX9_priceBy 45 = .ok (.aload_n 0, 1) := by decide +kernel
theorem dX9_priceBy_46 : decode cX9_priceBy 46 = .ok (.getfield 91, 3) := by decide +kernel
theorem dX9_priceBy_49 : decode cX9_priceBy 49 = .ok (.sipush 218, 3) := by decide +kernel
theorem dX9_priceBy_52 : decode cX9_priceBy 52 = .ok (.iload 4, 2) := by decide +kernel
theorem dX9_priceBy_54 : decode cX9_priceBy 54 = .ok (.iadd, 1) := by decide +kernel
theorem dX9_priceBy_55 : decode cX9_priceBy 55 = .ok (.iconst 2, 1) := by decide +kernel
theorem dX9_priceBy_56 : decode cX9_priceBy 56 = .ok (.iastore, 1) := by decide +kernel
theorem dX9_priceBy_57 : decode cX9_priceBy 57 = .ok (.aload_n 0, 1) := by decide +kernel
theorem dX9_priceBy_58 : decode cX9_priceBy 58 = .ok (.iload_n 1, 1) := by decide +kernel
theorem dX9_priceBy_59 : decode cX9_priceBy 59 = .ok (.aload_n 0, 1) := by decide +kernel
theorem dX9_priceBy_60 : decode cX9_priceBy 60 = .ok (.invokevirtual 163, 3) := by decide +kernel
theorem dX9_priceBy_63 : decode cX9_priceBy 63 = .ok (.invokevirtual 215, 3) := by decide +kernel
theorem dX9_priceBy_66 : decode cX9_priceBy 66 = .ok (.istore 7, 2) := by decide +kernel
theorem dX9_priceBy_68 : decode cX9_priceBy 68 = .ok (.aload_n 0, 1) := by decide +kernel
theorem dX9_priceBy_69 : decode cX9_priceBy 69 = .ok (.getfield 91, 3) := by decide +kernel
theorem dX9_priceBy_72 : decode cX9_priceBy 72 = .ok (.iconst 2, 1) := by decide +kernel
theorem dX9_priceBy_73 : decode cX9_priceBy 73 = .ok (.iload 4, 2) := by decide +kernel
theorem dX9_priceBy_75 : decode cX9_priceBy 75 = .ok (.iadd, 1) := by decide +kernel
theorem dX9_priceBy_76 : decode cX9_priceBy 76 = .ok (.iload 5, 2) := by decide +kernel
theorem dX9_priceBy_78 : decode cX9_priceBy 78 = .ok (.iastore, 1) := by decide +kernel
theorem dX9_priceBy_79 : decode cX9_priceBy 79 = .ok (.aload_n 0, 1) := by decide +kernel
theorem dX9_priceBy_80 : decode cX9_priceBy 80 = .ok (.getfield 91, 3) := by decide +kernel
theorem dX9_priceBy_83 : decode cX9_priceBy 83 = .ok (.sipush 218, 3) := by decide +kernel
theorem dX9_priceBy_86 : decode cX9_priceBy 86 = .ok (.iload 4, 2) := by decide +kernel
theorem dX9_priceBy_88 : decode cX9_priceBy 88 = .ok (.iadd, 1) := by decide +kernel
theorem dX9_priceBy_89 : decode cX9_priceBy 89 = .ok (.iload 6, 2) := by decide +kernel
theorem dX9_priceBy_91 : decode cX9_priceBy 91 = .ok (.iastore, 1) := by decide +kernel
theorem dX9_priceBy_92 : decode cX9_priceBy 92 = .ok (.iload 7, 2) := by decide +kernel
theorem dX9_priceBy_94 : decode cX9_priceBy 94 = .ok (.ireturn, 1) := by decide +kernel
theorem dX9_were_0 : decode cX9_were 0 = .ok (.aload_n 0, 1) := by decide +kernel
theorem dX9_were_1 : decode cX9_were 1 = .ok (.iconst 0, 1) := by decide +kernel
theorem dX9_were_2 : decode cX9_were 2 = .ok (.putfield 1, 3) := by decide +kernel
theorem dX9_were_5 : decode cX9_were 5 = .ok (.aload_n 0, 1) := by decide +kernel
theorem dX9_were_6 : decode cX9_were 6 = .ok (.iload_n 1, 1) := by decide +kernel
theorem dX9_were_7 : decode cX9_were 7 = .ok (.invokevirtual 196, 3) := by decide +kernel
theorem dX9_were_10 : decode cX9_were 10 = .ok (.ifCond .eq 32, 3) := by decide +kernel
theorem dX9_were_13 : decode cX9_were 13 = .ok (.aload_n 0, 1) := by decide +kernel
theorem dX9_were_14 : decode cX9_were 14 = .ok (.iload_n 2, 1) := by decide +kernel
theorem dX9_were_15 : decode cX9_were 15 = .ok (.invokevirtual 169, 3) := by decide +kernel
theorem dX9_were_18 : decode cX9_were 18 = .ok (.ifCond .eq 24, 3) := by decide +kernel
theorem dX9_were_21 : decode cX9_were 21 = .ok (.iload_n 3, 1) := by decide +kernel
theorem dX9_were_22 : decode cX9_were 22 = .ok (.iconst 1, 1) := by decide +kernel
theorem dX9_were_23 : decode cX9_were 23 = .ok (.sipush 999, 3) := by decide +kernel
theorem dX9_were_26 : decode cX9_were 26 = .ok (.invokestatic 107, 3) := by decide +kernel
theorem dX9_were_29 : decode cX9_were 29 = .ok (.ifCond .eq 13, 3) := by decide +kernel
theorem dX9_were_32 : decode cX9_were 32 = .ok (.aload_n 0, 1) := by decide +kernel
theorem dX9_were_33 : decode cX9_were 33 = .ok (.iload_n 1, 1) := by decide +kernel
theorem dX9_were_34 : decode cX9_were 34 = .ok (.iload_n 2, 1) := by decide +kernel
theorem dX9_were_35 : decode cX9_were 35 = .ok (.iload_n 3, 1) := by decide +kernel
theorem dX9_were_36 : decode cX9_were 36 = .ok (.invokevirtual 218, 3) := by decide +kernel
theorem dX9_were_39 : decode cX9_were 39 = .ok (.goto 4, 3) := by decide +kernel
theorem dX9_were_42 : decode cX9_were 42 = .ok (.iconst (-1), 1) := by decide +kernel
theorem dX9_were_43 : decode cX9_were 43 = .ok (.ireturn, 1) := by decide +kernel
theorem dX9_rises_0 : decode cX9_rises 0 = .ok (.aload_n 0, 1) := by decide +kernel
theorem dX9_rises_1 : decode cX9_rises 1 = .ok (.iconst 0, 1) := by decide +kernel
theorem dX9_rises_2 : decode cX9_rises 2 = .ok (.putfield 1, 3) := by decide +kernel
theorem dX9_rises_5 : decode cX9_rises 5 = .ok (.aload_n 0, 1) := by decide +kernel
theorem dX9_rises_6 : decode cX9_rises 6 = .ok (.iload_n 1, 1) := by decide +kernel
theorem dX9_rises_7 : decode cX9_rises 7 = .ok (.invokevirtual 196, 3) := by decide +kernel
theorem dX9_rises_10 : decode cX9_rises 10 = .ok (.ifCond .eq 11, 3) := by decide +kernel
theorem dX9_rises_13 : decode cX9_rises 13 = .ok (.aload_n 0, 1) := by decide +kernel
theorem dX9_rises_14 : decode cX9_rises 14 = .ok (.iload_n 2, 1) := by decide +kernel
theorem dX9_rises_15 : decode cX9_rises 15 = .ok (.invokevirtual 169, 3) := by decide +kernel
theorem dX9_rises_18 : decode cX9_rises 18 = .ok (.ifCond .ne 5, 3) := by decide +kernel
theorem dX9_rises_21 : decode cX9_rises 21 = .ok (.iconst (-1), 1) := by decide +kernel
theorem dX9_rises_22 : decode cX9_rises 22 = .ok (.ireturn, 1) := by decide +kernel
theorem dX9_rises_23 : decode cX9_rises 23 = .ok (.iconst 1, 1) := by decide +kernel
theorem dX9_rises_24 : decode cX9_rises 24 = .ok (.istore_n 3, 1) := by decide +kernel
theorem dX9_rises_25 : decode cX9_rises 25 = .ok (.iload_n 3, 1) := by decide +kernel
theorem dX9_rises_26 : decode cX9_rises 26 = .ok (.sipush 999, 3) := by decide +kernel
theorem dX9_rises_29 : decode cX9_rises 29 = .ok (.if_icmp .gt 27, 3) := by decide +kernel
theorem dX9_rises_32 : decode cX9_rises 32 = .ok (.aload_n 0, 1) := by decide +kernel
theorem dX9_rises_33 : decode cX9_rises 33 = .ok (.iload_n 1, 1) := by decide +kernel
theorem dX9_rises_34 : decode cX9_rises 34 = .ok (.iload_n 2, 1) := by decide +kernel
theorem dX9_rises_35 : decode cX9_rises 35 = .ok (.iload_n 3, 1) := by decide +kernel
theorem dX9_rises_36 : decode cX9_rises 36 = .ok (.invokevirtual 218, 3) := by decide +kernel
theorem dX9_rises_39 : decode cX9_rises 39 = .ok (.aload_n 0, 1) := by decide +kernel
theorem dX9_rises_40 : decode cX9_rises 40 = .ok (.iload_n 1, 1) := by decide +kernel
theorem dX9_rises_41 : decode cX9_rises 41 = .ok (.iconst 0, 1) := by decide +kernel
theorem dX9_rises_42 : decode cX9_rises 42 = .ok (.invokevirtual 199, 3) := by decide +kernel
theorem dX9_rises_45 : decode cX9_rises 45 = .ok (.if_icmp .le 5, 3) := by decide +kernel
theorem dX9_rises_48 : decode cX9_rises 48 = .ok (.iload_n 3, 1) := by decide +kernel
theorem dX9_rises_49 : decode cX9_rises 49 = .ok (.ireturn, 1) := by decide +kernel
theorem dX9_rises_50 : decode cX9_rises 50 = .ok (.iinc 3 1, 3) := by decide +kernel
theorem dX9_rises_53 : decode cX9_rises 53 = .ok (.goto (-28), 3) := by decide +kernel
theorem dX9_rises_56 : decode cX9_rises 56 = .ok (.bipush (-2), 2) := by decide +kernel
theorem dX9_rises_58 : decode cX9_rises 58 = .ok (.ireturn, 1) := by decide +kernel
