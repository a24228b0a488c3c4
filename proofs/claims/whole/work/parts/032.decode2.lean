theorem dX7_readValues_0 : decode cX7_readValues 0 = .ok (.iconst 0, 1) := by decide +kernel
theorem dX7_readValues_1 : decode cX7_readValues 1 = .ok (.istore_n 2, 1) := by decide +kernel
theorem dX7_readValues_2 : decode cX7_readValues 2 = .ok (.iload_n 2, 1) := by decide +kernel
theorem dX7_readValues_3 : decode cX7_readValues 3 = .ok (.bipush 36, 2) := by decide +kernel
theorem dX7_readValues_5 : decode cX7_readValues 5 = .ok (.if_icmp .gt 62, 3) := by decide +kernel
theorem dX7_readValues_8 : decode cX7_readValues 8 = .ok (.iload_n 2, 1) := by decide +kernel
theorem dX7_readValues_9 : decode cX7_readValues 9 = .ok (.ifCond .eq 14, 3) := by decide +kernel
theorem dX7_readValues_12 : decode cX7_readValues 12 = .ok (.aload_n 0, 1) := by decide +kernel
theorem dX7_readValues_13 : decode cX7_readValues 13 = .ok (.getfield 12, 3) := by decide +kernel
theorem dX7_readValues_16 : decode cX7_readValues 16 = .ok (.getfield 42, 3) := by decide +kernel
theorem dX7_readValues_19 : decode cX7_readValues 19 = .ok (.iconst 2, 1) := by decide +kernel
theorem dX7_readValues_20 : decode cX7_readValues 20 = .ok (.if_icmp .ne 47, 3) := by decide +kernel
theorem dX7_readValues_23 : decode cX7_readValues 23 = .ok (.aload_n 0, 1) := by decide +kernel
theorem dX7_readValues_24 : decode cX7_readValues 24 = .ok (.iconst 1, 1) := by decide +kernel
theorem dX7_readValues_25 : decode cX7_readValues 25 = .ok (.iload_n 2, 1) := by decide +kernel
theorem dX7_readValues_26 : decode cX7_readValues 26 = .ok (.aload_n 0, 1) := by decide +kernel
theorem dX7_readValues_27 : decode cX7_readValues 27 = .ok (.getfield 21, 3) := by decide +kernel
theorem dX7_readValues_30 : decode cX7_readValues 30 = .ok (.getfield 80, 3) := by decide +kernel
theorem dX7_readValues_33 : decode cX7_readValues 33 = .ok (.if_icmp .gt 9, 3) := by decide +kernel
theorem dX7_readValues_36 : decode cX7_readValues 36 = .ok (.sipush 999, 3) := by decide +kernel
theorem dX7_readValues_39 : decode cX7_readValues 39 = .ok (.goto 4, 3) := by decide +kernel
theorem dX7_readValues_42 : decode cX7_readValues 42 = .ok (.iconst 0, 1) := by decide +kernel
theorem dX7_readValues_43 : decode cX7_readValues 43 = .ok (.invokevirtual 73, 3) := by decide +kernel
theorem dX7_readValues_46 : decode cX7_readValues 46 = .ok (.ifCond .ne 5, 3) := by decide +kernel
theorem dX7_readValues_49 : decode cX7_readValues 49 = .ok (.iconst 0, 1) := by decide +kernel
theorem dX7_readValues_50 : decode cX7_readValues 50 = .ok (.ireturn, 1) := by decide +kernel
theorem dX7_readValues_51 : decode cX7_readValues 51 = .ok (.aload_n 1, 1) := by decide +kernel
theorem dX7_readValues_52 : decode cX7_readValues 52 = .ok (.iload_n 2, 1) := by decide +kernel
theorem dX7_readValues_53 : decode cX7_readValues 53 = .ok (.aload_n 0, 1) := by decide +kernel
theorem dX7_readValues_54 : decode cX7_readValues 54 = .ok (.getfield 77, 3) := by decide +kernel
theorem dX7_readValues_57 : decode cX7_readValues 57 = .ok (.iconst 2, 1) := by decide +kernel
theorem dX7_readValues_58 : decode cX7_readValues 58 = .ok (.invokevirtual 114, 3) := by decide +kernel
theorem dX7_readValues_61 : decode cX7_readValues 61 = .ok (.iinc 2 1, 3) := by decide +kernel
theorem dX7_readValues_64 : decode cX7_readValues 64 = .ok (.goto (-62), 3) := by decide +kernel
theorem dX7_readValues_67 : decode cX7_readValues 67 = .ok (.iconst 1, 1) := by decide +kernel
theorem dX7_readValues_68 : decode cX7_readValues 68 = .ok (.ireturn, 1) := by decide +kernel
theorem dX7_readContract_0 : decode cX7_readContract 0 = .ok (.aload_n 0, 1) := by decide +kernel
theorem dX7_readContract_1 : decode cX7_readContract 1 = .ok (.getfield 21, 3) := by decide +kernel
theorem dX7_readContract_4 : decode cX7_readContract 4 = .ok (.invokevirtual 120, 3) := by decide +kernel
theorem dX7_readContract_7 : decode cX7_readContract 7 = .ok (.astore_n 1, 1) := by decide +kernel
theorem dX7_readContract_8 : decode cX7_readContract 8 = .ok (.aload_n 1, 1) := by decide +kernel
theorem dX7_readContract_9 : decode cX7_readContract 9 = .ok (.ifnonnull 9, 3) := by decide +kernel
theorem dX7_readContract_12 : decode cX7_readContract 12 = .ok (.aload_n 0, 1) := by decide +kernel
theorem dX7_readContract_13 : decode cX7_readContract 13 = .ok (.iconst 4, 1) := by decide +kernel
theorem dX7_readContract_14 : decode cX7_readContract 14 = .ok (.invokevirtual 85, 3) := by decide +kernel
theorem dX7_readContract_17 : decode cX7_readContract 17 = .ok (.ireturn, 1) := by decide +kernel
theorem dX7_readContract_18 : decode cX7_readContract 18 = .ok (.aload_n 0, 1) := by decide +kernel
theorem dX7_readContract_19 : decode cX7_readContract 19 = .ok (.getfield 12, 3) := by decide +kernel
theorem dX7_readContract_22 : decode cX7_readContract 22 = .ok (.invokevirtual 96, 3) := by decide +kernel
theorem dX7_readContract_25 : decode cX7_readContract 25 = .ok (.aload_n 0, 1) := by decide +kernel
theorem dX7_readContract_26 : decode cX7_readContract 26 = .ok (.iconst 1, 1) := by decide +kernel
theorem dX7_readContract_27 : decode cX7_readContract 27 = .ok (.sipush 9999, 3) := by decide +kernel
theorem dX7_readContract_30 : decode cX7_readContract 30 = .ok (.invokevirtual 73, 3) := by decide +kernel
theorem dX7_readContract_33 : decode cX7_readContract 33 = .ok (.ifCond .ne 5, 3) := by decide +kernel
theorem dX7_readContract_36 : decode cX7_readContract 36 = .ok (.iconst 0, 1) := by decide +kernel
theorem dX7_readContract_37 : decode cX7_readContract 37 = .ok (.ireturn, 1) := by decide +kernel
theorem dX7_readContract_38 : decode cX7_readContract 38 = .ok (.aload_n 1, 1) := by decide +kernel
theorem dX7_readContract_39 : decode cX7_readContract 39 = .ok (.aload_n 0, 1) := by decide +kernel
theorem dX7_readContract_40 : decode cX7_readContract 40 = .ok (.getfield 77, 3) := by decide +kernel
theorem dX7_readContract_43 : decode cX7_readContract 43 = .ok (.putfield 124, 3) := by decide +kernel
theorem dX7_readContract_46 : decode cX7_readContract 46 = .ok (.aload_n 0, 1) := by decide +kernel
theorem dX7_readContract_47 : decode cX7_readContract 47 = .ok (.bipush 61, 2) := by decide +kernel
theorem dX7_readContract_49 : decode cX7_readContract 49 = .ok (.invokevirtual 61, 3) := by decide +kernel
theorem dX7_readContract_52 : decode cX7_readContract 52 = .ok (.ifCond .eq 14, 3) := by decide +kernel
theorem dX7_readContract_55 : decode cX7_readContract 55 = .ok (.aload_n 0, 1) := by decide +kernel
theorem dX7_readContract_56 : decode cX7_readContract 56 = .ok (.iconst 0, 1) := by decide +kernel
theorem dX7_readContract_57 : decode cX7_readContract 57 = .ok (.sipush 1000, 3) := by decide +kernel
theorem dX7_readContract_60 : decode cX7_readContract 60 = .ok (.invokevirtual 73, 3) := by decide +kernel
theorem dX7_readContract_63 : decode cX7_readContract 63 = .ok (.ifCond .ne 5, 3) := by decide +kernel
theorem dX7_readContract_66 : decode cX7_readContract 66 = .ok (.iconst 0, 1) := by decide +kernel
theorem dX7_readContract_67 : decode cX7_readContract 67 = .ok (.ireturn, 1) := by decide +kernel
theorem dX7_readContract_68 : decode cX7_readContract 68 = .ok (.aload_n 1, 1) := by decide +kernel
theorem dX7_readContract_69 : decode cX7_readContract 69 = .ok (.aload_n 0, 1) := by decide +kernel
theorem dX7_readContract_70 : decode cX7_readContract 70 = .ok (.getfield 77, 3) := by decide +kernel
theorem dX7_readContract_73 : decode cX7_readContract 73 = .ok (.putfield 129, 3) := by decide +kernel
theorem dX7_readContract_76 : decode cX7_readContract 76 = .ok (.aload_n 0, 1) := by decide +kernel
theorem dX7_readContract_77 : decode cX7_readContract 77 = .ok (.aload_n 1, 1) := by decide +kernel
theorem dX7_readContract_78 : decode cX7_readContract 78 = .ok (.invokevirtual 132, 3) := by decide +kernel
theorem dX7_readContract_81 : decode cX7_readContract 81 = .ok (.ifCond .eq 23, 3) := by decide +kernel
theorem dX7_readContract_84 : decode cX7_readContract 84 = .ok (.aload_n 0, 1) := by decide +kernel
theorem dX7_readContract_85 : decode cX7_readContract 85 = .ok (.aload_n 1, 1) := by decide +kernel
theorem dX7_readContract_86 : decode cX7_readContract 86 = .ok (.invokevirtual 136, 3) := by decide +kernel
theorem dX7_readContract_89 : decode cX7_readContract 89 = .ok (.ifCond .eq 15, 3) := by decide +kernel
theorem dX7_readContract_92 : decode cX7_readContract 92 = .ok (.aload_n 0, 1) := by decide +kernel
theorem dX7_readContract_93 : decode cX7_readContract 93 = .ok (.aload_n 1, 1) := by decide +kernel
theorem dX7_readContract_94 : decode cX7_readContract 94 = .ok (.invokevirtual 139, 3) := by decide +kernel
theorem dX7_readContract_97 : decode cX7_readContract 97 = .ok (.ifCond .eq 7, 3) := by decide +kernel
theorem dX7_readContract_100 : decode cX7_readContract 100 = .ok (.iconst 1, 1) := by decide +kernel
theorem dX7_readContract_101 : decode cX7_readContract 101 = .ok (.goto 4, 3) := by decide +kernel
theorem dX7_readContract_104 : decode cX7_readContract 104 = .ok (.iconst 0, 1) := by decide +kernel
theorem dX7_readContract_105 : decode cX7_readContract 105 = .ok (.ireturn, 1) := by decide +kernel
theorem dX7_readTerms_0 : decode cX7_readTerms 0 = .ok (.iconst 0, 1) := by decide +kernel
theorem dX7_readTerms_1 : decode cX7_readTerms 1 = .ok (.istore_n 2, 1) := by decide +kernel
theorem dX7_readTerms_2 : decode cX7_readTerms 2 = .ok (.iload_n 2, 1) := by decide +kernel
theorem dX7_readTerms_3 : decode cX7_readTerms 3 = .ok (.bipush 6, 2) := by decide +kernel
theorem dX7_readTerms_5 : decode cX7_readTerms 5 = .ok (.if_icmp .gt 101, 3) := by decide +kernel
theorem dX7_readTerms_8 : decode cX7_readTerms 8 = .ok (.aload_n 0, 1) := by decide +kernel
theorem dX7_readTerms_9 : decode cX7_readTerms 9 = .ok (.getfield 12, 3) := by decide +kernel
theorem dX7_readTerms_12 : decode cX7_readTerms 12 = .ok (.bipush 43, 2) := by decide +kernel
theorem dX7_readTerms_14 : decode cX7_readTerms 14 = .ok (.invokevirtual 142, 3) := by decide +kernel
theorem dX7_readTerms_17 : decode cX7_readTerms 17 = .ok (.ifCond .eq 89, 3) := by decide +kernel
theorem dX7_readTerms_20 : decode cX7_readTerms 20 = .ok (.aload_n 0, 1) := by decide +kernel
theorem dX7_readTerms_21 : decode cX7_readTerms 21 = .ok (.getfield 12, 3) := by decide +kernel
theorem dX7_readTerms_24 : decode cX7_readTerms 24 = .ok (.invokevirtual 96, 3) := by decide +kernel
theorem dX7_readTerms_27 : decode cX7_readTerms 27 = .ok (.aload_n 0, 1) := by decide +kernel
theorem dX7_readTerms_28 : decode cX7_readTerms 28 = .ok (.iconst 0, 1) := by decide +kernel
theorem dX7_readTerms_29 : decode cX7_readTerms 29 = .ok (.sipush 1000, 3) := by decide +kernel
theorem dX7_readTerms_32 : decode cX7_readTerms 32 = .ok (.invokevirtual 73, 3) := by decide +kernel
theorem dX7_readTerms_35 : decode cX7_readTerms 35 = .ok (.ifCond .ne 5, 3) := by decide +kernel
theorem dX7_readTerms_38 : decode cX7_readTerms 38 = .ok (.iconst 0, 1) := by decide +kernel
theorem dX7_readTerms_39 : decode cX7_readTerms 39 = .ok (.ireturn, 1) := by decide +kernel
theorem dX7_readTerms_40 : decode cX7_readTerms 40 = .ok (.aload_n 0, 1) := by decide +kernel
theorem dX7_readTerms_41 : decode cX7_readTerms 41 = .ok (.invokevirtual 99, 3) := by decide +kernel
theorem dX7_readTerms_44 : decode cX7_readTerms 44 = .ok (.ifCond .ne 9, 3) := by decide +kernel
theorem dX7_readTerms_47 : decode cX7_readTerms 47 = .ok (.aload_n 0, 1) := by decide +kernel
theorem dX7_readTerms_48 : decode cX7_readTerms 48 = .ok (.iconst 1, 1) := by decide +kernel
theorem dX7_readTerms_49 : decode cX7_readTerms 49 = .ok (.invokevirtual 85, 3) := by decide +kernel
theorem dX7_readTerms_52 : decode cX7_readTerms 52 = .ok (.ireturn, 1) := by decide +kernel
theorem dX7_readTerms_53 : decode cX7_readTerms 53 = .ok (.aload_n 0, 1) := by decide +kernel
theorem dX7_readTerms_54 : decode cX7_readTerms 54 = .ok (.aload_n 0, 1) := by decide +kernel
theorem dX7_readTerms_55 : decode cX7_readTerms 55 = .ok (.getfield 21, 3) := by decide +kernel
theorem dX7_readTerms_58 : decode cX7_readTerms 58 = .ok (.getfield 89, 3) := by decide +kernel
theorem dX7_readTerms_61 : decode cX7_readTerms 61 = .ok (.invokevirtual 102, 3) := by decide +kernel
theorem dX7_readTerms_64 : decode cX7_readTerms 64 = .ok (.istore_n 3, 1) := by decide +kernel
theorem dX7_readTerms_65 : decode cX7_readTerms 65 = .ok (.iload_n 3, 1) := by decide +kernel
theorem dX7_readTerms_66 : decode cX7_readTerms 66 = .ok (.iconst (-1), 1) := by decide +kernel
theorem dX7_readTerms_67 : decode cX7_readTerms 67 = .ok (.if_icmp .eq 11, 3) := by decide +kernel
theorem dX7_readTerms_70 : decode cX7_readTerms 70 = .ok (.aload_n 1, 1) := by decide +kernel
theorem dX7_readTerms_71 : decode cX7_readTerms 71 = .ok (.iload_n 3, 1) := by decide +kernel
theorem dX7_readTerms_72 : decode cX7_readTerms 72 = .ok (.invokevirtual 145, 3) := by decide +kernel
theorem dX7_readTerms_75 : decode cX7_readTerms 75 = .ok (.ifCond .eq 9, 3) := by decide +kernel
theorem dX7_readTerms_78 : decode cX7_readTerms 78 = .ok (.aload_n 0, 1) := by decide +kernel
theorem dX7_readTerms_79 : decode cX7_readTerms 79 = .ok (.iconst 3, 1) := by decide +kernel
theorem dX7_readTerms_80 : decode cX7_readTerms 80 = .ok (.invokevirtual 85, 3) := by decide +kernel
theorem dX7_readTerms_83 : decode cX7_readTerms 83 = .ok (.ireturn, 1) := by decide +kernel
theorem dX7_readTerms_84 : decode cX7_readTerms 84 = .ok (.aload_n 1, 1) := by decide +kernel
theorem dX7_readTerms_85 : decode cX7_readTerms 85 = .ok (.aload_n 0, 1) := by decide +kernel
theorem dX7_readTerms_86 : decode cX7_readTerms 86 = .ok (.getfield 77, 3) := by decide +kernel
theorem dX7_readTerms_89 : decode cX7_readTerms 89 = .ok (.iload_n 3, 1) := by decide +kernel
theorem dX7_readTerms_90 : decode cX7_readTerms 90 = .ok (.invokevirtual 148, 3) := by decide +kernel
theorem dX7_readTerms_93 : decode cX7_readTerms 93 = .ok (.aload_n 0, 1) := by decide +kernel
theorem dX7_readTerms_94 : decode cX7_readTerms 94 = .ok (.getfield 12, 3) := by decide +kernel
theorem dX7_readTerms_97 : decode cX7_readTerms 97 = .ok (.invokevirtual 96, 3) := by decide +kernel
theorem dX7_readTerms_100 : decode cX7_readTerms 100 = .ok (.iinc 2 1, 3) := by decide +kernel
theorem dX7_readTerms_103 : decode cX7_readTerms 103 = .ok (.goto (-101), 3) := by decide +kernel
theorem dX7_readTerms_106 : decode cX7_readTerms 106 = .ok (.iconst 1, 1) := by decide +kernel
theorem dX7_readTerms_107 : decode cX7_readTerms 107 = .ok (.ireturn, 1) := by decide +kernel
theorem dX7_readBase_0 : decode cX7_readBase 0 = .ok (.aload_n 0, 1) := by decide +kernel
theorem dX7_readBase_1 : decode cX7_readBase 1 = .ok (.getfield 12, 3) := by decide +kernel
theorem dX7_readBase_4 : decode cX7_readBase 4 = .ok (.ldc 152, 2) := by decide +kernel
theorem dX7_readBase_6 : decode cX7_readBase 6 = .ok (.invokevirtual 51, 3) := by decide +kernel
theorem dX7_readBase_9 : decode cX7_readBase 9 = .ok (.ifCond .ne 9, 3) := by decide +kernel
theorem dX7_readBase_12 : decode cX7_readBase 12 = .ok (.aload_n 0, 1) := by decide +kernel
theorem dX7_readBase_13 : decode cX7_readBase 13 = .ok (.iconst 1, 1) := by decide +kernel
theorem dX7_readBase_14 : decode cX7_readBase 14 = .ok (.invokevirtual 85, 3) := by decide +kernel
theorem dX7_readBase_17 : decode cX7_readBase 17 = .ok (.ireturn, 1) := by decide +kernel
theorem dX7_readBase_18 : decode cX7_readBase 18 = .ok (.aload_n 1, 1) := by decide +kernel
theorem dX7_readBase_19 : decode cX7_readBase 19 = .ok (.invokevirtual 154, 3) := by decide +kernel
theorem dX7_readBase_22 : decode cX7_readBase 22 = .ok (.sipush 1000, 3) := by decide +kernel
theorem dX7_readBase_25 : decode cX7_readBase 25 = .ok (.if_icmp .eq 9, 3) := by decide +kernel
theorem dX7_readBase_28 : decode cX7_readBase 28 = .ok (.aload_n 0, 1) := by decide +kernel
theorem dX7_readBase_29 : decode cX7_readBase 29 = .ok (.iconst 5, 1) := by decide +kernel
theorem dX7_readBase_30 : decode cX7_readBase 30 = .ok (.invokevirtual 85, 3) := by decide +kernel
theorem dX7_readBase_33 : decode cX7_readBase 33 = .ok (.ireturn, 1) := by decide +kernel
theorem dX7_readBase_34 : decode cX7_readBase 34 = .ok (.aload_n 0, 1) := by decide +kernel
theorem dX7_readBase_35 : decode cX7_readBase 35 = .ok (.getfield 12, 3) := by decide +kernel
theorem dX7_readBase_38 : decode cX7_readBase 38 = .ok (.invokevirtual 96, 3) := by decide +kernel
theorem dX7_readBase_41 : decode cX7_readBase 41 = .ok (.aload_n 0, 1) := by decide +kernel
theorem dX7_readBase_42 : decode cX7_readBase 42 = .ok (.iconst 0, 1) := by decide +kernel
theorem dX7_readBase_43 : decode cX7_readBase 43 = .ok (.aload_n 0, 1) := by decide +kernel
theorem dX7_readBase_44 : decode cX7_readBase 44 = .ok (.getfield 21, 3) := by decide +kernel
theorem dX7_readBase_47 : decode cX7_readBase 47 = .ok (.getfield 80, 3) := by decide +kernel
theorem dX7_readBase_50 : decode cX7_readBase 50 = .ok (.invokevirtual 158, 3) := by decide +kernel
theorem dX7_readBase_53 : decode cX7_readBase 53 = .ok (.ifCond .ne 5, 3) := by decide +kernel
theorem dX7_readBase_56 : decode cX7_readBase 56 = .ok (.iconst 0, 1) := by decide +kernel
theorem dX7_readBase_57 : decode cX7_readBase 57 = .ok (.ireturn, 1) := by decide +kernel
theorem dX7_readBase_58 : decode cX7_readBase 58 = .ok (.aload_n 1, 1) := by decide +kernel
theorem dX7_readBase_59 : decode cX7_readBase 59 = .ok (.aload_n 0, 1) := by decide +kernel
theorem dX7_readBase_60 : decode cX7_readBase 60 = .ok (.getfield 12, 3) := by decide +kernel
theorem dX7_readBase_63 : decode cX7_readBase 63 = .ok (.getfield 161, 3) := by decide +kernel
theorem dX7_readBase_66 : decode cX7_readBase 66 = .ok (.putfield 162, 3) := by decide +kernel
theorem dX7_readBase_69 : decode cX7_readBase 69 = .ok (.iconst 0, 1) := by decide +kernel
theorem dX7_readBase_70 : decode cX7_readBase 70 = .ok (.istore_n 2, 1) := by decide +kernel
theorem dX7_readBase_71 : decode cX7_readBase 71 = .ok (.iload_n 2, 1) := by decide +kernel
theorem dX7_readBase_72 : decode cX7_readBase 72 = .ok (.aload_n 1, 1) := by decide +kernel
theorem dX7_readBase_73 : decode cX7_readBase 73 = .ok (.getfield 164, 3) := by decide +kernel
theorem dX7_readBase_76 : decode cX7_readBase 76 = .ok (.if_icmp .ge 50, 3) := by decide +kernel
theorem dX7_readBase_79 : decode cX7_readBase 79 = .ok (.iload_n 2, 1) := by decide +kernel
theorem dX7_readBase_80 : decode cX7_readBase 80 = .ok (.bipush 6, 2) := by decide +kernel
theorem dX7_readBase_82 : decode cX7_readBase 82 = .ok (.if_icmp .ge 44, 3) := by decide +kernel
theorem dX7_readBase_85 : decode cX7_readBase 85 = .ok (.aload_n 0, 1) := by decide +kernel
theorem dX7_readBase_86 : decode cX7_readBase 86 = .ok (.getfield 21, 3) := by decide +kernel
theorem dX7_readBase_89 : decode cX7_readBase 89 = .ok (.aload_n 1, 1) := by decide +kernel
theorem dX7_readBase_90 : decode cX7_readBase 90 = .ok (.getfield 167, 3) := by decide +kernel
theorem dX7_readBase_93 : decode cX7_readBase 93 = .ok (.iload_n 2, 1) := by decide +kernel
theorem dX7_readBase_94 : decode cX7_readBase 94 = .ok (.iaload, 1) := by decide +kernel
theorem dX7_readBase_95 : decode cX7_readBase 95 = .ok (.invokevirtual 170, 3) := by decide +kernel
theorem dX7_readBase_98 : decode cX7_readBase 98 = .ok (.astore_n 3, 1) := by decide +kernel
theorem dX7_readBase_99 : decode cX7_readBase 99 = .ok (.aload_n 3, 1) := by decide +kernel
theorem dX7_readBase_100 : decode cX7_readBase 100 = .ok (.ifnull 20, 3) := by decide +kernel
theorem dX7_readBase_103 : decode cX7_readBase 103 = .ok (.aload_n 3, 1) := by decide +kernel
theorem dX7_readBase_104 : decode cX7_readBase 104 = .ok (.aload_n 1, 1) := by decide +kernel
theorem dX7_readBase_105 : decode cX7_readBase 105 = .ok (.getfield 162, 3) := by decide +kernel
theorem dX7_readBase_108 : decode cX7_readBase 108 = .ok (.invokevirtual 174, 3) := by decide +kernel
theorem dX7_readBase_111 : decode cX7_readBase 111 = .ok (.ifCond .ne 9, 3) := by decide +kernel
theorem dX7_readBase_114 : decode cX7_readBase 114 = .ok (.aload_n 0, 1) := by decide +kernel
theorem dX7_readBase_115 : decode cX7_readBase 115 = .ok (.iconst 5, 1) := by decide +kernel
theorem dX7_readBase_116 : decode cX7_readBase 116 = .ok (.invokevirtual 85, 3) := by decide +kernel
theorem dX7_readBase_119 : decode cX7_readBase 119 = .ok (.ireturn, 1) := by decide +kernel
theorem dX7_readBase_120 : decode cX7_readBase 120 = .ok (.iinc 2 1, 3) := by decide +kernel
theorem dX7_readBase_123 : decode cX7_readBase 123 = .ok (.goto (-52), 3) := by decide +kernel
theorem dX7_readBase_126 : decode cX7_readBase 126 = .ok (.aload_n 0, 1) := by decide +kernel
theorem dX7_readBase_127 : decode cX7_readBase 127 = .ok (.getfield 12, 3) := by decide +kernel
theorem dX7_readBase_130 : decode cX7_readBase 130 = .ok (.invokevirtual 96, 3) := by decide +kernel
theorem dX7_readBase_133 : decode cX7_readBase 133 = .ok (.iconst 1, 1) := by decide +kernel
theorem dX7_readBase_134 : decode cX7_readBase 134 = .ok (.ireturn, 1) := by decide +kernel
theorem dX7_readRule_0 : decode cX7_readRule 0 = .ok (.aload_n 1, 1) := by decide +kernel
theorem dX7_readRule_1 : decode cX7_readRule 1 = .ok (.aload_n 0, 1) := by decide +kernel
theorem dX7_readRule_2 : decode cX7_readRule 2 = .ok (.getfield 12, 3) := by decide +kernel
theorem dX7_readRule_5 : decode cX7_readRule 5 = .ok (.ldc 177, 2) := by decide +kernel
theorem dX7_readRule_7 : decode cX7_readRule 7 = .ok (.invokevirtual 51, 3) := by decide +kernel
theorem dX7_readRule_10 : decode cX7_readRule 10 = .ok (.putfield 179, 3) := by decide +kernel
theorem dX7_readRule_13 : decode cX7_readRule 13 = .ok (.aload_n 1, 1) := by decide +kernel
theorem dX7_readRule_14 : decode cX7_readRule 14 = .ok (.getfield 179, 3) := by decide +kernel
theorem dX7_readRule_17 : decode cX7_readRule 17 = .ok (.ifCond .ne 21, 3) := by decide +kernel
theorem dX7_readRule_20 : decode cX7_readRule 20 = .ok (.aload_n 0, 1) := by decide +kernel
theorem dX7_readRule_21 : decode cX7_readRule 21 = .ok (.getfield 12, 3) := by decide +kernel
theorem dX7_readRule_24 : decode cX7_readRule 24 = .ok (.ldc 182, 2) := by decide +kernel
theorem dX7_readRule_26 : decode cX7_readRule 26 = .ok (.invokevirtual 51, 3) := by decide +kernel
theorem dX7_readRule_29 : decode cX7_readRule 29 = .ok (.ifCond .ne 9, 3) := by decide +kernel
theorem dX7_readRule_32 : decode cX7_readRule 32 = .ok (.aload_n 0, 1) := by decide +kernel
theorem dX7_readRule_33 : decode cX7_readRule 33 = .ok (.iconst 1, 1) := by decide +kernel
theorem dX7_readRule_34 : decode cX7_readRule 34 = .ok (.invokevirtual 85, 3) := by decide +kernel
theorem dX7_readRule_37 : decode cX7_readRule 37 = .ok (.ireturn, 1) := by decide +kernel
theorem dX7_readRule_38 : decode cX7_readRule 38 = .ok (.aload_n 0, 1) := by decide +kernel
theorem dX7_readRule_39 : decode cX7_readRule 39 = .ok (.getfield 12, 3) := by decide +kernel
theorem dX7_readRule_42 : decode cX7_readRule 42 = .ok (.invokevirtual 96, 3) := by decide +kernel
theorem dX7_readRule_45 : decode cX7_readRule 45 = .ok (.aload_n 0, 1) := by decide +kernel
theorem dX7_readRule_46 : decode cX7_readRule 46 = .ok (.iconst 0, 1) := by decide +kernel
theorem dX7_readRule_47 : decode cX7_readRule 47 = .ok (.sipush 999, 3) := by decide +kernel
theorem dX7_readRule_50 : decode cX7_readRule 50 = .ok (.invokevirtual 73, 3) := by decide +kernel
theorem dX7_readRule_53 : decode cX7_readRule 53 = .ok (.ifCond .ne 5, 3) := by decide +kernel
theorem dX7_readRule_56 : decode cX7_readRule 56 = .ok (.iconst 0, 1) := by decide +kernel
theorem dX7_readRule_57 : decode cX7_readRule 57 = .ok (.ireturn, 1) := by decide +kernel
theorem dX7_readRule_58 : decode cX7_readRule 58 = .ok (.aload_n 1, 1) := by decide +kernel
theorem dX7_readRule_59 : decode cX7_readRule 59 = .ok (.aload_n 0, 1) := by decide +kernel
theorem dX7_readRule_60 : decode cX7_readRule 60 = .ok (.getfield 77, 3) := by decide +kernel
theorem dX7_readRule_63 : decode cX7_readRule 63 = .ok (.putfield 184, 3) := by decide +kernel
theorem dX7_readRule_66 : decode cX7_readRule 66 = .ok (.aload_n 0, 1) := by decide +kernel
theorem dX7_readRule_67 : decode cX7_readRule 67 = .ok (.ldc 187, 2) := by decide +kernel
theorem dX7_readRule_69 : decode cX7_readRule 69 = .ok (.invokevirtual 70, 3) := by decide +kernel
theorem dX7_readRule_72 : decode cX7_readRule 72 = .ok (.ifCond .eq 13, 3) := by decide +kernel
theorem dX7_readRule_75 : decode cX7_readRule 75 = .ok (.aload_n 0, 1) := by decide +kernel
theorem dX7_readRule_76 : decode cX7_readRule 76 = .ok (.iconst 0, 1) := by decide +kernel
theorem dX7_readRule_77 : decode cX7_readRule 77 = .ok (.bipush 100, 2) := by decide +kernel
theorem dX7_readRule_79 : decode cX7_readRule 79 = .ok (.invokevirtual 73, 3) := by decide +kernel
theorem dX7_readRule_82 : decode cX7_readRule 82 = .ok (.ifCond .ne 5, 3) := by decide +kernel
theorem dX7_readRule_85 : decode cX7_readRule 85 = .ok (.iconst 0, 1) := by decide +kernel
theorem dX7_readRule_86 : decode cX7_readRule 86 = .ok (.ireturn, 1) := by decide +kernel
theorem dX7_readRule_87 : decode cX7_readRule 87 = .ok (.aload_n 1, 1) := by decide +kernel
theorem dX7_readRule_88 : decode cX7_readRule 88 = .ok (.aload_n 0, 1) := by decide +kernel
theorem dX7_readRule_89 : decode cX7_readRule 89 = .ok (.getfield 77, 3) := by decide +kernel
theorem dX7_readRule_92 : decode cX7_readRule 92 = .ok (.putfield 189, 3) := by decide +kernel
theorem dX7_readRule_95 : decode cX7_readRule 95 = .ok (.iconst 1, 1) := by decide +kernel
theorem dX7_readRule_96 : decode cX7_readRule 96 = .ok (.ireturn, 1) := by decide +kernel
theorem dX7_readSign_0 : decode cX7_readSign 0 = .ok (.aload_n 0, 1) := by decide +kernel
theorem dX7_readSign_1 : decode cX7_readSign 1 = .ok (.getfield 12, 3) := by decide +kernel
theorem dX7_readSign_4 : decode cX7_readSign 4 = .ok (.iload_n 1, 1) := by decide +kernel
theorem dX7_readSign_5 : decode cX7_readSign 5 = .ok (.invokevirtual 142, 3) := by decide +kernel
theorem dX7_readSign_8 : decode cX7_readSign 8 = .ok (.ifCond .ne 9, 3) := by decide +kernel
theorem dX7_readSign_11 : decode cX7_readSign 11 = .ok (.aload_n 0, 1) := by decide +kernel
theorem dX7_readSign_12 : decode cX7_readSign 12 = .ok (.iconst 1, 1) := by decide +kernel
theorem dX7_readSign_13 : decode cX7_readSign 13 = .ok (.invokevirtual 85, 3) := by decide +kernel
theorem dX7_readSign_16 : decode cX7_readSign 16 = .ok (.ireturn, 1) := by decide +kernel
theorem dX7_readSign_17 : decode cX7_readSign 17 = .ok (.aload_n 0, 1) := by decide +kernel
theorem dX7_readSign_18 : decode cX7_readSign 18 = .ok (.getfield 12, 3) := by decide +kernel
theorem dX7_readSign_21 : decode cX7_readSign 21 = .ok (.invokevirtual 96, 3) := by decide +kernel
theorem dX7_readSign_24 : decode cX7_readSign 24 = .ok (.iconst 1, 1) := by decide +kernel
theorem dX7_readSign_25 : decode cX7_readSign 25 = .ok (.ireturn, 1) := by decide +kernel
theorem dX7_readWord_0 : decode cX7_readWord 0 = .ok (.aload_n 0, 1) := by decide +kernel
theorem dX7_readWord_1 : decode cX7_readWord 1 = .ok (.getfield 12, 3) := by decide +kernel
theorem dX7_readWord_4 : decode cX7_readWord 4 = .ok (.aload_n 1, 1) := by decide +kernel
theorem dX7_readWord_5 : decode cX7_readWord 5 = .ok (.invokevirtual 51, 3) := by decide +kernel
theorem dX7_readWord_8 : decode cX7_readWord 8 = .ok (.ifCond .ne 9, 3) := by decide +kernel
theorem dX7_readWord_11 : decode cX7_readWord 11 = .ok (.aload_n 0, 1) := by decide +kernel
theorem dX7_readWord_12 : decode cX7_readWord 12 = .ok (.iconst 1, 1) := by decide +kernel
theorem dX7_readWord_13 : decode cX7_readWord 13 = .ok (.invokevirtual 85, 3) := by decide +kernel
theorem dX7_readWord_16 : decode cX7_readWord 16 = .ok (.ireturn, 1) := by decide +kernel
theorem dX7_readWord_17 : decode cX7_readWord 17 = .ok (.aload_n 0, 1) := by decide +kernel
theorem dX7_readWord_18 : decode cX7_readWord 18 = .ok (.getfield 12, 3) := by decide +kernel
theorem dX7_readWord_21 : decode cX7_readWord 21 = .ok (.invokevirtual 96, 3) := by decide +kernel
theorem dX7_readWord_24 : decode cX7_readWord 24 = .ok (.iconst 1, 1) := by decide +kernel
theorem dX7_readWord_25 : decode cX7_readWord 25 = .ok (.ireturn, 1) := by decide +kernel
theorem dX7_readNumber_0 : decode cX7_readNumber 0 = .ok (.aload_n 0, 1) := by decide +kernel
theorem dX7_readNumber_1 : decode cX7_readNumber 1 = .ok (.iload_n 1, 1) := by decide +kernel
theorem dX7_readNumber_2 : decode cX7_readNumber 2 = .ok (.iload_n 2, 1) := by decide +kernel
theorem dX7_readNumber_3 : decode cX7_readNumber 3 = .ok (.invokevirtual 158, 3) := by decide +kernel
theorem dX7_readNumber_6 : decode cX7_readNumber 6 = .ok (.ifCond .ne 5, 3) := by decide +kernel
theorem dX7_readNumber_9 : decode cX7_readNumber 9 = .ok (.iconst 0, 1) := by decide +kernel
theorem dX7_readNumber_10 : decode cX7_readNumber 10 = .ok (.ireturn, 1) := by decide +kernel
theorem dX7_readNumber_11 : decode cX7_readNumber 11 = .ok (.aload_n 0, 1) := by decide +kernel
theorem dX7_readNumber_12 : decode cX7_readNumber 12 = .ok (.aload_n 0, 1) := by decide +kernel
theorem dX7_readNumber_13 : decode cX7_readNumber 13 = .ok (.getfield 12, 3) := by decide +kernel
theorem dX7_readNumber_16 : decode cX7_readNumber 16 = .ok (.getfield 161, 3) := by decide +kernel
theorem dX7_readNumber_19 : decode cX7_readNumber 19 = .ok (.putfield 77, 3) := by decide +kernel
theorem dX7_readNumber_22 : decode cX7_readNumber 22 = .ok (.aload_n 0, 1) := by decide +kernel
theorem dX7_readNumber_23 : decode cX7_readNumber 23 = .ok (.getfield 12, 3) := by decide +kernel
theorem dX7_readNumber_26 : decode cX7_readNumber 26 = .ok (.invokevirtual 96, 3) := by decide +kernel
theorem dX7_readNumber_29 : decode cX7_readNumber 29 = .ok (.iconst 1, 1) := by decide +kernel
theorem dX7_readNumber_30 : decode cX7_readNumber 30 = .ok (.ireturn, 1) := by decide +kernel
theorem dX7_isNumber_0 : decode cX7_isNumber 0 = .ok (.aload_n 0, 1) := by decide +kernel
theorem dX7_isNumber_1 : decode cX7_isNumber 1 = .ok (.getfield 12, 3) := by decide +kernel
theorem dX7_isNumber_4 : decode cX7_isNumber 4 = .ok (.getfield 42, 3) := by decide +kernel
theorem dX7_isNumber_7 : decode cX7_isNumber 7 = .ok (.iconst 2, 1) := by decide +kernel
theorem dX7_isNumber_8 : decode cX7_isNumber 8 = .ok (.if_icmp .eq 9, 3) := by decide +kernel
theorem dX7_isNumber_11 : decode cX7_isNumber 11 = .ok (.aload_n 0, 1) := by decide +kernel
theorem dX7_isNumber_12 : decode cX7_isNumber 12 = .ok (.iconst 1, 1) := by decide +kernel
theorem dX7_isNumber_13 : decode cX7_isNumber 13 = .ok (.invokevirtual 85, 3) := by decide +kernel
theorem dX7_isNumber_16 : decode cX7_isNumber 16 = .ok (.ireturn, 1) := by decide +kernel
theorem dX7_isNumber_17 : decode cX7_isNumber 17 = .ok (.aload_n 0, 1) := by decide +kernel
theorem dX7_isNumber_18 : decode cX7_isNumber 18 = .ok (.getfield 12, 3) := by decide +kernel
theorem dX7_isNumber_21 : decode cX7_isNumber 21 = .ok (.getfield 161, 3) := by decide +kernel
theorem dX7_isNumber_24 : decode cX7_isNumber 24 = .ok (.iload_n 1, 1) := by decide +kernel
theorem dX7_isNumber_25 : decode cX7_isNumber 25 = .ok (.if_icmp .lt 14, 3) := by decide +kernel
theorem dX7_isNumber_28 : decode cX7_isNumber 28 = .ok (.aload_n 0, 1) := by decide +kernel
theorem dX7_isNumber_29 : decode cX7_isNumber 29 = .ok (.getfield 12, 3) := by decide +kernel
theorem dX7_isNumber_32 : decode cX7_isNumber 32 = .ok (.getfield 161, 3) := by decide +kernel
theorem dX7_isNumber_35 : decode cX7_isNumber 35 = .ok (.iload_n 2, 1) := by decide +kernel
theorem dX7_isNumber_36 : decode cX7_isNumber 36 = .ok (.if_icmp .le 9, 3) := by decide +kernel
theorem dX7_isNumber_39 : decode cX7_isNumber 39 = .ok (.aload_n 0, 1) := by decide +kernel
theorem dX7_isNumber_40 : decode cX7_isNumber 40 = .ok (.iconst 2, 1) := by decide +kernel
theorem dX7_isNumber_41 : decode cX7_isNumber 41 = .ok (.invokevirtual 85, 3) := by decide +kernel
theorem dX7_isNumber_44 : decode cX7_isNumber 44 = .ok (.ireturn, 1) := by decide +kernel
theorem dX7_isNumber_45 : decode cX7_isNumber 45 = .ok (.iconst 1, 1) := by decide +kernel
theorem dX7_isNumber_46 : decode cX7_isNumber 46 = .ok (.ireturn, 1) := by decide +kernel
theorem dX7_isName_0 : decode cX7_isName 0 = .ok (.aload_n 0, 1) := by decide +kernel
theorem dX7_isName_1 : decode cX7_isName 1 = .ok (.getfield 12, 3) := by decide +kernel
theorem dX7_isName_4 : decode cX7_isName 4 = .ok (.getfield 42, 3) := by decide +kernel
theorem dX7_isName_7 : decode cX7_isName 7 = .ok (.iconst 1, 1) := by decide +kernel
theorem dX7_isName_8 : decode cX7_isName 8 = .ok (.if_icmp .ne 91, 3) := by decide +kernel
theorem dX7_isName_11 : decode cX7_isName 11 = .ok (.aload_n 0, 1) := by decide +kernel
theorem dX7_isName_12 : decode cX7_isName 12 = .ok (.getfield 12, 3) := by decide +kernel
theorem dX7_isName_15 : decode cX7_isName 15 = .ok (.ldc 68, 2) := by decide +kernel
theorem dX7_isName_17 : decode cX7_isName 17 = .ok (.invokevirtual 51, 3) := by decide +kernel
theorem dX7_isName_20 : decode cX7_isName 20 = .ok (.ifCond .ne 79, 3) := by decide +kernel
theorem dX7_isName_23 : decode cX7_isName 23 = .ok (.aload_n 0, 1) := by decide +kernel
theorem dX7_isName_24 : decode cX7_isName 24 = .ok (.getfield 12, 3) := by decide +kernel
theorem dX7_isName_27 : decode cX7_isName 27 = .ok (.ldc 83, 2) := by decide +kernel
theorem dX7_isName_29 : decode cX7_isName 29 = .ok (.invokevirtual 51, 3) := by decide +kernel
theorem dX7_isName_32 : decode cX7_isName 32 = .ok (.ifCond .ne 67, 3) := by decide +kernel
theorem dX7_isName_35 : decode cX7_isName 35 = .ok (.aload_n 0, 1) := by decide +kernel
theorem dX7_isName_36 : decode cX7_isName 36 = .ok (.getfield 12, 3) := by decide +kernel
theorem dX7_isName_39 : decode cX7_isName 39 = .ok (.ldc 49, 2) := by decide +kernel
theorem dX7_isName_41 : decode cX7_isName 41 = .ok (.invokevirtual 51, 3) := by decide +kernel
theorem dX7_isName_44 : decode cX7_isName 44 = .ok (.ifCond .ne 55, 3) := by decide +kernel
theorem dX7_isName_47 : decode cX7_isName 47 = .ok (.aload_n 0, 1) := by decide +kernel
theorem dX7_isName_48 : decode cX7_isName 48 = .ok (.getfield 12, 3) := by decide +kernel
theorem dX7_isName_51 : decode cX7_isName 51 = .ok (.ldc 152, 2) := by decide +kernel
theorem dX7_isName_53 : decode cX7_isName 53 = .ok (.invokevirtual 51, 3) := by decide +kernel
theorem dX7_isName_56 : decode cX7_isName 56 = .ok (.ifCond .ne 43, 3) := by decide +kernel
theorem dX7_isName_59 : decode cX7_isName 59 = .ok (.aload_n 0, 1) := by decide +kernel
theorem dX7_isName_60 : decode cX7_isName 60 = .ok (.getfield 12, 3) := by decide +kernel
theorem dX7_isName_63 : decode cX7_isName 63 = .ok (.ldc 182, 2) := by decide +kernel
theorem dX7_isName_65 : decode cX7_isName 65 = .ok (.invokevirtual 51, 3) := by decide +kernel
theorem dX7_isName_68 : decode cX7_isName 68 = .ok (.ifCond .ne 31, 3) := by decide +kernel
theorem dX7_isName_71 : decode cX7_isName 71 = .ok (.aload_n 0, 1) := by decide +kernel
theorem dX7_isName_72 : decode cX7_isName 72 = .ok (.getfield 12, 3) := by decide +kernel
theorem dX7_isName_75 : decode cX7_isName 75 = .ok (.ldc 177, 2) := by decide +kernel
theorem dX7_isName_77 : decode cX7_isName 77 = .ok (.invokevirtual 51, 3) := by decide +kernel
theorem dX7_isName_80 : decode cX7_isName 80 = .ok (.ifCond .ne 19, 3) := by decide +kernel
theorem dX7_isName_83 : decode cX7_isName 83 = .ok (.aload_n 0, 1) := by decide +kernel
theorem dX7_isName_84 : decode cX7_isName 84 = .ok (.getfield 12, 3) := by decide +kernel
theorem dX7_isName_87 : decode cX7_isName 87 = .ok (.ldc 187, 2) := by decide +kernel
theorem dX7_isName_89 : decode cX7_isName 89 = .ok (.invokevirtual 51, 3) := by decide +kernel
theorem dX7_isName_92 : decode cX7_isName 92 = .ok (.ifCond .ne 7, 3) := by decide +kernel
theorem dX7_isName_95 : decode cX7_isName 95 = .ok (.iconst 1, 1) := by decide +kernel
theorem dX7_isName_96 : decode cX7_isName 96 = .ok (.goto 4, 3) := by decide +kernel
theorem dX7_isName_99 : decode cX7_isName 99 = .ok (.iconst 0, 1) := by decide +kernel
theorem dX7_isName_100 : decode cX7_isName 100 = .ok (.ireturn, 1) := by decide +kernel
theorem dX7_keepName_0 : decode cX7_keepName 0 = .ok (.iload_n 1, 1) := by decide +kernel
theorem dX7_keepName_1 : decode cX7_keepName 1 = .ok (.ifCond .lt 43, 3) := by decide +kernel
theorem dX7_keepName_4 : decode cX7_keepName 4 = .ok (.iload_n 1, 1) := by decide +kernel
theorem dX7_keepName_5 : decode cX7_keepName 5 = .ok (.bipush 6, 2) := by decide +kernel
theorem dX7_keepName_7 : decode cX7_keepName 7 = .ok (.if_icmp .ge 37, 3) := by decide +kernel
theorem dX7_keepName_10 : decode cX7_keepName 10 = .ok (.aload_n 0, 1) := by decide +kernel
theorem dX7_keepName_11 : decode cX7_keepName 11 = .ok (.getfield 25, 3) := by decide +kernel
theorem dX7_keepName_14 : decode cX7_keepName 14 = .ok (.iload_n 1, 1) := by decide +kernel
theorem dX7_keepName_15 : decode cX7_keepName 15 = .ok (.aload_n 0, 1) := by decide +kernel
theorem dX7_keepName_16 : decode cX7_keepName 16 = .ok (.getfield 12, 3) := by decide +kernel
theorem dX7_keepName_19 : decode cX7_keepName 19 = .ok (.getfield 65, 3) := by decide +kernel
theorem dX7_keepName_22 : decode cX7_keepName 22 = .ok (.iastore, 1) := by decide +kernel
theorem dX7_keepName_23 : decode cX7_keepName 23 = .ok (.aload_n 0, 1) := by decide +kernel
theorem dX7_keepName_24 : decode cX7_keepName 24 = .ok (.getfield 29, 3) := by decide +kernel
theorem dX7_keepName_27 : decode cX7_keepName 27 = .ok (.iload_n 1, 1) := by decide +kernel
theorem dX7_keepName_28 : decode cX7_keepName 28 = .ok (.aload_n 0, 1) := by decide +kernel
theorem dX7_keepName_29 : decode cX7_keepName 29 = .ok (.getfield 12, 3) := by decide +kernel
theorem dX7_keepName_32 : decode cX7_keepName 32 = .ok (.getfield 192, 3) := by decide +kernel
theorem dX7_keepName_35 : decode cX7_keepName 35 = .ok (.aload_n 0, 1) := by decide +kernel
theorem dX7_keepName_36 : decode cX7_keepName 36 = .ok (.getfield 12, 3) := by decide +kernel
theorem dX7_keepName_39 : decode cX7_keepName 39 = .ok (.getfield 65, 3) := by decide +kernel
theorem dX7_keepName_42 : decode cX7_keepName 42 = .ok (.isub, 1) := by decide +kernel
theorem dX7_keepName_43 : decode cX7_keepName 43 = .ok (.iastore, 1) := by decide +kernel
theorem dX7_keepName_44 : decode cX7_keepName 44 = .ok (.return_, 1) := by decide +kernel
theorem dX7_indexNamed_0 : decode cX7_indexNamed 0 = .ok (.iconst 0, 1) := by decide +kernel
theorem dX7_indexNamed_1 : decode cX7_indexNamed 1 = .ok (.istore_n 2, 1) := by decide +kernel
theorem dX7_indexNamed_2 : decode cX7_indexNamed 2 = .ok (.iload_n 2, 1) := by decide +kernel
theorem dX7_indexNamed_3 : decode cX7_indexNamed 3 = .ok (.iload_n 1, 1) := by decide +kernel
theorem dX7_indexNamed_4 : decode cX7_indexNamed 4 = .ok (.if_icmp .ge 39, 3) := by decide +kernel
theorem dX7_indexNamed_7 : decode cX7_indexNamed 7 = .ok (.iload_n 2, 1) := by decide +kernel
theorem dX7_indexNamed_8 : decode cX7_indexNamed 8 = .ok (.bipush 6, 2) := by decide +kernel
theorem dX7_indexNamed_10 : decode cX7_indexNamed 10 = .ok (.if_icmp .ge 33, 3) := by decide +kernel
theorem dX7_indexNamed_13 : decode cX7_indexNamed 13 = .ok (.aload_n 0, 1) := by decide +kernel
theorem dX7_indexNamed_14 : decode cX7_indexNamed 14 = .ok (.getfield 12, 3) := by decide +kernel
theorem dX7_indexNamed_17 : decode cX7_indexNamed 17 = .ok (.aload_n 0, 1) := by decide +kernel
theorem dX7_indexNamed_18 : decode cX7_indexNamed 18 = .ok (.getfield 25, 3) := by decide +kernel
theorem dX7_indexNamed_21 : decode cX7_indexNamed 21 = .ok (.iload_n 2, 1) := by decide +kernel
theorem dX7_indexNamed_22 : decode cX7_indexNamed 22 = .ok (.iaload, 1) := by decide +kernel
theorem dX7_indexNamed_23 : decode cX7_indexNamed 23 = .ok (.aload_n 0, 1) := by decide +kernel
theorem dX7_indexNamed_24 : decode cX7_indexNamed 24 = .ok (.getfield 29, 3) := by decide +kernel
theorem dX7_indexNamed_27 : decode cX7_indexNamed 27 = .ok (.iload_n 2, 1) := by decide +kernel
theorem dX7_indexNamed_28 : decode cX7_indexNamed 28 = .ok (.iaload, 1) := by decide +kernel
theorem dX7_indexNamed_29 : decode cX7_indexNamed 29 = .ok (.invokevirtual 195, 3) := by decide +kernel
theorem dX7_indexNamed_32 : decode cX7_indexNamed 32 = .ok (.ifCond .eq 5, 3) := by decide +kernel
theorem dX7_indexNamed_35 : decode cX7_indexNamed 35 = .ok (.iload_n 2, 1) := by decide +kernel
theorem dX7_indexNamed_36 : decode cX7_indexNamed 36 = .ok (.ireturn, 1) := by decide +kernel
theorem dX7_indexNamed_37 : decode cX7_indexNamed 37 = .ok (.iinc 2 1, 3) := by decide +kernel
theorem dX7_indexNamed_40 : decode cX7_indexNamed 40 = .ok (.goto (-38), 3) := by decide +kernel
theorem dX7_indexNamed_43 : decode cX7_indexNamed 43 = .ok (.iconst (-1), 1) := by decide +kernel
theorem dX7_indexNamed_44 : decode cX7_indexNamed 44 = .ok (.ireturn, 1) := by decide +kernel
theorem dX8_init_0 : decode cX8_init 0 = .ok (.aload_n 0, 1) := by decide +kernel
theorem dX8_init_1 : decode cX8_init 1 = .ok (.invokespecial 1, 3) := by decide +kernel
theorem dX8_init_4 : decode cX8_init 4 = .ok (.aload_n 0, 1) := by decide +kernel
theorem dX8_init_5 : decode cX8_init 5 = .ok (.new 7, 3) := by decide +kernel
theorem dX8_init_8 : decode cX8_init 8 = .ok (.dup, 1) := by decide +kernel
theorem dX8_init_9 : decode cX8_init 9 = .ok (.invokespecial 9, 3) := by decide +kernel
theorem dX8_init_12 : decode cX8_init 12 = .ok (.putfield 10, 3) := by decide +kernel
theorem dX8_init_15 : decode cX8_init 15 = .ok (.aload_n 0, 1) := by decide +kernel
theorem dX8_init_16 : decode cX8_init 16 = .ok (.new 16, 3) := by decide +kernel
theorem dX8_init_19 : decode cX8_init 19 = .ok (.dup, 1) := by decide +kernel
theorem dX8_init_20 : decode cX8_init 20 = .ok (.invokespecial 18, 3) := by decide +kernel
theorem dX8_init_23 : decode cX8_init 23 = .ok (.putfield 19, 3) := by decide +kernel
theorem dX8_init_26 : decode cX8_init 26 = .ok (.aload_n 0, 1) := by decide +kernel
theorem dX8_init_27 : decode cX8_init 27 = .ok (.new 23, 3) := by decide +kernel
theorem dX8_init_30 : decode cX8_init 30 = .ok (.dup, 1) := by decide +kernel
theorem dX8_init_31 : decode cX8_init 31 = .ok (.invokespecial 25, 3) := by decide +kernel
theorem dX8_init_34 : decode cX8_init 34 = .ok (.putfield 26, 3) := by decide +kernel
theorem dX8_init_37 : decode cX8_init 37 = .ok (.aload_n 0, 1) := by decide +kernel
theorem dX8_init_38 : decode cX8_init 38 = .ok (.new 30, 3) := by decide +kernel
theorem dX8_init_41 : decode cX8_init 41 = .ok (.dup, 1) := by decide +kernel
theorem dX8_init_42 : decode cX8_init 42 = .ok (.invokespecial 32, 3) := by decide +kernel
theorem dX8_init_45 : decode cX8_init 45 = .ok (.putfield 33, 3) := by decide +kernel
theorem dX8_init_48 : decode cX8_init 48 = .ok (.return_, 1) := by decide +kernel
theorem dX8_feed_0 : decode cX8_feed 0 = .ok (.aload_n 0, 1) := by decide +kernel
theorem dX8_feed_1 : decode cX8_feed 1 = .ok (.getfield 10, 3) := by decide +kernel
theorem dX8_feed_4 : decode cX8_feed 4 = .ok (.getfield 37, 3) := by decide +kernel
theorem dX8_feed_7 : decode cX8_feed 7 = .ok (.astore 6, 2) := by decide +kernel
theorem dX8_feed_9 : decode cX8_feed 9 = .ok (.aload 6, 2) := by decide +kernel
theorem dX8_feed_11 : decode cX8_feed 11 = .ok (.getfield 41, 3) := by decide +kernel
theorem dX8_feed_14 : decode cX8_feed 14 = .ok (.bipush 20, 2) := by decide +kernel
theorem dX8_feed_16 : decode cX8_feed 16 = .ok (.iadd, 1) := by decide +kernel
theorem dX8_feed_17 : decode cX8_feed 17 = .ok (.sipush 740, 3) := by decide +kernel
theorem dX8_feed_20 : decode cX8_feed 20 = .ok (.if_icmp .le 5, 3) := by decide +kernel
theorem dX8_feed_23 : decode cX8_feed 23 = .ok (.iconst (-1), 1) := by decide +kernel
theorem dX8_feed_24 : decode cX8_feed 24 = .ok (.ireturn, 1) := by decide +kernel
theorem dX8_feed_25 : decode cX8_feed 25 = .ok (.aload 6, 2) := by decide +kernel
theorem dX8_feed_27 : decode cX8_feed 27 = .ok (.iload_n 1, 1) := by decide +kernel
theorem dX8_feed_28 : decode cX8_feed 28 = .ok (.invokevirtual 47, 3) := by decide +kernel
theorem dX8_feed_31 : decode cX8_feed 31 = .ok (.aload 6, 2) := by decide +kernel
theorem dX8_feed_33 : decode cX8_feed 33 = .ok (.iload_n 2, 1) := by decide +kernel
theorem dX8_feed_34 : decode cX8_feed 34 = .ok (.invokevirtual 47, 3) := by decide +kernel
theorem dX8_feed_37 : decode cX8_feed 37 = .ok (.aload 6, 2) := by decide +kernel
theorem dX8_feed_39 : decode cX8_feed 39 = .ok (.iload_n 3, 1) := by decide +kernel
theorem dX8_feed_40 : decode cX8_feed 40 = .ok (.invokevirtual 47, 3) := by decide +kernel
theorem dX8_feed_43 : decode cX8_feed 43 = .ok (.aload 6, 2) := by decide +kernel
theorem dX8_feed_45 : decode cX8_feed 45 = .ok (.iload 4, 2) := by decide +kernel
theorem dX8_feed_47 : decode cX8_feed 47 = .ok (.invokevirtual 47, 3) := by decide +kernel
theorem dX8_feed_50 : decode cX8_feed 50 = .ok (.aload 6, 2) := by decide +kernel
theorem dX8_feed_52 : decode cX8_feed 52 = .ok (.iload 5, 2) := by decide +kernel
theorem dX8_feed_54 : decode cX8_feed 54 = .ok (.invokevirtual 47, 3) := by decide +kernel
theorem dX8_feed_57 : decode cX8_feed 57 = .ok (.aload 6, 2) := by decide +kernel
theorem dX8_feed_59 : decode cX8_feed 59 = .ok (.getfield 41, 3) := by decide +kernel
theorem dX8_feed_62 : decode cX8_feed 62 = .ok (.ireturn, 1) := by decide +kernel
theorem dX8_end_0 : decode cX8_end 0 = .ok (.iload_n 1, 1) := by decide +kernel
theorem dX8_end_1 : decode cX8_end 1 = .ok (.ifCond .lt 17, 3) := by decide +kernel
theorem dX8_end_4 : decode cX8_end 4 = .ok (.iload_n 1, 1) := by decide +kernel
theorem dX8_end_5 : decode cX8_end 5 = .ok (.aload_n 0, 1) := by decide +kernel
theorem dX8_end_6 : decode cX8_end 6 = .ok (.getfield 10, 3) := by decide +kernel
theorem dX8_end_9 : decode cX8_end 9 = .ok (.getfield 37, 3) := by decide +kernel
theorem dX8_end_12 : decode cX8_end 12 = .ok (.getfield 41, 3) := by decide +kernel
theorem dX8_end_15 : decode cX8_end 15 = .ok (.if_icmp .le 5, 3) := by decide +kernel
theorem dX8_end_18 : decode cX8_end 18 = .ok (.iconst 0, 1) := by decide +kernel
theorem dX8_end_19 : decode cX8_end 19 = .ok (.ireturn, 1) := by decide +kernel
theorem dX8_end_20 : decode cX8_end 20 = .ok (.aload_n 0, 1) := by decide +kernel
theorem dX8_end_21 : decode cX8_end 21 = .ok (.getfield 10, 3) := by decide +kernel
theorem dX8_end_24 : decode cX8_end 24 = .ok (.getfield 37, 3) := by decide +kernel
theorem dX8_end_27 : decode cX8_end 27 = .ok (.iload_n 1, 1) := by decide +kernel
theorem dX8_end_28 : decode cX8_end 28 = .ok (.putfield 41, 3) := by decide +kernel
theorem dX8_end_31 : decode cX8_end 31 = .ok (.iconst 1, 1) := by decide +kernel
theorem dX8_end_32 : decode cX8_end 32 = .ok (.ireturn, 1) := by decide +kernel
theorem dX8_text_0 : decode cX8_text 0 = .ok (.aload_n 0, 1) := by decide +kernel
theorem dX8_text_1 : decode cX8_text 1 = .ok (.getfield 10, 3) := by decide +kernel
theorem dX8_text_4 : decode cX8_text 4 = .ok (.invokevirtual 51, 3) := by decide +kernel
theorem dX8_text_7 : decode cX8_text 7 = .ok (.istore_n 1, 1) := by decide +kernel
theorem dX8_text_8 : decode cX8_text 8 = .ok (.aload_n 0, 1) := by decide +kernel
theorem dX8_text_9 : decode cX8_text 9 = .ok (.getfield 10, 3) := by decide +kernel
theorem dX8_text_12 : decode cX8_text 12 = .ok (.getfield 37, 3) := by decide +kernel
theorem dX8_text_15 : decode cX8_text 15 = .ok (.iconst 0, 1) := by decide +kernel
theorem dX8_text_16 : decode cX8_text 16 = .ok (.putfield 41, 3) := by decide +kernel
theorem dX8_text_19 : decode cX8_text 19 = .ok (.iload_n 1, 1) := by decide +kernel
theorem dX8_text_20 : decode cX8_text 20 = .ok (.ifCond .ge 5, 3) := by decide +kernel
theorem dX8_text_23 : decode cX8_text 23 = .ok (.iload_n 1, 1) := by decide +kernel
theorem dX8_text_24 : decode cX8_text 24 = .ok (.ireturn, 1) := by decide +kernel
theorem dX8_text_25 : decode cX8_text 25 = .ok (.aload_n 0, 1) := by decide +kernel
theorem dX8_text_26 : decode cX8_text 26 = .ok (.aload_n 0, 1) := by decide +kernel
theorem dX8_text_27 : decode cX8_text 27 = .ok (.getfield 10, 3) := by decide +kernel
theorem dX8_text_30 : decode cX8_text 30 = .ok (.aload_n 0, 1) := by decide +kernel
theorem dX8_text_31 : decode cX8_text 31 = .ok (.getfield 19, 3) := by decide +kernel
theorem dX8_text_34 : decode cX8_text 34 = .ok (.invokevirtual 55, 3) := by decide +kernel
theorem dX8_text_37 : decode cX8_text 37 = .ok (.putfield 19, 3) := by decide +kernel
theorem dX8_text_40 : decode cX8_text 40 = .ok (.aload_n 0, 1) := by decide +kernel
theorem dX8_text_41 : decode cX8_text 41 = .ok (.getfield 26, 3) := by decide +kernel
theorem dX8_text_44 : decode cX8_text 44 = .ok (.iconst 0, 1) := by decide +kernel
theorem dX8_text_45 : decode cX8_text 45 = .ok (.putfield 59, 3) := by decide +kernel
theorem dX8_text_48 : decode cX8_text 48 = .ok (.aload_n 0, 1) := by decide +kernel
theorem dX8_text_49 : decode cX8_text 49 = .ok (.getfield 33, 3) := by decide +kernel
theorem dX8_text_52 : decode cX8_text 52 = .ok (.invokevirtual 62, 3) := by decide +kernel
theorem dX8_text_55 : decode cX8_text 55 = .ok (.iload_n 1, 1) := by decide +kernel
theorem dX8_text_56 : decode cX8_text 56 = .ok (.ireturn, 1) := by decide +kernel
theorem dX8_fault_0 : decode cX8_fault 0 = .ok (.aload_n 0, 1) := by decide +kernel
theorem dX8_fault_1 : decode cX8_fault 1 = .ok (.getfield 10, 3) := by decide +kernel
theorem dX8_fault_4 : decode cX8_fault 4 = .ok (.getfield 65, 3) := by decide +kernel
theorem dX8_fault_7 : decode cX8_fault 7 = .ok (.ireturn, 1) := by decide +kernel
theorem dX8_now_0 : decode cX8_now 0 = .ok (.iload_n 1, 1) := by decide +kernel
theorem dX8_now_1 : decode cX8_now 1 = .ok (.tableswitch 102 0 6 #[43, 51, 59, 67, 75, 83, 91], 43) := by decide +kernel
theorem dX8_now_44 : decode cX8_now 44 = .ok (.aload_n 0, 1) := by decide +kernel
theorem dX8_now_45 : decode cX8_now 45 = .ok (.getfield 19, 3) := by decide +kernel
theorem dX8_now_48 : decode cX8_now 48 = .ok (.getfield 68, 3) := by decide +kernel
theorem dX8_now_51 : decode cX8_now 51 = .ok (.ireturn, 1) := by decide +kernel
theorem dX8_now_52 : decode cX8_now 52 = .ok (.aload_n 0, 1) := by decide +kernel
theorem dX8_now_53 : decode cX8_now 53 = .ok (.getfield 19, 3) := by decide +kernel
theorem dX8_now_56 : decode cX8_now 56 = .ok (.getfield 71, 3) := by decide +kernel
theorem dX8_now_59 : decode cX8_now 59 = .ok (.ireturn, 1) := by decide +kernel
theorem dX8_now_60 : decode cX8_now 60 = .ok (.aload_n 0, 1) := by decide +kernel
theorem dX8_now_61 : decode cX8_now 61 = .ok (.getfield 19, 3) := by decide +kernel
theorem dX8_now_64 : decode cX8_now 64 = .ok (.getfield 74, 3) := by decide +kernel
theorem dX8_now_67 : decode cX8_now 67 = .ok (.ireturn, 1) := by decide +kernel
theorem dX8_now_68 : decode cX8_now 68 = .ok (.aload_n 0, 1) := by decide +kernel
theorem dX8_now_69 : decode cX8_now 69 = .ok (.getfield 26, 3) := by decide +kernel
theorem dX8_now_72 : decode cX8_now 72 = .ok (.getfield 59, 3) := by decide +kernel
theorem dX8_now_75 : decode cX8_now 75 = .ok (.ireturn, 1) := by decide +kernel
theorem dX8_now_76 : decode cX8_now 76 = .ok (.aload_n 0, 1) := by decide +kernel
theorem dX8_now_77 : decode cX8_now 77 = .ok (.getfield 26, 3) := by decide +kernel
theorem dX8_now_80 : decode cX8_now 80 = .ok (.invokevirtual 77, 3) := by decide +kernel
theorem dX8_now_83 : decode cX8_now 83 = .ok (.ireturn, 1) := by decide +kernel
theorem dX8_now_84 : decode cX8_now 84 = .ok (.aload_n 0, 1) := by decide +kernel
theorem dX8_now_85 : decode cX8_now 85 = .ok (.getfield 33, 3) := by decide +kernel
theorem dX8_now_88 : decode cX8_now 88 = .ok (.getfield 80, 3) := by decide +kernel
theorem dX8_now_91 : decode cX8_now 91 = .ok (.ireturn, 1) := by decide +kernel
theorem dX8_now_92 : decode cX8_now 92 = .ok (.aload_n 0, 1) := by decide +kernel
theorem dX8_now_93 : decode cX8_now 93 = .ok (.getfield 10, 3) := by decide +kernel
theorem dX8_now_96 : decode cX8_now 96 = .ok (.getfield 37, 3) := by decide +kernel
theorem dX8_now_99 : decode cX8_now 99 = .ok (.getfield 41, 3) := by decide +kernel
theorem dX8_now_102 : decode cX8_now 102 = .ok (.ireturn, 1) := by decide +kernel
theorem dX8_now_103 : decode cX8_now 103 = .ok (.iconst (-1), 1) := by decide +kernel
theorem dX8_now_104 : decode cX8_now 104 = .ok (.ireturn, 1) := by decide +kernel
theorem dX8_value_0 : decode cX8_value 0 = .ok (.aload_n 0, 1) := by decide +kernel
theorem dX8_value_1 : decode cX8_value 1 = .ok (.getfield 19, 3) := by decide +kernel
theorem dX8_value_4 : decode cX8_value 4 = .ok (.iload_n 1, 1) := by decide +kernel
theorem dX8_value_5 : decode cX8_value 5 = .ok (.invokevirtual 83, 3) := by decide +kernel
theorem dX8_value_8 : decode cX8_value 8 = .ok (.astore 4, 2) := by decide +kernel
theorem dX8_value_10 : decode cX8_value 10 = .ok (.aload 4, 2) := by decide +kernel
theorem dX8_value_12 : decode cX8_value 12 = .ok (.ifnull 10, 3) := by decide +kernel
theorem dX8_value_15 : decode cX8_value 15 = .ok (.iload_n 2, 1) := by decide +kernel
theorem dX8_value_16 : decode cX8_value 16 = .ok (.invokestatic 87, 3) := by decide +kernel
theorem dX8_value_19 : decode cX8_value 19 = .ok (.ifCond .ne 5, 3) := by decide +kernel
theorem dX8_value_22 : decode cX8_value 22 = .ok (.iconst (-1), 1) := by decide +kernel
theorem dX8_value_23 : decode cX8_value 23 = .ok (.ireturn, 1) := by decide +kernel
theorem dX8_value_24 : decode cX8_value 24 = .ok (.iload_n 3, 1) := by decide +kernel
theorem dX8_value_25 : decode cX8_value 25 = .ok (.tableswitch 64 0 3 #[31, 38, 45, 57], 31) := by decide +kernel
theorem dX8_value_56 : decode cX8_value 56 = .ok (.aload 4, 2) := by decide +kernel
theorem dX8_value_58 : decode cX8_value 58 = .ok (.iload_n 2, 1) := by decide +kernel
theorem dX8_value_59 : decode cX8_value 59 = .ok (.invokevirtual 91, 3) := by decide +kernel
theorem dX8_value_62 : decode cX8_value 62 = .ok (.ireturn, 1) := by decide +kernel
theorem dX8_value_63 : decode cX8_value 63 = .ok (.aload 4, 2) := by decide +kernel
theorem dX8_value_65 : decode cX8_value 65 = .ok (.iload_n 2, 1) := by decide +kernel
theorem dX8_value_66 : decode cX8_value 66 = .ok (.invokevirtual 97, 3) := by decide +kernel
theorem dX8_value_69 : decode cX8_value 69 = .ok (.ireturn, 1) := by decide +kernel
theorem dX8_value_70 : decode cX8_value 70 = .ok (.aload 4, 2) := by decide +kernel
theorem dX8_value_72 : decode cX8_value 72 = .ok (.aload 4, 2) := by decide +kernel
theorem dX8_value_74 : decode cX8_value 74 = .ok (.iload_n 2, 1) := by decide +kernel
theorem dX8_value_75 : decode cX8_value 75 = .ok (.invokevirtual 100, 3) := by decide +kernel
theorem dX8_value_78 : decode cX8_value 78 = .ok (.invokevirtual 91, 3) := by decide +kernel
theorem dX8_value_81 : decode cX8_value 81 = .ok (.ireturn, 1) := by decide +kernel
theorem dX8_value_82 : decode cX8_value 82 = .ok (.aload 4, 2) := by decide +kernel
theorem dX8_value_84 : decode cX8_value 84 = .ok (.iload_n 2, 1) := by decide +kernel
theorem dX8_value_85 : decode cX8_value 85 = .ok (.invokevirtual 100, 3) := by decide +kernel
theorem dX8_value_88 : decode cX8_value 88 = .ok (.ireturn, 1) := by decide +kernel
theorem dX8_value_89 : decode cX8_value 89 = .ok (.iconst (-1), 1) := by decide +kernel
theorem dX8_value_90 : decode cX8_value 90 = .ok (.ireturn, 1) := by decide +kernel
theorem dX8_rebased_0 : decode cX8_rebased 0 = .ok (.aload_n 0, 1) := by decide +kernel
theorem dX8_rebased_1 : decode cX8_rebased 1 = .ok (.getfield 19, 3) := by decide +kernel
theorem dX8_rebased_4 : decode cX8_rebased 4 = .ok (.iload_n 1, 1) := by decide +kernel
theorem dX8_rebased_5 : decode cX8_rebased 5 = .ok (.invokevirtual 83, 3) := by decide +kernel
theorem dX8_rebased_8 : decode cX8_rebased 8 = .ok (.astore 4, 2) := by decide +kernel
theorem dX8_rebased_10 : decode cX8_rebased 10 = .ok (.aload 4, 2) := by decide +kernel
theorem dX8_rebased_12 : decode cX8_rebased 12 = .ok (.ifnull 12, 3) := by decide +kernel
theorem dX8_rebased_15 : decode cX8_rebased 15 = .ok (.aload 4, 2) := by decide +kernel
theorem dX8_rebased_17 : decode cX8_rebased 17 = .ok (.iload_n 2, 1) := by decide +kernel
theorem dX8_rebased_18 : decode cX8_rebased 18 = .ok (.invokevirtual 103, 3) := by decide +kernel
theorem dX8_rebased_21 : decode cX8_rebased 21 = .ok (.ifCond .ne 5, 3) := by decide +kernel
theorem dX8_rebased_24 : decode cX8_rebased 24 = .ok (.iconst (-1), 1) := by decide +kernel
theorem dX8_rebased_25 : decode cX8_rebased 25 = .ok (.ireturn, 1) := by decide +kernel
theorem dX8_rebased_26 : decode cX8_rebased 26 = .ok (.iload_n 3, 1) := by decide +kernel
theorem dX8_rebased_27 : decode cX8_rebased 27 = .ok (.tableswitch 49 0 2 #[25, 33, 41], 25) := by decide +kernel
theorem dX8_rebased_52 : decode cX8_rebased 52 = .ok (.aload 4, 2) := by decide +kernel
theorem dX8_rebased_54 : decode cX8_rebased 54 = .ok (.getfield 106, 3) := by decide +kernel
theorem dX8_rebased_57 : decode cX8_rebased 57 = .ok (.iload_n 2, 1) := by decide +kernel
theorem dX8_rebased_58 : decode cX8_rebased 58 = .ok (.iaload, 1) := by decide +kernel
theorem dX8_rebased_59 : decode cX8_rebased 59 = .ok (.ireturn, 1) := by decide +kernel
theorem dX8_rebased_60 : decode cX8_rebased 60 = .ok (.aload 4, 2) := by decide +kernel
theorem dX8_rebased_62 : decode cX8_rebased 62 = .ok (.getfield 110, 3) := by decide +kernel
theorem dX8_rebased_65 : decode cX8_rebased 65 = .ok (.iload_n 2, 1) := by decide +kernel
theorem dX8_rebased_66 : decode cX8_rebased 66 = .ok (.iaload, 1) := by decide +kernel
theorem dX8_rebased_67 : decode cX8_rebased 67 = .ok (.ireturn, 1) := by decide +kernel
theorem dX8_rebased_68 : decode cX8_rebased 68 = .ok (.aload 4, 2) := by decide +kernel
theorem dX8_rebased_70 : decode cX8_rebased 70 = .ok (.getfield 113, 3) := by decide +kernel
theorem dX8_rebased_73 : decode cX8_rebased 73 = .ok (.iload_n 2, 1) := by decide +kernel
theorem dX8_rebased_74 : decode cX8_rebased 74 = .ok (.iaload, 1) := by decide +kernel
theorem dX8_rebased_75 : decode cX8_rebased 75 = .ok (.ireturn, 1) := by decide +kernel
theorem dX8_rebased_76 : decode cX8_rebased 76 = .ok (.iconst (-1), 1) := by decide +kernel
theorem dX8_rebased_77 : decode cX8_rebased 77 = .ok (.ireturn, 1) := by decide +kernel
theorem dX8_ratio_0 : decode cX8_ratio 0 = .ok (.aload_n 0, 1) := by decide +kernel
theorem dX8_ratio_1 : decode cX8_ratio 1 = .ok (.getfield 19, 3) := by decide +kernel
theorem dX8_ratio_4 : decode cX8_ratio 4 = .ok (.iload_n 1, 1) := by decide +kernel
theorem dX8_ratio_5 : decode cX8_ratio 5 = .ok (.invokevirtual 83, 3) := by decide +kernel
theorem dX8_ratio_8 : decode cX8_ratio 8 = .ok (.astore 4, 2) := by decide +kernel
theorem dX8_ratio_10 : decode cX8_ratio 10 = .ok (.aload 4, 2) := by decide +kernel
theorem dX8_ratio_12 : decode cX8_ratio 12 = .ok (.ifnull 26, 3) := by decide +kernel
theorem dX8_ratio_15 : decode cX8_ratio 15 = .ok (.iload_n 2, 1) := by decide +kernel
theorem dX8_ratio_16 : decode cX8_ratio 16 = .ok (.iload_n 3, 1) := by decide +kernel
theorem dX8_ratio_17 : decode cX8_ratio 17 = .ok (.if_icmp .gt 21, 3) := by decide +kernel
theorem dX8_ratio_20 : decode cX8_ratio 20 = .ok (.aload 4, 2) := by decide +kernel
theorem dX8_ratio_22 : decode cX8_ratio 22 = .ok (.iload_n 2, 1) := by decide +kernel
theorem dX8_ratio_23 : decode cX8_ratio 23 = .ok (.invokevirtual 116, 3) := by decide +kernel
theorem dX8_ratio_26 : decode cX8_ratio 26 = .ok (.ifCond .eq 12, 3) := by decide +kernel
theorem dX8_ratio_29 : decode cX8_ratio 29 = .ok (.aload 4, 2) := by decide +kernel
theorem dX8_ratio_31 : decode cX8_ratio 31 = .ok (.iload_n 3, 1) := by decide +kernel
theorem dX8_ratio_32 : decode cX8_ratio 32 = .ok (.invokevirtual 116, 3) := by decide +kernel
theorem dX8_ratio_35 : decode cX8_ratio 35 = .ok (.ifCond .ne 11, 3) := by decide +kernel
theorem dX8_ratio_38 : decode cX8_ratio 38 = .ok (.new 119, 3) := by decide +kernel
theorem dX8_ratio_41 : decode cX8_ratio 41 = .ok (.dup, 1) := by decide +kernel
theorem dX8_ratio_42 : decode cX8_ratio 42 = .ok (.invokespecial 121, 3) := by decide +kernel
theorem dX8_ratio_45 : decode cX8_ratio 45 = .ok (.athrow, 1) := by decide +kernel
theorem dX8_ratio_46 : decode cX8_ratio 46 = .ok (.aload 4, 2) := by decide +kernel
theorem dX8_ratio_48 : decode cX8_ratio 48 = .ok (.iload_n 2, 1) := by decide +kernel
theorem dX8_ratio_49 : decode cX8_ratio 49 = .ok (.iload_n 3, 1) := by decide +kernel
theorem dX8_ratio_50 : decode cX8_ratio 50 = .ok (.invokevirtual 122, 3) := by decide +kernel
theorem dX8_ratio_53 : decode cX8_ratio 53 = .ok (.ireturn, 1) := by decide +kernel
theorem dX8_contract_0 : decode cX8_contract 0 = .ok (.aload_n 0, 1) := by decide +kernel
theorem dX8_contract_1 : decode cX8_contract 1 = .ok (.getfield 19, 3) := by decide +kernel
theorem dX8_contract_4 : decode cX8_contract 4 = .ok (.iload_n 1, 1) := by decide +kernel
theorem dX8_contract_5 : decode cX8_contract 5 = .ok (.invokevirtual 126, 3) := by decide +kernel
theorem dX8_contract_8 : decode cX8_contract 8 = .ok (.astore_n 3, 1) := by decide +kernel
theorem dX8_contract_9 : decode cX8_contract 9 = .ok (.aload_n 3, 1) := by decide +kernel
theorem dX8_contract_10 : decode cX8_contract 10 = .ok (.ifnonnull 5, 3) := by decide +kernel
theorem dX8_contract_13 : decode cX8_contract 13 = .ok (.iconst (-1), 1) := by decide +kernel
theorem dX8_contract_14 : decode cX8_contract 14 = .ok (.ireturn, 1) := by decide +kernel
theorem dX8_contract_15 : decode cX8_contract 15 = .ok (.iload_n 2, 1) := by decide +kernel
theorem dX8_contract_16 : decode cX8_contract 16 = .ok (.tableswitch 87 0 6 #[44, 49, 54, 59, 64, 69, 82], 44) := by decide +kernel
theorem dX8_contract_60 : decode cX8_contract 60 = .ok (.aload_n 3, 1) := by decide +kernel
theorem dX8_contract_61 : decode cX8_contract 61 = .ok (.getfield 130, 3) := by decide +kernel
theorem dX8_contract_64 : decode cX8_contract 64 = .ok (.ireturn, 1) := by decide +kernel
theorem dX8_contract_65 : decode cX8_contract 65 = .ok (.aload_n 3, 1) := by decide +kernel
theorem dX8_contract_66 : decode cX8_contract 66 = .ok (.getfield 135, 3) := by decide +kernel
theorem dX8_contract_69 : decode cX8_contract 69 = .ok (.ireturn, 1) := by decide +kernel
theorem dX8_contract_70 : decode cX8_contract 70 = .ok (.aload_n 3, 1) := by decide +kernel
theorem dX8_contract_71 : decode cX8_contract 71 = .ok (.getfield 138, 3) := by decide +kernel
theorem dX8_contract_74 : decode cX8_contract 74 = .ok (.ireturn, 1) := by decide +kernel
theorem dX8_contract_75 : decode cX8_contract 75 = .ok (.aload_n 3, 1) := by decide +kernel
theorem dX8_contract_76 : decode cX8_contract 76 = .ok (.getfield 141, 3) := by decide +kernel
theorem dX8_contract_79 : decode cX8_contract 79 = .ok (.ireturn, 1) := by decide +kernel
theorem dX8_contract_80 : decode cX8_contract 80 = .ok (.aload_n 3, 1) := by decide +kernel
theorem dX8_contract_81 : decode cX8_contract 81 = .ok (.getfield 144, 3) := by decide +kernel
theorem dX8_contract_84 : decode cX8_contract 84 = .ok (.ireturn, 1) := by decide +kernel
theorem dX8_contract_85 : decode cX8_contract 85 = .ok (.aload_n 3, 1) := by decide +kernel
theorem dX8_contract_86 : decode cX8_contract 86 = .ok (.getfield 147, 3) := by decide +kernel
theorem dX8_contract_89 : decode cX8_contract 89 = .ok (.ifCond .eq 7, 3) := by decide +kernel
theorem dX8_contract_92 : decode cX8_contract 92 = .ok (.iconst 1, 1) := by decide +kernel
theorem dX8_contract_93 : decode cX8_contract 93 = .ok (.goto 4, 3) := by decide +kernel
theorem dX8_contract_96 : decode cX8_contract 96 = .ok (.iconst 0, 1) := by decide +kernel
theorem dX8_contract_97 : decode cX8_contract 97 = .ok (.ireturn, 1) := by decide +kernel
theorem dX8_contract_98 : decode cX8_contract 98 = .ok (.aload_n 3, 1) := by decide +kernel
theorem dX8_contract_99 : decode cX8_contract 99 = .ok (.getfield 151, 3) := by decide +kernel
theorem dX8_contract_102 : decode cX8_contract 102 = .ok (.ireturn, 1) := by decide +kernel
theorem dX8_contract_103 : decode cX8_contract 103 = .ok (.aload_n 3, 1) := by decide +kernel
theorem dX8_contract_104 : decode cX8_contract 104 = .ok (.iload_n 2, 1) := by decide +kernel
theorem dX8_contract_105 : decode cX8_contract 105 = .ok (.bipush 7, 2) := by decide +kernel
theorem dX8_contract_107 : decode cX8_contract 107 = .ok (.isub, 1) := by decide +kernel
theorem dX8_contract_108 : decode cX8_contract 108 = .ok (.invokevirtual 154, 3) := by decide +kernel
theorem dX8_contract_111 : decode cX8_contract 111 = .ok (.ireturn, 1) := by decide +kernel
theorem dX8_price_0 : decode cX8_price 0 = .ok (.aload_n 0, 1) := by decide +kernel
theorem dX8_price_1 : decode cX8_price 1 = .ok (.getfield 19, 3) := by decide +kernel
theorem dX8_price_4 : decode cX8_price 4 = .ok (.iload_n 1, 1) := by decide +kernel
theorem dX8_price_5 : decode cX8_price 5 = .ok (.invokevirtual 126, 3) := by decide +kernel
theorem dX8_price_8 : decode cX8_price 8 = .ok (.astore 4, 2) := by decide +kernel
theorem dX8_price_10 : decode cX8_price 10 = .ok (.aload 4, 2) := by decide +kernel
theorem dX8_price_12 : decode cX8_price 12 = .ok (.ifnull 25, 3) := by decide +kernel
theorem dX8_price_15 : decode cX8_price 15 = .ok (.aload_n 0, 1) := by decide +kernel
theorem dX8_price_16 : decode cX8_price 16 = .ok (.getfield 19, 3) := by decide +kernel
theorem dX8_price_19 : decode cX8_price 19 = .ok (.aload 4, 2) := by decide +kernel
theorem dX8_price_21 : decode cX8_price 21 = .ok (.iload_n 2, 1) := by decide +kernel
theorem dX8_price_22 : decode cX8_price 22 = .ok (.invokevirtual 157, 3) := by decide +kernel
theorem dX8_price_25 : decode cX8_price 25 = .ok (.ifCond .eq 12, 3) := by decide +kernel
theorem dX8_price_28 : decode cX8_price 28 = .ok (.iload_n 3, 1) := by decide +kernel
theorem dX8_price_29 : decode cX8_price 29 = .ok (.ifCond .lt 8, 3) := by decide +kernel
theorem dX8_price_32 : decode cX8_price 32 = .ok (.iload_n 3, 1) := by decide +kernel
theorem dX8_price_33 : decode cX8_price 33 = .ok (.iconst 2, 1) := by decide +kernel
theorem dX8_price_34 : decode cX8_price 34 = .ok (.if_icmp .le 11, 3) := by decide +kernel
theorem dX8_price_37 : decode cX8_price 37 = .ok (.new 119, 3) := by decide +kernel
theorem dX8_price_40 : decode cX8_price 40 = .ok (.dup, 1) := by decide +kernel
theorem dX8_price_41 : decode cX8_price 41 = .ok (.invokespecial 121, 3) := by decide +kernel
theorem dX8_price_44 : decode cX8_price 44 = .ok (.athrow, 1) := by decide +kernel
theorem dX8_price_45 : decode cX8_price 45 = .ok (.aload_n 0, 1) := by decide +kernel
theorem dX8_price_46 : decode cX8_price 46 = .ok (.getfield 19, 3) := by decide +kernel
theorem dX8_price_49 : decode cX8_price 49 = .ok (.aload 4, 2) := by decide +kernel
theorem dX8_price_51 : decode cX8_price 51 = .ok (.iload_n 2, 1) := by decide +kernel
theorem dX8_price_52 : decode cX8_price 52 = .ok (.invokevirtual 161, 3) := by decide +kernel
theorem dX8_price_55 : decode cX8_price 55 = .ok (.istore 5, 2) := by decide +kernel
theorem dX8_price_57 : decode cX8_price 57 = .ok (.iload_n 3, 1) := by decide +kernel
theorem dX8_price_58 : decode cX8_price 58 = .ok (.ifCond .ne 6, 3) := by decide +kernel
theorem dX8_price_61 : decode cX8_price 61 = .ok (.iload 5, 2) := by decide +kernel
theorem dX8_price_63 : decode cX8_price 63 = .ok (.ireturn, 1) := by decide +kernel
theorem dX8_price_64 : decode cX8_price 64 = .ok (.aload 4, 2) := by decide +kernel
theorem dX8_price_66 : decode cX8_price 66 = .ok (.iload 5, 2) := by decide +kernel
theorem dX8_price_68 : decode cX8_price 68 = .ok (.invokevirtual 165, 3) := by decide +kernel
theorem dX8_price_71 : decode cX8_price 71 = .ok (.istore 6, 2) := by decide +kernel
theorem dX8_price_73 : decode cX8_price 73 = .ok (.iload_n 3, 1) := by decide +kernel
theorem dX8_price_74 : decode cX8_price 74 = .ok (.iconst 1, 1) := by decide +kernel
theorem dX8_price_75 : decode cX8_price 75 = .ok (.if_icmp .ne 8, 3) := by decide +kernel
theorem dX8_price_78 : decode cX8_price 78 = .ok (.iload 6, 2) := by decide +kernel
theorem dX8_price_80 : decode cX8_price 80 = .ok (.goto 10, 3) := by decide +kernel
theorem dX8_price_83 : decode cX8_price 83 = .ok (.aload 4, 2) := by decide +kernel
theorem dX8_price_85 : decode cX8_price 85 = .ok (.iload 6, 2) := by decide +kernel
theorem dX8_price_87 : decode cX8_price 87 = .ok (.invokevirtual 168, 3) := by decide +kernel
theorem dX8_price_90 : decode cX8_price 90 = .ok (.ireturn, 1) := by decide +kernel
theorem dX8_were_0 : decode cX8_were 0 = .ok (.aload_n 0, 1) := by decide +kernel
theorem dX8_were_1 : decode cX8_were 1 = .ok (.getfield 19, 3) := by decide +kernel
theorem dX8_were_4 : decode cX8_were 4 = .ok (.iload_n 1, 1) := by decide +kernel
theorem dX8_were_5 : decode cX8_were 5 = .ok (.invokevirtual 126, 3) := by decide +kernel
theorem dX8_were_8 : decode cX8_were 8 = .ok (.astore 4, 2) := by decide +kernel
theorem dX8_were_10 : decode cX8_were 10 = .ok (.aload_n 0, 1) := by decide +kernel
theorem dX8_were_11 : decode cX8_were 11 = .ok (.getfield 19, 3) := by decide +kernel
theorem dX8_were_14 : decode cX8_were 14 = .ok (.iload_n 2, 1) := by decide +kernel
theorem dX8_were_15 : decode cX8_were 15 = .ok (.invokevirtual 83, 3) := by decide +kernel
theorem dX8_were_18 : decode cX8_were 18 = .ok (.astore 5, 2) := by decide +kernel
theorem dX8_were_20 : decode cX8_were 20 = .ok (.aload 4, 2) := by decide +kernel
theorem dX8_were_22 : decode cX8_were 22 = .ok (.ifnull 15, 3) := by decide +kernel
theorem dX8_were_25 : decode cX8_were 25 = .ok (.aload 5, 2) := by decide +kernel
theorem dX8_were_27 : decode cX8_were 27 = .ok (.ifnull 10, 3) := by decide +kernel
theorem dX8_were_30 : decode cX8_were 30 = .ok (.iload_n 3, 1) := by decide +kernel
theorem dX8_were_31 : decode cX8_were 31 = .ok (.invokestatic 171, 3) := by decide +kernel
theorem dX8_were_34 : decode cX8_were 34 = .ok (.ifCond .ne 5, 3) := by decide +kernel
theorem dX8_were_37 : decode cX8_were 37 = .ok (.iconst (-1), 1) := by decide +kernel
theorem dX8_were_38 : decode cX8_were 38 = .ok (.ireturn, 1) := by decide +kernel
theorem dX8_were_39 : decode cX8_were 39 = .ok (.aload_n 0, 1) := by decide +kernel
theorem dX8_were_40 : decode cX8_were 40 = .ok (.getfield 19, 3) := by decide +kernel
theorem dX8_were_43 : decode cX8_were 43 = .ok (.aload 4, 2) := by decide +kernel
theorem dX8_were_45 : decode cX8_were 45 = .ok (.aload 5, 2) := by decide +kernel
theorem dX8_were_47 : decode cX8_were 47 = .ok (.iload_n 3, 1) := by decide +kernel
theorem dX8_were_48 : decode cX8_were 48 = .ok (.invokevirtual 174, 3) := by decide +kernel
theorem dX8_were_51 : decode cX8_were 51 = .ok (.ireturn, 1) := by decide +kernel
theorem dX8_rises_0 : decode cX8_rises 0 = .ok (.aload_n 0, 1) := by decide +kernel
theorem dX8_rises_1 : decode cX8_rises 1 = .ok (.getfield 19, 3) := by decide +kernel
theorem dX8_rises_4 : decode cX8_rises 4 = .ok (.iload_n 1, 1) := by decide +kernel
theorem dX8_rises_5 : decode cX8_rises 5 = .ok (.invokevirtual 126, 3) := by decide +kernel
theorem dX8_rises_8 : decode cX8_rises 8 = .ok (.astore_n 3, 1) := by decide +kernel
theorem dX8_rises_9 : decode cX8_rises 9 = .ok (.aload_n 0, 1) := by decide +kernel
theorem dX8_rises_10 : decode cX8_rises 10 = .ok (.getfield 19, 3) := by decide +kernel
theorem dX8_rises_13 : decode cX8_rises 13 = .ok (.iload_n 2, 1) := by decide +kernel
theorem dX8_rises_14 : decode cX8_rises 14 = .ok (.invokevirtual 83, 3) := by decide +kernel
theorem dX8_rises_17 : decode cX8_rises 17 = .ok (.astore 4, 2) := by decide +kernel
theorem dX8_rises_19 : decode cX8_rises 19 = .ok (.aload_n 3, 1) := by decide +kernel
theorem dX8_rises_20 : decode cX8_rises 20 = .ok (.ifnull 8, 3) := by decide +kernel
theorem dX8_rises_23 : decode cX8_rises 23 = .ok (.aload 4, 2) := by decide +kernel
theorem dX8_rises_25 : decode cX8_rises 25 = .ok (.ifnonnull 5, 3) := by decide +kernel
theorem dX8_rises_28 : decode cX8_rises 28 = .ok (.iconst (-1), 1) := by decide +kernel
theorem dX8_rises_29 : decode cX8_rises 29 = .ok (.ireturn, 1) := by decide +kernel
theorem dX8_rises_30 : decode cX8_rises 30 = .ok (.aload_n 0, 1) := by decide +kernel
theorem dX8_rises_31 : decode cX8_rises 31 = .ok (.getfield 19, 3) := by decide +kernel
theorem dX8_rises_34 : decode cX8_rises 34 = .ok (.aload_n 3, 1) := by decide +kernel
theorem dX8_rises_35 : decode cX8_rises 35 = .ok (.aload 4, 2) := by decide +kernel
theorem dX8_rises_37 : decode cX8_rises 37 = .ok (.sipush 999, 3) := by decide +kernel
theorem dX8_rises_40 : decode cX8_rises 40 = .ok (.invokevirtual 174, 3) := by decide +kernel
theorem dX8_rises_43 : decode cX8_rises 43 = .ok (.aload_n 3, 1) := by decide +kernel
theorem dX8_rises_44 : decode cX8_rises 44 = .ok (.getfield 130, 3) := by decide +kernel
theorem dX8_rises_47 : decode cX8_rises 47 = .ok (.if_icmp .gt 6, 3) := by decide +kernel
theorem dX8_rises_50 : decode cX8_rises 50 = .ok (.bipush (-2), 2) := by decide +kernel
theorem dX8_rises_52 : decode cX8_rises 52 = .ok (.ireturn, 1) := by decide +kernel
theorem dX8_rises_53 : decode cX8_rises 53 = .ok (.iconst 1, 1) := by decide +kernel
theorem dX8_rises_54 : decode cX8_rises 54 = .ok (.istore 5, 2) := by decide +kernel
theorem dX8_rises_56 : decode cX8_rises 56 = .ok (.sipush 999, 3) := by decide +kernel
theorem dX8_rises_59 : decode cX8_rises 59 = .ok (.istore 6, 2) := by decide +kernel
theorem dX8_rises_61 : decode cX8_rises 61 = .ok (.iconst 0, 1) := by decide +kernel
theorem dX8_rises_62 : decode cX8_rises 62 = .ok (.istore 7, 2) := by decide +kernel
theorem dX8_rises_64 : decode cX8_rises 64 = .ok (.iload 7, 2) := by decide +kernel
theorem dX8_rises_66 : decode cX8_rises 66 = .ok (.bipush 10, 2) := by decide +kernel
theorem dX8_rises_68 : decode cX8_rises 68 = .ok (.if_icmp .ge 57, 3) := by decide +kernel
theorem dX8_rises_71 : decode cX8_rises 71 = .ok (.iload 5, 2) := by decide +kernel
theorem dX8_rises_73 : decode cX8_rises 73 = .ok (.iload 6, 2) := by decide +kernel
theorem dX8_rises_75 : decode cX8_rises 75 = .ok (.if_icmp .ge 50, 3) := by decide +kernel
theorem dX8_rises_78 : decode cX8_rises 78 = .ok (.iload 5, 2) := by decide +kernel
theorem dX8_rises_80 : decode cX8_rises 80 = .ok (.iload 6, 2) := by decide +kernel
theorem dX8_rises_82 : decode cX8_rises 82 = .ok (.iadd, 1) := by decide +kernel
theorem dX8_rises_83 : decode cX8_rises 83 = .ok (.iconst 2, 1) := by decide +kernel
theorem dX8_rises_84 : decode cX8_rises 84 = .ok (.idiv, 1) := by decide +kernel
theorem dX8_rises_85 : decode cX8_rises 85 = .ok (.istore 8, 2) := by decide +kernel
theorem dX8_rises_87 : decode cX8_rises 87 = .ok (.aload_n 0, 1) := by decide +kernel
theorem dX8_rises_88 : decode cX8_rises 88 = .ok (.getfield 19, 3) := by decide +kernel
theorem dX8_rises_91 : decode cX8_rises 91 = .ok (.aload_n 3, 1) := by decide +kernel
theorem dX8_rises_92 : decode cX8_rises 92 = .ok (.aload 4, 2) := by decide +kernel
theorem dX8_rises_94 : decode cX8_rises 94 = .ok (.iload 8, 2) := by decide +kernel
theorem dX8_rises_96 : decode cX8_rises 96 = .ok (.invokevirtual 174, 3) := by decide +kernel
theorem dX8_rises_99 : decode cX8_rises 99 = .ok (.aload_n 3, 1) := by decide +kernel
theorem dX8_rises_100 : decode cX8_rises 100 = .ok (.getfield 130, 3) := by decide +kernel
theorem dX8_rises_103 : decode cX8_rises 103 = .ok (.if_icmp .le 10, 3) := by decide +kernel
theorem dX8_rises_106 : decode cX8_rises 106 = .ok (.iload 8, 2) := by decide +kernel
theorem dX8_rises_108 : decode cX8_rises 108 = .ok (.istore 6, 2) := by decide +kernel
theorem dX8_rises_110 : decode cX8_rises 110 = .ok (.goto 9, 3) := by decide +kernel
theorem dX8_rises_113 : decode cX8_rises 113 = .ok (.iload 8, 2) := by decide +kernel
theorem dX8_rises_115 : decode cX8_rises 115 = .ok (.iconst 1, 1) := by decide +kernel
theorem dX8_rises_116 : decode cX8_rises 116 = .ok (.iadd, 1) := by decide +kernel
theorem dX8_rises_117 : decode cX8_rises 117 = .ok (.istore 5, 2) := by decide +kernel
theorem dX8_rises_119 : decode cX8_rises 119 = .ok (.iinc 7 1, 3) := by decide +kernel
theorem dX8_rises_122 : decode cX8_rises 122 = .ok (.goto (-58), 3) := by decide +kernel
theorem dX8_rises_125 : decode cX8_rises 125 = .ok (.iload 6, 2) := by decide +kernel
theorem dX8_rises_127 : decode cX8_rises 127 = .ok (.ireturn, 1) := by decide +kernel
theorem dX8_delivery_0 : decode cX8_delivery 0 = .ok (.aload_n 0, 1) := by decide +kernel
theorem dX8_delivery_1 : decode cX8_delivery 1 = .ok (.getfield 26, 3) := by decide +kernel
theorem dX8_delivery_4 : decode cX8_delivery 4 = .ok (.iload_n 1, 1) := by decide +kernel
theorem dX8_delivery_5 : decode cX8_delivery 5 = .ok (.invokevirtual 178, 3) := by decide +kernel
theorem dX8_delivery_8 : decode cX8_delivery 8 = .ok (.astore_n 3, 1) := by decide +kernel
theorem dX8_delivery_9 : decode cX8_delivery 9 = .ok (.aload_n 3, 1) := by decide +kernel
theorem dX8_delivery_10 : decode cX8_delivery 10 = .ok (.ifnonnull 5, 3) := by decide +kernel
theorem dX8_delivery_13 : decode cX8_delivery 13 = .ok (.iconst (-1), 1) := by decide +kernel
theorem dX8_delivery_14 : decode cX8_delivery 14 = .ok (.ireturn, 1) := by decide +kernel
theorem dX8_delivery_15 : decode cX8_delivery 15 = .ok (.iload_n 2, 1) := by decide +kernel
theorem dX8_delivery_16 : decode cX8_delivery 16 = .ok (.tableswitch 127 0 8 #[52, 57, 62, 67, 72, 77, 82, 95, 100], 52) := by decide +kernel
theorem dX8_delivery_68 : decode cX8_delivery 68 = .ok (.aload_n 3, 1) := by decide +kernel
theorem dX8_delivery_69 : decode cX8_delivery 69 = .ok (.getfield 182, 3) := by decide +kernel
theorem dX8_delivery_72 : decode cX8_delivery 72 = .ok (.ireturn, 1) := by decide +kernel
theorem dX8_delivery_73 : decode cX8_delivery 73 = .ok (.aload_n 3, 1) := by decide +kernel
theorem dX8_delivery_74 : decode cX8_delivery 74 = .ok (.getfield 187, 3) := by decide +kernel
theorem dX8_delivery_77 : decode cX8_delivery 77 = .ok (.ireturn, 1) := by decide +kernel
theorem dX8_delivery_78 : decode cX8_delivery 78 = .ok (.aload_n 3, 1) := by decide +kernel
theorem dX8_delivery_79 : decode cX8_delivery 79 = .ok (.getfield 190, 3) := by decide +kernel
theorem dX8_delivery_82 : decode cX8_delivery 82 = .ok (.ireturn, 1) := by decide +kernel
theorem dX8_delivery_83 : decode cX8_delivery 83 = .ok (.aload_n 3, 1) := by decide +kernel
theorem dX8_delivery_84 : decode cX8_delivery 84 = .ok (.getfield 193, 3) := by decide +kernel
theorem dX8_delivery_87 : decode cX8_delivery 87 = .ok (.ireturn, 1) := by decide +kernel
theorem dX8_delivery_88 : decode cX8_delivery 88 = .ok (.aload_n 3, 1) := by decide +kernel
theorem dX8_delivery_89 : decode cX8_delivery 89 = .ok (.getfield 196, 3) := by decide +kernel
theorem dX8_delivery_92 : decode cX8_delivery 92 = .ok (.ireturn, 1) := by decide +kernel
theorem dX8_delivery_93 : decode cX8_delivery 93 = .ok (.aload_n 3, 1) := by decide +kernel
theorem dX8_delivery_94 : decode cX8_delivery 94 = .ok (.getfield 199, 3) := by decide +kernel
theorem dX8_delivery_97 : decode cX8_delivery 97 = .ok (.ireturn, 1) := by decide +kernel
theorem dX8_delivery_98 : decode cX8_delivery 98 = .ok (.aload_n 3, 1) := by decide +kernel
theorem dX8_delivery_99 : decode cX8_delivery 99 = .ok (.invokevirtual 200, 3) := by decide +kernel
theorem dX8_delivery_102 : decode cX8_delivery 102 = .ok (.ifCond .eq 7, 3) := by decide +kernel
theorem dX8_delivery_105 : decode cX8_delivery 105 = .ok (.iconst 1, 1) := by decide +kernel
theorem dX8_delivery_106 : decode cX8_delivery 106 = .ok (.goto 4, 3) := by decide +kernel
theorem dX8_delivery_109 : decode cX8_delivery 109 = .ok (.iconst 0, 1) := by decide +kernel
theorem dX8_delivery_110 : decode cX8_delivery 110 = .ok (.ireturn, 1) := by decide +kernel
theorem dX8_delivery_111 : decode cX8_delivery 111 = .ok (.aload_n 3, 1) := by decide +kernel
theorem dX8_delivery_112 : decode cX8_delivery 112 = .ok (.getfield 204, 3) := by decide +kernel
theorem dX8_delivery_115 : decode cX8_delivery 115 = .ok (.ireturn, 1) := by decide +kernel
theorem dX8_delivery_116 : decode cX8_delivery 116 = .ok (.aload_n 3, 1) := by decide +kernel
theorem dX8_delivery_117 : decode cX8_delivery 117 = .ok (.invokevirtual 200, 3) := by decide +kernel
theorem dX8_delivery_120 : decode cX8_delivery 120 = .ok (.ifCond .eq 7, 3) := by decide +kernel
theorem dX8_delivery_123 : decode cX8_delivery 123 = .ok (.iconst 0, 1) := by decide +kernel
theorem dX8_delivery_124 : decode cX8_delivery 124 = .ok (.goto 18, 3) := by decide +kernel
theorem dX8_delivery_127 : decode cX8_delivery 127 = .ok (.aload_n 0, 1) := by decide +kernel
theorem dX8_delivery_128 : decode cX8_delivery 128 = .ok (.getfield 19, 3) := by decide +kernel
theorem dX8_delivery_131 : decode cX8_delivery 131 = .ok (.aload_n 3, 1) := by decide +kernel
theorem dX8_delivery_132 : decode cX8_delivery 132 = .ok (.getfield 182, 3) := by decide +kernel
theorem dX8_delivery_135 : decode cX8_delivery 135 = .ok (.aload_n 3, 1) := by decide +kernel
theorem dX8_delivery_136 : decode cX8_delivery 136 = .ok (.getfield 196, 3) := by decide +kernel
theorem dX8_delivery_139 : decode cX8_delivery 139 = .ok (.invokevirtual 207, 3) := by decide +kernel
theorem dX8_delivery_142 : decode cX8_delivery 142 = .ok (.ireturn, 1) := by decide +kernel
theorem dX8_delivery_143 : decode cX8_delivery 143 = .ok (.iconst (-1), 1) := by decide +kernel
theorem dX8_delivery_144 : decode cX8_delivery 144 = .ok (.ireturn, 1) := by decide +kernel
theorem dX8_amount_0 : decode cX8_amount 0 = .ok (.aload_n 0, 1) := by decide +kernel
theorem dX8_amount_1 : decode cX8_amount 1 = .ok (.getfield 26, 3) := by decide +kernel
theorem dX8_amount_4 : decode cX8_amount 4 = .ok (.iload_n 1, 1) := by decide +kernel
theorem dX8_amount_5 : decode cX8_amount 5 = .ok (.invokevirtual 178, 3) := by decide +kernel
theorem dX8_amount_8 : decode cX8_amount 8 = .ok (.astore_n 3, 1) := by decide +kernel
theorem dX8_amount_9 : decode cX8_amount 9 = .ok (.aload_n 3, 1) := by decide +kernel
theorem dX8_amount_10 : decode cX8_amount 10 = .ok (.ifnull 12, 3) := by decide +kernel
theorem dX8_amount_13 : decode cX8_amount 13 = .ok (.iload_n 2, 1) := by decide +kernel
theorem dX8_amount_14 : decode cX8_amount 14 = .ok (.ifCond .lt 8, 3) := by decide +kernel
theorem dX8_amount_17 : decode cX8_amount 17 = .ok (.iload_n 2, 1) := by decide +kernel
theorem dX8_amount_18 : decode cX8_amount 18 = .ok (.iconst 2, 1) := by decide +kernel
theorem dX8_amount_19 : decode cX8_amount 19 = .ok (.if_icmp .le 11, 3) := by decide +kernel
theorem dX8_amount_22 : decode cX8_amount 22 = .ok (.new 119, 3) := by decide +kernel
theorem dX8_amount_25 : decode cX8_amount 25 = .ok (.dup, 1) := by decide +kernel
theorem dX8_amount_26 : decode cX8_amount 26 = .ok (.invokespecial 121, 3) := by decide +kernel
theorem dX8_amount_29 : decode cX8_amount 29 = .ok (.athrow, 1) := by decide +kernel
theorem dX8_amount_30 : decode cX8_amount 30 = .ok (.iload_n 2, 1) := by decide +kernel
theorem dX8_amount_31 : decode cX8_amount 31 = .ok (.ifCond .ne 8, 3) := by decide +kernel
theorem dX8_amount_34 : decode cX8_amount 34 = .ok (.aload_n 3, 1) := by decide +kernel
theorem dX8_amount_35 : decode cX8_amount 35 = .ok (.invokevirtual 210, 3) := by decide +kernel
theorem dX8_amount_38 : decode cX8_amount 38 = .ok (.lreturn, 1) := by decide +kernel
theorem dX8_amount_39 : decode cX8_amount 39 = .ok (.iload_n 2, 1) := by decide +kernel
theorem dX8_amount_40 : decode cX8_amount 40 = .ok (.iconst 1, 1) := by decide +kernel
theorem dX8_amount_41 : decode cX8_amount 41 = .ok (.if_icmp .ne 10, 3) := by decide +kernel
theorem dX8_amount_44 : decode cX8_amount 44 = .ok (.aload_n 3, 1) := by decide +kernel
theorem dX8_amount_45 : decode cX8_amount 45 = .ok (.getfield 214, 3) := by decide +kernel
theorem dX8_amount_48 : decode cX8_amount 48 = .ok (.goto 12, 3) := by decide +kernel
theorem dX8_amount_51 : decode cX8_amount 51 = .ok (.aload_n 3, 1) := by decide +kernel
theorem dX8_amount_52 : decode cX8_amount 52 = .ok (.invokevirtual 210, 3) := by decide +kernel
theorem dX8_amount_55 : decode cX8_amount 55 = .ok (.aload_n 3, 1) := by decide +kernel
theorem dX8_amount_56 : decode cX8_amount 56 = .ok (.getfield 214, 3) := by decide +kernel
theorem dX8_amount_59 : decode cX8_amount 59 = .ok (.ladd, 1) := by decide +kernel
theorem dX8_amount_60 : decode cX8_amount 60 = .ok (.lreturn, 1) := by decide +kernel
theorem dX8_statement_0 : decode cX8_statement 0 = .ok (.iload_n 1, 1) := by decide +kernel
theorem dX8_statement_1 : decode cX8_statement 1 = .ok (.invokestatic 87, 3) := by decide +kernel
theorem dX8_statement_4 : decode cX8_statement 4 = .ok (.ifCond .eq 12, 3) := by decide +kernel
theorem dX8_statement_7 : decode cX8_statement 7 = .ok (.iload_n 2, 1) := by decide +kernel
theorem dX8_statement_8 : decode cX8_statement 8 = .ok (.ifCond .lt 8, 3) := by decide +kernel
theorem dX8_statement_11 : decode cX8_statement 11 = .ok (.iload_n 2, 1) := by decide +kernel
theorem dX8_statement_12 : decode cX8_statement 12 = .ok (.iconst 3, 1) := by decide +kernel
theorem dX8_statement_13 : decode cX8_statement 13 = .ok (.if_icmp .le 11, 3) := by decide +kernel
theorem dX8_statement_16 : decode cX8_statement 16 = .ok (.new 119, 3) := by decide +kernel
theorem dX8_statement_19 : decode cX8_statement 19 = .ok (.dup, 1) := by decide +kernel
theorem dX8_statement_20 : decode cX8_statement 20 = .ok (.invokespecial 121, 3) := by decide +kernel
theorem dX8_statement_23 : decode cX8_statement 23 = .ok (.athrow, 1) := by decide +kernel
theorem dX8_statement_24 : decode cX8_statement 24 = .ok (.iload_n 2, 1) := by decide +kernel
theorem dX8_statement_25 : decode cX8_statement 25 = .ok (.ifCond .ne 13, 3) := by decide +kernel
theorem dX8_statement_28 : decode cX8_statement 28 = .ok (.aload_n 0, 1) := by decide +kernel
theorem dX8_statement_29 : decode cX8_statement 29 = .ok (.getfield 26, 3) := by decide +kernel
theorem dX8_statement_32 : decode cX8_statement 32 = .ok (.iload_n 1, 1) := by decide +kernel
theorem dX8_statement_33 : decode cX8_statement 33 = .ok (.iload_n 1, 1) := by decide +kernel
theorem dX8_statement_34 : decode cX8_statement 34 = .ok (.invokevirtual 218, 3) := by decide +kernel
theorem dX8_statement_37 : decode cX8_statement 37 = .ok (.lreturn, 1) := by decide +kernel
theorem dX8_statement_38 : decode cX8_statement 38 = .ok (.iload_n 2, 1) := by decide +kernel
theorem dX8_statement_39 : decode cX8_statement 39 = .ok (.iconst 1, 1) := by decide +kernel
theorem dX8_statement_40 : decode cX8_statement 40 = .ok (.if_icmp .ne 13, 3) := by decide +kernel
theorem dX8_statement_43 : decode cX8_statement 43 = .ok (.aload_n 0, 1) := by decide +kernel
theorem dX8_statement_44 : decode cX8_statement 44 = .ok (.getfield 26, 3) := by decide +kernel
theorem dX8_statement_47 : decode cX8_statement 47 = .ok (.iload_n 1, 1) := by decide +kernel
theorem dX8_statement_48 : decode cX8_statement 48 = .ok (.iload_n 1, 1) := by decide +kernel
theorem dX8_statement_49 : decode cX8_statement 49 = .ok (.invokevirtual 222, 3) := by decide +kernel
theorem dX8_statement_52 : decode cX8_statement 52 = .ok (.lreturn, 1) := by decide +kernel
theorem dX8_statement_53 : decode cX8_statement 53 = .ok (.iload_n 2, 1) := by decide +kernel
theorem dX8_statement_54 : decode cX8_statement 54 = .ok (.iconst 2, 1) := by decide +kernel
theorem dX8_statement_55 : decode cX8_statement 55 = .ok (.if_icmp .ne 7, 3) := by decide +kernel
theorem dX8_statement_58 : decode cX8_statement 58 = .ok (.iload_n 1, 1) := by decide +kernel
theorem dX8_statement_59 : decode cX8_statement 59 = .ok (.goto 4, 3) := by decide +kernel
theorem dX8_statement_62 : decode cX8_statement 62 = .ok (.iconst 0, 1) := by decide +kernel
theorem dX8_statement_63 : decode cX8_statement 63 = .ok (.istore_n 3, 1) := by decide +kernel
theorem dX8_statement_64 : decode cX8_statement 64 = .ok (.aload_n 0, 1) := by decide +kernel
theorem dX8_statement_65 : decode cX8_statement 65 = .ok (.getfield 26, 3) := by decide +kernel
theorem dX8_statement_68 : decode cX8_statement 68 = .ok (.iload_n 3, 1) := by decide +kernel
theorem dX8_statement_69 : decode cX8_statement 69 = .ok (.iload_n 1, 1) := by decide +kernel
theorem dX8_statement_70 : decode cX8_statement 70 = .ok (.invokevirtual 218, 3) := by decide +kernel
theorem dX8_statement_73 : decode cX8_statement 73 = .ok (.aload_n 0, 1) := by decide +kernel
theorem dX8_statement_74 : decode cX8_statement 74 = .ok (.getfield 26, 3) := by decide +kernel
theorem dX8_statement_77 : decode cX8_statement 77 = .ok (.iload_n 3, 1) := by decide +kernel
theorem dX8_statement_78 : decode cX8_statement 78 = .ok (.iload_n 1, 1) := by decide +kernel
theorem dX8_statement_79 : decode cX8_statement 79 = .ok (.invokevirtual 222, 3) := by decide +kernel
theorem dX8_statement_82 : decode cX8_statement 82 = .ok (.ladd, 1) := by decide +kernel
theorem dX8_statement_83 : decode cX8_statement 83 = .ok (.lreturn, 1) := by decide +kernel
theorem dX8_publish_0 : decode cX8_publish 0 = .ok (.aload_n 0, 1) := by decide +kernel
theorem dX8_publish_1 : decode cX8_publish 1 = .ok (.getfield 19, 3) := by decide +kernel
theorem dX8_publish_4 : decode cX8_publish 4 = .ok (.iload_n 1, 1) := by decide +kernel
theorem dX8_publish_5 : decode cX8_publish 5 = .ok (.invokevirtual 83, 3) := by decide +kernel
theorem dX8_publish_8 : decode cX8_publish 8 = .ok (.astore 5, 2) := by decide +kernel
theorem dX8_publish_10 : decode cX8_publish 10 = .ok (.aload 5, 2) := by decide +kernel
theorem dX8_publish_12 : decode cX8_publish 12 = .ok (.ifnull 21, 3) := by decide +kernel
theorem dX8_publish_15 : decode cX8_publish 15 = .ok (.aload_n 0, 1) := by decide +kernel
theorem dX8_publish_16 : decode cX8_publish 16 = .ok (.getfield 19, 3) := by decide +kernel
theorem dX8_publish_19 : decode cX8_publish 19 = .ok (.iload_n 2, 1) := by decide +kernel
theorem dX8_publish_20 : decode cX8_publish 20 = .ok (.invokevirtual 225, 3) := by decide +kernel
theorem dX8_publish_23 : decode cX8_publish 23 = .ok (.ifCond .eq 10, 3) := by decide +kernel
theorem dX8_publish_26 : decode cX8_publish 26 = .ok (.iload_n 3, 1) := by decide +kernel
theorem dX8_publish_27 : decode cX8_publish 27 = .ok (.invokestatic 171, 3) := by decide +kernel
theorem dX8_publish_30 : decode cX8_publish 30 = .ok (.ifCond .ne 5, 3) := by decide +kernel
theorem dX8_publish_33 : decode cX8_publish 33 = .ok (.iconst (-1), 1) := by decide +kernel
theorem dX8_publish_34 : decode cX8_publish 34 = .ok (.ireturn, 1) := by decide +kernel
theorem dX8_publish_35 : decode cX8_publish 35 = .ok (.aload 5, 2) := by decide +kernel
theorem dX8_publish_37 : decode cX8_publish 37 = .ok (.iload_n 2, 1) := by decide +kernel
theorem dX8_publish_38 : decode cX8_publish 38 = .ok (.invokevirtual 97, 3) := by decide +kernel
theorem dX8_publish_41 : decode cX8_publish 41 = .ok (.istore 6, 2) := by decide +kernel
theorem dX8_publish_43 : decode cX8_publish 43 = .ok (.iload 6, 2) := by decide +kernel
theorem dX8_publish_45 : decode cX8_publish 45 = .ok (.iconst 2, 1) := by decide +kernel
theorem dX8_publish_46 : decode cX8_publish 46 = .ok (.if_icmp .ne 6, 3) := by decide +kernel
theorem dX8_publish_49 : decode cX8_publish 49 = .ok (.bipush (-2), 2) := by decide +kernel
theorem dX8_publish_51 : decode cX8_publish 51 = .ok (.ireturn, 1) := by decide +kernel
theorem dX8_publish_52 : decode cX8_publish 52 = .ok (.aload 5, 2) := by decide +kernel
theorem dX8_publish_54 : decode cX8_publish 54 = .ok (.invokevirtual 228, 3) := by decide +kernel
theorem dX8_publish_57 : decode cX8_publish 57 = .ok (.iload_n 2, 1) := by decide +kernel
theorem dX8_publish_58 : decode cX8_publish 58 = .ok (.if_icmp .lt 6, 3) := by decide +kernel
theorem dX8_publish_61 : decode cX8_publish 61 = .ok (.bipush (-3), 2) := by decide +kernel
theorem dX8_publish_63 : decode cX8_publish 63 = .ok (.ireturn, 1) := by decide +kernel
theorem dX8_publish_64 : decode cX8_publish 64 = .ok (.iload 6, 2) := by decide +kernel
theorem dX8_publish_66 : decode cX8_publish 66 = .ok (.ifCond .ne 7, 3) := by decide +kernel
theorem dX8_publish_69 : decode cX8_publish 69 = .ok (.iconst 0, 1) := by decide +kernel
theorem dX8_publish_70 : decode cX8_publish 70 = .ok (.goto 9, 3) := by decide +kernel
theorem dX8_publish_73 : decode cX8_publish 73 = .ok (.aload 5, 2) := by decide +kernel
theorem dX8_publish_75 : decode cX8_publish 75 = .ok (.iload_n 2, 1) := by decide +kernel
theorem dX8_publish_76 : decode cX8_publish 76 = .ok (.invokevirtual 91, 3) := by decide +kernel
theorem dX8_publish_79 : decode cX8_publish 79 = .ok (.istore 7, 2) := by decide +kernel
theorem dX8_publish_81 : decode cX8_publish 81 = .ok (.aload_n 0, 1) := by decide +kernel
theorem dX8_publish_82 : decode cX8_publish 82 = .ok (.getfield 33, 3) := by decide +kernel
theorem dX8_publish_85 : decode cX8_publish 85 = .ok (.iconst 0, 1) := by decide +kernel
theorem dX8_publish_86 : decode cX8_publish 86 = .ok (.iload_n 1, 1) := by decide +kernel
theorem dX8_publish_87 : decode cX8_publish 87 = .ok (.iload_n 2, 1) := by decide +kernel
theorem dX8_publish_88 : decode cX8_publish 88 = .ok (.iload 7, 2) := by decide +kernel
theorem dX8_publish_90 : decode cX8_publish 90 = .ok (.iload 6, 2) := by decide +kernel
theorem dX8_publish_92 : decode cX8_publish 92 = .ok (.invokevirtual 231, 3) := by decide +kernel
theorem dX8_publish_95 : decode cX8_publish 95 = .ok (.aload 5, 2) := by decide +kernel
theorem dX8_publish_97 : decode cX8_publish 97 = .ok (.iload_n 2, 1) := by decide +kernel
theorem dX8_publish_98 : decode cX8_publish 98 = .ok (.iload_n 3, 1) := by decide +kernel
theorem dX8_publish_99 : decode cX8_publish 99 = .ok (.iload 4, 2) := by decide +kernel
theorem dX8_publish_101 : decode cX8_publish 101 = .ok (.ifCond .eq 7, 3) := by decide +kernel
theorem dX8_publish_104 : decode cX8_publish 104 = .ok (.iconst 2, 1) := by decide +kernel
theorem dX8_publish_105 : decode cX8_publish 105 = .ok (.goto 4, 3) := by decide +kernel
theorem dX8_publish_108 : decode cX8_publish 108 = .ok (.iconst 1, 1) := by decide +kernel
theorem dX8_publish_109 : decode cX8_publish 109 = .ok (.invokevirtual 235, 3) := by decide +kernel
theorem dX8_publish_112 : decode cX8_publish 112 = .ok (.iload 7, 2) := by decide +kernel
theorem dX8_publish_114 : decode cX8_publish 114 = .ok (.ireturn, 1) := by decide +kernel
theorem dX8_rebase_0 : decode cX8_rebase 0 = .ok (.aload_n 0, 1) := by decide +kernel
theorem dX8_rebase_1 : decode cX8_rebase 1 = .ok (.getfield 19, 3) := by decide +kernel
theorem dX8_rebase_4 : decode cX8_rebase 4 = .ok (.iload_n 1, 1) := by decide +kernel
theorem dX8_rebase_5 : decode cX8_rebase 5 = .ok (.invokevirtual 83, 3) := by decide +kernel
theorem dX8_rebase_8 : decode cX8_rebase 8 = .ok (.astore 4, 2) := by decide +kernel
theorem dX8_rebase_10 : decode cX8_rebase 10 = .ok (.aload 4, 2) := by decide +kernel
theorem dX8_rebase_12 : decode cX8_rebase 12 = .ok (.ifnull 21, 3) := by decide +kernel
theorem dX8_rebase_15 : decode cX8_rebase 15 = .ok (.aload_n 0, 1) := by decide +kernel
theorem dX8_rebase_16 : decode cX8_rebase 16 = .ok (.getfield 19, 3) := by decide +kernel
theorem dX8_rebase_19 : decode cX8_rebase 19 = .ok (.iload_n 2, 1) := by decide +kernel
theorem dX8_rebase_20 : decode cX8_rebase 20 = .ok (.invokevirtual 225, 3) := by decide +kernel
theorem dX8_rebase_23 : decode cX8_rebase 23 = .ok (.ifCond .eq 10, 3) := by decide +kernel
theorem dX8_rebase_26 : decode cX8_rebase 26 = .ok (.iload_n 3, 1) := by decide +kernel
theorem dX8_rebase_27 : decode cX8_rebase 27 = .ok (.invokestatic 171, 3) := by decide +kernel
theorem dX8_rebase_30 : decode cX8_rebase 30 = .ok (.ifCond .ne 5, 3) := by decide +kernel
theorem dX8_rebase_33 : decode cX8_rebase 33 = .ok (.iconst (-1), 1) := by decide +kernel
theorem dX8_rebase_34 : decode cX8_rebase 34 = .ok (.ireturn, 1) := by decide +kernel
theorem dX8_rebase_35 : decode cX8_rebase 35 = .ok (.aload 4, 2) := by decide +kernel
theorem dX8_rebase_37 : decode cX8_rebase 37 = .ok (.iload_n 2, 1) := by decide +kernel
theorem dX8_rebase_38 : decode cX8_rebase 38 = .ok (.invokevirtual 97, 3) := by decide +kernel
theorem dX8_rebase_41 : decode cX8_rebase 41 = .ok (.iconst 2, 1) := by decide +kernel
theorem dX8_rebase_42 : decode cX8_rebase 42 = .ok (.if_icmp .eq 6, 3) := by decide +kernel
theorem dX8_rebase_45 : decode cX8_rebase 45 = .ok (.bipush (-2), 2) := by decide +kernel
theorem dX8_rebase_47 : decode cX8_rebase 47 = .ok (.ireturn, 1) := by decide +kernel
theorem dX8_rebase_48 : decode cX8_rebase 48 = .ok (.aload 4, 2) := by decide +kernel
theorem dX8_rebase_50 : decode cX8_rebase 50 = .ok (.invokevirtual 228, 3) := by decide +kernel
theorem dX8_rebase_53 : decode cX8_rebase 53 = .ok (.iload_n 2, 1) := by decide +kernel
theorem dX8_rebase_54 : decode cX8_rebase 54 = .ok (.if_icmp .ge 14, 3) := by decide +kernel
theorem dX8_rebase_57 : decode cX8_rebase 57 = .ok (.aload 4, 2) := by decide +kernel
theorem dX8_rebase_59 : decode cX8_rebase 59 = .ok (.bipush 35, 2) := by decide +kernel
theorem dX8_rebase_61 : decode cX8_rebase 61 = .ok (.invokevirtual 100, 3) := by decide +kernel
theorem dX8_rebase_64 : decode cX8_rebase 64 = .ok (.iload_n 2, 1) := by decide +kernel
theorem dX8_rebase_65 : decode cX8_rebase 65 = .ok (.if_icmp .le 6, 3) := by decide +kernel
theorem dX8_rebase_68 : decode cX8_rebase 68 = .ok (.bipush (-3), 2) := by decide +kernel
theorem dX8_rebase_70 : decode cX8_rebase 70 = .ok (.ireturn, 1) := by decide +kernel
theorem dX8_rebase_71 : decode cX8_rebase 71 = .ok (.aload 4, 2) := by decide +kernel
theorem dX8_rebase_73 : decode cX8_rebase 73 = .ok (.getfield 239, 3) := by decide +kernel
theorem dX8_rebase_76 : decode cX8_rebase 76 = .ok (.iconst 3, 1) := by decide +kernel
theorem dX8_rebase_77 : decode cX8_rebase 77 = .ok (.if_icmp .lt 6, 3) := by decide +kernel
theorem dX8_rebase_80 : decode cX8_rebase 80 = .ok (.bipush (-4), 2) := by decide +kernel
theorem dX8_rebase_82 : decode cX8_rebase 82 = .ok (.ireturn, 1) := by decide +kernel
theorem dX8_rebase_83 : decode cX8_rebase 83 = .ok (.aload 4, 2) := by decide +kernel
theorem dX8_rebase_85 : decode cX8_rebase 85 = .ok (.iload_n 2, 1) := by decide +kernel
theorem dX8_rebase_86 : decode cX8_rebase 86 = .ok (.iload_n 3, 1) := by decide +kernel
theorem dX8_rebase_87 : decode cX8_rebase 87 = .ok (.invokevirtual 242, 3) := by decide +kernel
theorem dX8_rebase_90 : decode cX8_rebase 90 = .ok (.aload_n 0, 1) := by decide +kernel
theorem dX8_rebase_91 : decode cX8_rebase 91 = .ok (.getfield 33, 3) := by decide +kernel
theorem dX8_rebase_94 : decode cX8_rebase 94 = .ok (.iconst 1, 1) := by decide +kernel
theorem dX8_rebase_95 : decode cX8_rebase 95 = .ok (.iload_n 1, 1) := by decide +kernel
theorem dX8_rebase_96 : decode cX8_rebase 96 = .ok (.iload_n 2, 1) := by decide +kernel
theorem dX8_rebase_97 : decode cX8_rebase 97 = .ok (.iconst 0, 1) := by decide +kernel
theorem dX8_rebase_98 : decode cX8_rebase 98 = .ok (.iconst 0, 1) := by decide +kernel
theorem dX8_rebase_99 : decode cX8_rebase 99 = .ok (.invokevirtual 231, 3) := by decide +kernel
theorem dX8_rebase_102 : decode cX8_rebase 102 = .ok (.aload 4, 2) := by decide +kernel
theorem dX8_rebase_104 : decode cX8_rebase 104 = .ok (.getfield 239, 3) := by decide +kernel
theorem dX8_rebase_107 : decode cX8_rebase 107 = .ok (.ireturn, 1) := by decide +kernel
theorem dX8_deliver_0 : decode cX8_deliver 0 = .ok (.aload_n 0, 1) := by decide +kernel
theorem dX8_deliver_1 : decode cX8_deliver 1 = .ok (.getfield 19, 3) := by decide +kernel
theorem dX8_deliver_4 : decode cX8_deliver 4 = .ok (.iload_n 1, 1) := by decide +kernel
theorem dX8_deliver_5 : decode cX8_deliver 5 = .ok (.invokevirtual 126, 3) := by decide +kernel
theorem dX8_deliver_8 : decode cX8_deliver 8 = .ok (.astore 4, 2) := by decide +kernel
theorem dX8_deliver_10 : decode cX8_deliver 10 = .ok (.aload 4, 2) := by decide +kernel
theorem dX8_deliver_12 : decode cX8_deliver 12 = .ok (.ifnull 28, 3) := by decide +kernel
theorem dX8_deliver_15 : decode cX8_deliver 15 = .ok (.aload_n 0, 1) := by decide +kernel
theorem dX8_deliver_16 : decode cX8_deliver 16 = .ok (.getfield 19, 3) := by decide +kernel
theorem dX8_deliver_19 : decode cX8_deliver 19 = .ok (.aload 4, 2) := by decide +kernel
theorem dX8_deliver_21 : decode cX8_deliver 21 = .ok (.iload_n 2, 1) := by decide +kernel
theorem dX8_deliver_22 : decode cX8_deliver 22 = .ok (.invokevirtual 157, 3) := by decide +kernel
theorem dX8_deliver_25 : decode cX8_deliver 25 = .ok (.ifCond .eq 15, 3) := by decide +kernel
theorem dX8_deliver_28 : decode cX8_deliver 28 = .ok (.iload_n 3, 1) := by decide +kernel
theorem dX8_deliver_29 : decode cX8_deliver 29 = .ok (.iconst 1, 1) := by decide +kernel
theorem dX8_deliver_30 : decode cX8_deliver 30 = .ok (.if_icmp .lt 10, 3) := by decide +kernel
theorem dX8_deliver_33 : decode cX8_deliver 33 = .ok (.iload_n 3, 1) := by decide +kernel
theorem dX8_deliver_34 : decode cX8_deliver 34 = .ok (.sipush 999, 3) := by decide +kernel
theorem dX8_deliver_37 : decode cX8_deliver 37 = .ok (.if_icmp .le 5, 3) := by decide +kernel
theorem dX8_deliver_40 : decode cX8_deliver 40 = .ok (.iconst (-1), 1) := by decide +kernel
theorem dX8_deliver_41 : decode cX8_deliver 41 = .ok (.ireturn, 1) := by decide +kernel
theorem dX8_deliver_42 : decode cX8_deliver 42 = .ok (.aload_n 0, 1) := by decide +kernel
theorem dX8_deliver_43 : decode cX8_deliver 43 = .ok (.getfield 26, 3) := by decide +kernel
theorem dX8_deliver_46 : decode cX8_deliver 46 = .ok (.invokevirtual 246, 3) := by decide +kernel
theorem dX8_deliver_49 : decode cX8_deliver 49 = .ok (.astore 5, 2) := by decide +kernel
theorem dX8_deliver_51 : decode cX8_deliver 51 = .ok (.aload 5, 2) := by decide +kernel
theorem dX8_deliver_53 : decode cX8_deliver 53 = .ok (.ifnonnull 6, 3) := by decide +kernel
theorem dX8_deliver_56 : decode cX8_deliver 56 = .ok (.bipush (-2), 2) := by decide +kernel
theorem dX8_deliver_58 : decode cX8_deliver 58 = .ok (.ireturn, 1) := by decide +kernel
theorem dX8_deliver_59 : decode cX8_deliver 59 = .ok (.aload 5, 2) := by decide +kernel
theorem dX8_deliver_61 : decode cX8_deliver 61 = .ok (.iload_n 1, 1) := by decide +kernel
theorem dX8_deliver_62 : decode cX8_deliver 62 = .ok (.iload_n 2, 1) := by decide +kernel
theorem dX8_deliver_63 : decode cX8_deliver 63 = .ok (.aload_n 0, 1) := by decide +kernel
theorem dX8_deliver_64 : decode cX8_deliver 64 = .ok (.getfield 19, 3) := by decide +kernel
theorem dX8_deliver_67 : decode cX8_deliver 67 = .ok (.getfield 68, 3) := by decide +kernel
theorem dX8_deliver_70 : decode cX8_deliver 70 = .ok (.iload_n 3, 1) := by decide +kernel
theorem dX8_deliver_71 : decode cX8_deliver 71 = .ok (.invokevirtual 250, 3) := by decide +kernel
theorem dX8_deliver_74 : decode cX8_deliver 74 = .ok (.aload 5, 2) := by decide +kernel
theorem dX8_deliver_76 : decode cX8_deliver 76 = .ok (.aload_n 0, 1) := by decide +kernel
theorem dX8_deliver_77 : decode cX8_deliver 77 = .ok (.getfield 19, 3) := by decide +kernel
theorem dX8_deliver_80 : decode cX8_deliver 80 = .ok (.aload 4, 2) := by decide +kernel
theorem dX8_deliver_82 : decode cX8_deliver 82 = .ok (.iload_n 2, 1) := by decide +kernel
theorem dX8_deliver_83 : decode cX8_deliver 83 = .ok (.invokevirtual 254, 3) := by decide +kernel
theorem dX8_deliver_86 : decode cX8_deliver 86 = .ok (.aload_n 0, 1) := by decide +kernel
theorem dX8_deliver_87 : decode cX8_deliver 87 = .ok (.getfield 19, 3) := by decide +kernel
theorem dX8_deliver_90 : decode cX8_deliver 90 = .ok (.aload 4, 2) := by decide +kernel
theorem dX8_deliver_92 : decode cX8_deliver 92 = .ok (.aload_n 0, 1) := by decide +kernel
theorem dX8_deliver_93 : decode cX8_deliver 93 = .ok (.getfield 19, 3) := by decide +kernel
theorem dX8_deliver_96 : decode cX8_deliver 96 = .ok (.getfield 68, 3) := by decide +kernel
theorem dX8_deliver_99 : decode cX8_deliver 99 = .ok (.invokevirtual 254, 3) := by decide +kernel
theorem dX8_deliver_102 : decode cX8_deliver 102 = .ok (.invokevirtual 257, 3) := by decide +kernel
theorem dX8_deliver_105 : decode cX8_deliver 105 = .ok (.aload_n 0, 1) := by decide +kernel
theorem dX8_deliver_106 : decode cX8_deliver 106 = .ok (.getfield 33, 3) := by decide +kernel
theorem dX8_deliver_109 : decode cX8_deliver 109 = .ok (.iconst 2, 1) := by decide +kernel
theorem dX8_deliver_110 : decode cX8_deliver 110 = .ok (.iconst 0, 1) := by decide +kernel
theorem dX8_deliver_111 : decode cX8_deliver 111 = .ok (.iconst 0, 1) := by decide +kernel
theorem dX8_deliver_112 : decode cX8_deliver 112 = .ok (.iconst 0, 1) := by decide +kernel
theorem dX8_deliver_113 : decode cX8_deliver 113 = .ok (.iconst 0, 1) := by decide +kernel
theorem dX8_deliver_114 : decode cX8_deliver 114 = .ok (.invokevirtual 231, 3) := by decide +kernel
theorem dX8_deliver_117 : decode cX8_deliver 117 = .ok (.aload_n 0, 1) := by decide +kernel
theorem dX8_deliver_118 : decode cX8_deliver 118 = .ok (.getfield 26, 3) := by decide +kernel
theorem dX8_deliver_121 : decode cX8_deliver 121 = .ok (.getfield 59, 3) := by decide +kernel
theorem dX8_deliver_124 : decode cX8_deliver 124 = .ok (.iconst 1, 1) := by decide +kernel
theorem dX8_deliver_125 : decode cX8_deliver 125 = .ok (.isub, 1) := by decide +kernel
theorem dX8_deliver_126 : decode cX8_deliver 126 = .ok (.ireturn, 1) := by decide +kernel
theorem dX8_close_0 : decode cX8_close 0 = .ok (.aload_n 0, 1) := by decide +kernel
theorem dX8_close_1 : decode cX8_close 1 = .ok (.getfield 19, 3) := by decide +kernel
theorem dX8_close_4 : decode cX8_close 4 = .ok (.getfield 68, 3) := by decide +kernel
theorem dX8_close_7 : decode cX8_close 7 = .ok (.bipush 35, 2) := by decide +kernel
theorem dX8_close_9 : decode cX8_close 9 = .ok (.if_icmp .lt 5, 3) := by decide +kernel
theorem dX8_close_12 : decode cX8_close 12 = .ok (.iconst (-1), 1) := by decide +kernel
theorem dX8_close_13 : decode cX8_close 13 = .ok (.ireturn, 1) := by decide +kernel
theorem dX8_close_14 : decode cX8_close 14 = .ok (.aload_n 0, 1) := by decide +kernel
theorem dX8_close_15 : decode cX8_close 15 = .ok (.getfield 26, 3) := by decide +kernel
theorem dX8_close_18 : decode cX8_close 18 = .ok (.aload_n 0, 1) := by decide +kernel
theorem dX8_close_19 : decode cX8_close 19 = .ok (.getfield 19, 3) := by decide +kernel
theorem dX8_close_22 : decode cX8_close 22 = .ok (.invokevirtual 260, 3) := by decide +kernel
theorem dX8_close_25 : decode cX8_close 25 = .ok (.istore_n 1, 1) := by decide +kernel
theorem dX8_close_26 : decode cX8_close 26 = .ok (.aload_n 0, 1) := by decide +kernel
theorem dX8_close_27 : decode cX8_close 27 = .ok (.getfield 19, 3) := by decide +kernel
theorem dX8_close_30 : decode cX8_close 30 = .ok (.dup, 1) := by decide +kernel
theorem dX8_close_31 : decode cX8_close 31 = .ok (.getfield 68, 3) := by decide +kernel
theorem dX8_close_34 : decode cX8_close 34 = .ok (.iconst 1, 1) := by decide +kernel
theorem dX8_close_35 : decode cX8_close 35 = .ok (.iadd, 1) := by decide +kernel
theorem dX8_close_36 : decode cX8_close 36 = .ok (.putfield 68, 3) := by decide +kernel
theorem dX8_close_39 : decode cX8_close 39 = .ok (.aload_n 0, 1) := by decide +kernel
theorem dX8_close_40 : decode cX8_close 40 = .ok (.getfield 33, 3) := by decide +kernel
theorem dX8_close_43 : decode cX8_close 43 = .ok (.iconst 3, 1) := by decide +kernel
theorem dX8_close_44 : decode cX8_close 44 = .ok (.iconst 0, 1) := by decide +kernel
theorem dX8_close_45 : decode cX8_close 45 = .ok (.iconst 0, 1) := by decide +kernel
theorem dX8_close_46 : decode cX8_close 46 = .ok (.iconst 0, 1) := by decide +kernel
theorem dX8_close_47 : decode cX8_close 47 = .ok (.iconst 0, 1) := by decide +kernel
theorem dX8_close_48 : decode cX8_close 48 = .ok (.invokevirtual 231, 3) := by decide +kernel
theorem dX8_close_51 : decode cX8_close 51 = .ok (.iload_n 1, 1) := by decide +kernel
theorem dX8_close_52 : decode cX8_close 52 = .ok (.ireturn, 1) := by decide +kernel
theorem dX8_undo_0 : decode cX8_undo 0 = .ok (.aload_n 0, 1) := by decide +kernel
theorem dX8_undo_1 : decode cX8_undo 1 = .ok (.getfield 33, 3) := by decide +kernel
theorem dX8_undo_4 : decode cX8_undo 4 = .ok (.invokevirtual 264, 3) := by decide +kernel
theorem dX8_undo_7 : decode cX8_undo 7 = .ok (.istore_n 1, 1) := by decide +kernel
theorem dX8_undo_8 : decode cX8_undo 8 = .ok (.iload_n 1, 1) := by decide +kernel
theorem dX8_undo_9 : decode cX8_undo 9 = .ok (.ifCond .lt 9, 3) := by decide +kernel
theorem dX8_undo_12 : decode cX8_undo 12 = .ok (.iload_n 1, 1) := by decide +kernel
theorem dX8_undo_13 : decode cX8_undo 13 = .ok (.bipush 8, 2) := by decide +kernel
theorem dX8_undo_15 : decode cX8_undo 15 = .ok (.if_icmp .lt 5, 3) := by decide +kernel
theorem dX8_undo_18 : decode cX8_undo 18 = .ok (.iconst (-1), 1) := by decide +kernel
theorem dX8_undo_19 : decode cX8_undo 19 = .ok (.ireturn, 1) := by decide +kernel
theorem dX8_undo_20 : decode cX8_undo 20 = .ok (.aload_n 0, 1) := by decide +kernel
theorem dX8_undo_21 : decode cX8_undo 21 = .ok (.getfield 33, 3) := by decide +kernel
theorem dX8_undo_24 : decode cX8_undo 24 = .ok (.getfield 267, 3) := by decide +kernel
theorem dX8_undo_27 : decode cX8_undo 27 = .ok (.iload_n 1, 1) := by decide +kernel
theorem dX8_undo_28 : decode cX8_undo 28 = .ok (.iaload, 1) := by decide +kernel
theorem dX8_undo_29 : decode cX8_undo 29 = .ok (.tableswitch 53 0 2 #[27, 35, 43], 27) := by decide +kernel
theorem dX8_undo_56 : decode cX8_undo 56 = .ok (.aload_n 0, 1) := by decide +kernel
theorem dX8_undo_57 : decode cX8_undo 57 = .ok (.iload_n 1, 1) := by decide +kernel
theorem dX8_undo_58 : decode cX8_undo 58 = .ok (.invokevirtual 270, 3) := by decide +kernel
theorem dX8_undo_61 : decode cX8_undo 61 = .ok (.goto 25, 3) := by decide +kernel
theorem dX8_undo_64 : decode cX8_undo 64 = .ok (.aload_n 0, 1) := by decide +kernel
theorem dX8_undo_65 : decode cX8_undo 65 = .ok (.iload_n 1, 1) := by decide +kernel
theorem dX8_undo_66 : decode cX8_undo 66 = .ok (.invokevirtual 273, 3) := by decide +kernel
theorem dX8_undo_69 : decode cX8_undo 69 = .ok (.goto 17, 3) := by decide +kernel
theorem dX8_undo_72 : decode cX8_undo 72 = .ok (.aload_n 0, 1) := by decide +kernel
theorem dX8_undo_73 : decode cX8_undo 73 = .ok (.getfield 26, 3) := by decide +kernel
theorem dX8_undo_76 : decode cX8_undo 76 = .ok (.invokevirtual 276, 3) := by decide +kernel
theorem dX8_undo_79 : decode cX8_undo 79 = .ok (.goto 7, 3) := by decide +kernel
theorem dX8_undo_82 : decode cX8_undo 82 = .ok (.aload_n 0, 1) := by decide +kernel
theorem dX8_undo_83 : decode cX8_undo 83 = .ok (.invokevirtual 279, 3) := by decide +kernel
theorem dX8_undo_86 : decode cX8_undo 86 = .ok (.aload_n 0, 1) := by decide +kernel
theorem dX8_undo_87 : decode cX8_undo 87 = .ok (.getfield 33, 3) := by decide +kernel
theorem dX8_undo_90 : decode cX8_undo 90 = .ok (.getfield 80, 3) := by decide +kernel
theorem dX8_undo_93 : decode cX8_undo 93 = .ok (.ireturn, 1) := by decide +kernel
theorem dX8_takeBackValue_0 : decode cX8_takeBackValue 0 = .ok (.aload_n 0, 1) := by decide +kernel
theorem dX8_takeBackValue_1 : decode cX8_takeBackValue 1 = .ok (.getfield 19, 3) := by decide +kernel
theorem dX8_takeBackValue_4 : decode cX8_takeBackValue 4 = .ok (.aload_n 0, 1) := by decide +kernel
theorem dX8_takeBackValue_5 : decode cX8_takeBackValue 5 = .ok (.getfield 33, 3) := by decide +kernel
theorem dX8_takeBackValue_8 : decode cX8_takeBackValue 8 = .ok (.getfield 282, 3) := by decide +kernel
theorem dX8_takeBackValue_11 : decode cX8_takeBackValue 11 = .ok (.iload_n 1, 1) := by decide +kernel
theorem dX8_takeBackValue_12 : decode cX8_takeBackValue 12 = .ok (.iaload, 1) := by decide +kernel
theorem dX8_takeBackValue_13 : decode cX8_takeBackValue 13 = .ok (.invokevirtual 83, 3) := by decide +kernel
theorem dX8_takeBackValue_16 : decode cX8_takeBackValue 16 = .ok (.astore_n 2, 1) := by decide +kernel
theorem dX8_takeBackValue_17 : decode cX8_takeBackValue 17 = .ok (.aload_n 2, 1) := by decide +kernel
theorem dX8_takeBackValue_18 : decode cX8_takeBackValue 18 = .ok (.ifnull 34, 3) := by decide +kernel
theorem dX8_takeBackValue_21 : decode cX8_takeBackValue 21 = .ok (.aload_n 2, 1) := by decide +kernel
theorem dX8_takeBackValue_22 : decode cX8_takeBackValue 22 = .ok (.aload_n 0, 1) := by decide +kernel
theorem dX8_takeBackValue_23 : decode cX8_takeBackValue 23 = .ok (.getfield 33, 3) := by decide +kernel
theorem dX8_takeBackValue_26 : decode cX8_takeBackValue 26 = .ok (.getfield 285, 3) := by decide +kernel
theorem dX8_takeBackValue_29 : decode cX8_takeBackValue 29 = .ok (.iload_n 1, 1) := by decide +kernel
theorem dX8_takeBackValue_30 : decode cX8_takeBackValue 30 = .ok (.iaload, 1) := by decide +kernel
theorem dX8_takeBackValue_31 : decode cX8_takeBackValue 31 = .ok (.aload_n 0, 1) := by decide +kernel
theorem dX8_takeBackValue_32 : decode cX8_takeBackValue 32 = .ok (.getfield 33, 3) := by decide +kernel
theorem dX8_takeBackValue_35 : decode cX8_takeBackValue 35 = .ok (.getfield 288, 3) := by decide +kernel
theorem dX8_takeBackValue_38 : decode cX8_takeBackValue 38 = .ok (.iload_n 1, 1) := by decide +kernel
theorem dX8_takeBackValue_39 : decode cX8_takeBackValue 39 = .ok (.iaload, 1) := by decide +kernel
theorem dX8_takeBackValue_40 : decode cX8_takeBackValue 40 = .ok (.aload_n 0, 1) := by decide +kernel
theorem dX8_takeBackValue_41 : decode cX8_takeBackValue 41 = .ok (.getfield 33, 3) := by decide +kernel
theorem dX8_takeBackValue_44 : decode cX8_takeBackValue 44 = .ok (.getfield 291, 3) := by decide +kernel
theorem dX8_takeBackValue_47 : decode cX8_takeBackValue 47 = .ok (.iload_n 1, 1) := by decide +kernel
theorem dX8_takeBackValue_48 : decode cX8_takeBackValue 48 = .ok (.iaload, 1) := by decide +kernel
theorem dX8_takeBackValue_49 : decode cX8_takeBackValue 49 = .ok (.invokevirtual 235, 3) := by decide +kernel
theorem dX8_takeBackValue_52 : decode cX8_takeBackValue 52 = .ok (.return_, 1) := by decide +kernel
theorem dX8_takeBackRebasing_0 : decode cX8_takeBackRebasing 0 = .ok (.aload_n 0, 1) := by decide +kernel
theorem dX8_takeBackRebasing_1 : decode cX8_takeBackRebasing 1 = .ok (.getfield 19, 3) := by decide +kernel
theorem dX8_takeBackRebasing_4 : decode cX8_takeBackRebasing 4 = .ok (.aload_n 0, 1) := by decide +kernel
theorem dX8_takeBackRebasing_5 : decode cX8_takeBackRebasing 5 = .ok (.getfield 33, 3) := by decide +kernel
theorem dX8_takeBackRebasing_8 : decode cX8_takeBackRebasing 8 = .ok (.getfield 282, 3) := by decide +kernel
theorem dX8_takeBackRebasing_11 : decode cX8_takeBackRebasing 11 = .ok (.iload_n 1, 1) := by decide +kernel
theorem dX8_takeBackRebasing_12 : decode cX8_takeBackRebasing 12 = .ok (.iaload, 1) := by decide +kernel
theorem dX8_takeBackRebasing_13 : decode cX8_takeBackRebasing 13 = .ok (.invokevirtual 83, 3) := by decide +kernel
theorem dX8_takeBackRebasing_16 : decode cX8_takeBackRebasing 16 = .ok (.astore_n 2, 1) := by decide +kernel
theorem dX8_takeBackRebasing_17 : decode cX8_takeBackRebasing 17 = .ok (.aload_n 2, 1) := by decide +kernel
theorem dX8_takeBackRebasing_18 : decode cX8_takeBackRebasing 18 = .ok (.ifnull 20, 3) := by decide +kernel
theorem dX8_takeBackRebasing_21 : decode cX8_takeBackRebasing 21 = .ok (.aload_n 2, 1) := by decide +kernel
theorem dX8_takeBackRebasing_22 : decode cX8_takeBackRebasing 22 = .ok (.getfield 239, 3) := by decide +kernel
theorem dX8_takeBackRebasing_25 : decode cX8_takeBackRebasing 25 = .ok (.ifCond .le 13, 3) := by decide +kernel
theorem dX8_takeBackRebasing_28 : decode cX8_takeBackRebasing 28 = .ok (.aload_n 2, 1) := by decide +kernel
theorem dX8_takeBackRebasing_29 : decode cX8_takeBackRebasing 29 = .ok (.dup, 1) := by decide +kernel
theorem dX8_takeBackRebasing_30 : decode cX8_takeBackRebasing 30 = .ok (.getfield 239, 3) := by decide +kernel
theorem dX8_takeBackRebasing_33 : decode cX8_takeBackRebasing 33 = .ok (.iconst 1, 1) := by decide +kernel
theorem dX8_takeBackRebasing_34 : decode cX8_takeBackRebasing 34 = .ok (.isub, 1) := by decide +kernel
theorem dX8_takeBackRebasing_35 : decode cX8_takeBackRebasing 35 = .ok (.putfield 239, 3) := by decide +kernel
theorem dX8_takeBackRebasing_38 : decode cX8_takeBackRebasing 38 = .ok (.return_, 1) := by decide +kernel
theorem dX8_takeBackClose_0 : decode cX8_takeBackClose 0 = .ok (.aload_n 0, 1) := by decide +kernel
theorem dX8_takeBackClose_1 : decode cX8_takeBackClose 1 = .ok (.getfield 19, 3) := by decide +kernel
theorem dX8_takeBackClose_4 : decode cX8_takeBackClose 4 = .ok (.getfield 68, 3) := by decide +kernel
theorem dX8_takeBackClose_7 : decode cX8_takeBackClose 7 = .ok (.ifCond .le 30, 3) := by decide +kernel
theorem dX8_takeBackClose_10 : decode cX8_takeBackClose 10 = .ok (.aload_n 0, 1) := by decide +kernel
theorem dX8_takeBackClose_11 : decode cX8_takeBackClose 11 = .ok (.getfield 19, 3) := by decide +kernel
theorem dX8_takeBackClose_14 : decode cX8_takeBackClose 14 = .ok (.dup, 1) := by decide +kernel
theorem dX8_takeBackClose_15 : decode cX8_takeBackClose 15 = .ok (.getfield 68, 3) := by decide +kernel
theorem dX8_takeBackClose_18 : decode cX8_takeBackClose 18 = .ok (.iconst 1, 1) := by decide +kernel
theorem dX8_takeBackClose_19 : decode cX8_takeBackClose 19 = .ok (.isub, 1) := by decide +kernel
theorem dX8_takeBackClose_20 : decode cX8_takeBackClose 20 = .ok (.putfield 68, 3) := by decide +kernel
theorem dX8_takeBackClose_23 : decode cX8_takeBackClose 23 = .ok (.aload_n 0, 1) := by decide +kernel
theorem dX8_takeBackClose_24 : decode cX8_takeBackClose 24 = .ok (.getfield 26, 3) := by decide +kernel
theorem dX8_takeBackClose_27 : decode cX8_takeBackClose 27 = .ok (.aload_n 0, 1) := by decide +kernel
theorem dX8_takeBackClose_28 : decode cX8_takeBackClose 28 = .ok (.getfield 19, 3) := by decide +kernel
theorem dX8_takeBackClose_31 : decode cX8_takeBackClose 31 = .ok (.getfield 68, 3) := by decide +kernel
theorem dX8_takeBackClose_34 : decode cX8_takeBackClose 34 = .ok (.invokevirtual 294, 3) := by decide +kernel
theorem dX8_takeBackClose_37 : decode cX8_takeBackClose 37 = .ok (.return_, 1) := by decide +kernel
theorem dX8_isMonth_0 : decode cX8_isMonth 0 = .ok (.iload_n 0, 1) := by decide +kernel
theorem dX8_isMonth_1 : decode cX8_isMonth 1 = .ok (.ifCond .lt 13, 3) := by decide +kernel
theorem dX8_isMonth_4 : decode cX8_isMonth 4 = .ok (.iload_n 0, 1) := by decide +kernel
theorem dX8_isMonth_5 : decode cX8_isMonth 5 = .ok (.bipush 36, 2) := by decide +kernel
theorem dX8_isMonth_7 : decode cX8_isMonth 7 = .ok (.if_icmp .ge 7, 3) := by decide +kernel
theorem dX8_isMonth_10 : decode cX8_isMonth 10 = .ok (.iconst 1, 1) := by decide +kernel
theorem dX8_isMonth_11 : decode cX8_isMonth 11 = .ok (.goto 4, 3) := by decide +kernel
theorem dX8_isMonth_14 : decode cX8_isMonth 14 = .ok (.iconst 0, 1) := by decide +kernel
theorem dX8_isMonth_15 : decode cX8_isMonth 15 = .ok (.ireturn, 1) := by decide +kernel
theorem dX8_isValue_0 : decode cX8_isValue 0 = .ok (.iload_n 0, 1) := by decide +kernel
theorem dX8_isValue_1 : decode cX8_isValue 1 = .ok (.iconst 1, 1) := by decide +kernel
theorem dX8_isValue_2 : decode cX8_isValue 2 = .ok (.if_icmp .lt 14, 3) := by decide +kernel
theorem dX8_isValue_5 : decode cX8_isValue 5 = .ok (.iload_n 0, 1) := by decide +kernel
theorem dX8_isValue_6 : decode cX8_isValue 6 = .ok (.sipush 999, 3) := by decide +kernel
theorem dX8_isValue_9 : decode cX8_isValue 9 = .ok (.if_icmp .gt 7, 3) := by decide +kernel
theorem dX8_isValue_12 : decode cX8_isValue 12 = .ok (.iconst 1, 1) := by decide +kernel
theorem dX8_isValue_13 : decode cX8_isValue 13 = .ok (.goto 4, 3) := by decide +kernel
theorem dX8_isValue_16 : decode cX8_isValue 16 = .ok (.iconst 0, 1) := by decide +kernel
theorem dX8_isValue_17 : decode cX8_isValue 17 = .ok (.ireturn, 1) := by decide +kernel
theorem dX9_thrown_0 : decode cX9_thrown 0 = .ok (.aload_n 0, 1) := by decide +kernel
theorem dX9_thrown_1 : decode cX9_thrown 1 = .ok (.getfield 1, 3) := by decide +kernel
theorem dX9_thrown_4 : decode cX9_thrown 4 = .ok (.ireturn, 1) := by decide +kernel
theorem dX9_refuse_0 : decode cX9_refuse 0 = .ok (.aload_n 0, 1) := by decide +kernel
theorem dX9_refuse_1 : decode cX9_refuse 1 = .ok (.iconst 1, 1) := by decide +kernel
theorem dX9_refuse_2 : decode cX9_refuse 2 = .ok (.putfield 1, 3) := by decide +kernel
theorem dX9_refuse_5 : decode cX9_refuse 5 = .ok (.iconst 0, 1) := by decide +kernel
theorem dX9_refuse_6 : decode cX9_refuse 6 = .ok (.ireturn, 1) := by decide +kernel
theorem dX9_isIn_0 : decode cX9_isIn 0 = .ok (.iload_n 0, 1) := by decide +kernel
theorem dX9_isIn_1 : decode cX9_isIn 1 = .ok (.iload_n 1, 1) := by decide +kernel
theorem dX9_isIn_2 : decode cX9_isIn 2 = .ok (.if_icmp .lt 12, 3) := by decide +kernel
theorem dX9_isIn_5 : decode cX9_isIn 5 = .ok (.iload_n 0, 1) := by decide +kernel
theorem dX9_isIn_6 : decode cX9_isIn 6 = .ok (.iload_n 2, 1) := by decide +kernel
theorem dX9_isIn_7 : decode cX9_isIn 7 = .ok (.if_icmp .gt 7, 3) := by decide +kernel
theorem dX9_isIn_10 : decode cX9_isIn 10 = .ok (.iconst 1, 1) := by decide +kernel
theorem dX9_isIn_11 : decode cX9_isIn 11 = .ok (.goto 4, 3) := by decide +kernel
theorem dX9_isIn_14 : decode cX9_isIn 14 = .ok (.iconst 0, 1) := by decide +kernel
theorem dX9_isIn_15 : decode cX9_isIn 15 = .ok (.ireturn, 1) := by decide +kernel
theorem dX9_lays_0 : decode cX9_lays 0 = .ok (.bipush 24, 2) := by decide +kernel
theorem dX9_lays_2 : decode cX9_lays 2 = .ok (.istore_n 2, 1) := by decide +kernel
theorem dX9_lays_3 : decode cX9_lays 3 = .ok (.iload_n 2, 1) := by decide +kernel
theorem dX9_lays_4 : decode cX9_lays 4 = .ok (.ifCond .lt 35, 3) := by decide +kernel
theorem dX9_lays_7 : decode cX9_lays 7 = .ok (.aload_n 0, 1) := by decide +kernel
theorem dX9_lays_8 : decode cX9_lays 8 = .ok (.getfield 7, 3) := by decide +kernel
theorem dX9_lays_11 : decode cX9_lays 11 = .ok (.aload_n 0, 1) := by decide +kernel
theorem dX9_lays_12 : decode cX9_lays 12 = .ok (.getfield 11, 3) := by decide +kernel
theorem dX9_lays_15 : decode cX9_lays 15 = .ok (.iload_n 1, 1) := by decide +kernel
theorem dX9_lays_16 : decode cX9_lays 16 = .ok (.iload_n 2, 1) := by decide +kernel
theorem dX9_lays_17 : decode cX9_lays 17 = .ok (.iushr, 1) := by decide +kernel
theorem dX9_lays_18 : decode cX9_lays 18 = .ok (.sipush 255, 3) := by decide +kernel
theorem dX9_lays_21 : decode cX9_lays 21 = .ok (.iand, 1) := by decide +kernel
theorem dX9_lays_22 : decode cX9_lays 22 = .ok (.iastore, 1) := by decide +kernel
theorem dX9_lays_23 : decode cX9_lays 23 = .ok (.aload_n 0, 1) := by decide +kernel
theorem dX9_lays_24 : decode cX9_lays 24 = .ok (.dup, 1) := by decide +kernel
theorem dX9_lays_25 : decode cX9_lays 25 = .ok (.getfield 11, 3) := by decide +kernel
theorem dX9_lays_28 : decode cX9_lays 28 = .ok (.iconst 1, 1) := by decide +kernel
theorem dX9_lays_29 : decode cX9_lays 29 = .ok (.iadd, 1) := by decide +kernel
theorem dX9_lays_30 : decode cX9_lays 30 = .ok (.putfield 11, 3) := by decide +kernel
theorem dX9_lays_33 : decode cX9_lays 33 = .ok (.iinc 2 (-8), 3) := by decide +kernel
theorem dX9_lays_36 : decode cX9_lays 36 = .ok (.goto (-33), 3) := by decide +kernel
theorem dX9_lays_39 : decode cX9_lays 39 = .ok (.return_, 1) := by decide +kernel
theorem dX9_feed_0 : decode cX9_feed 0 = .ok (.aload_n 0, 1) := by decide +kernel
theorem dX9_feed_1 : decode cX9_feed 1 = .ok (.iconst 0, 1) := by decide +kernel
theorem dX9_feed_2 : decode cX9_feed 2 = .ok (.putfield 1, 3) := by decide +kernel
theorem dX9_feed_5 : decode cX9_feed 5 = .ok (.aload_n 0, 1) := by decide +kernel
theorem dX9_feed_6 : decode cX9_feed 6 = .ok (.getfield 11, 3) := by decide +kernel
theorem dX9_feed_9 : decode cX9_feed 9 = .ok (.bipush 20, 2) := by decide +kernel
theorem dX9_feed_11 : decode cX9_feed 11 = .ok (.iadd, 1) := by decide +kernel
theorem dX9_feed_12 : decode cX9_feed 12 = .ok (.sipush 740, 3) := by decide +kernel
theorem dX9_feed_15 : decode cX9_feed 15 = .ok (.if_icmp .le 5, 3) := by decide +kernel
theorem dX9_feed_18 : decode cX9_feed 18 = .ok (.iconst (-1), 1) := by decide +kernel
theorem dX9_feed_19 : decode cX9_feed 19 = .ok (.ireturn, 1) := by decide +kernel
theorem dX9_feed_20 : decode cX9_feed 20 = .ok (.aload_n 0, 1) := by decide +kernel
theorem dX9_feed_21 : decode cX9_feed 21 = .ok (.iload_n 1, 1) := by decide +kernel
theorem dX9_feed_22 : decode cX9_feed 22 = .ok (.invokevirtual 14, 3) := by decide +kernel
theorem dX9_feed_25 : decode cX9_feed 25 = .ok (.aload_n 0, 1) := by decide +kernel
theorem dX9_feed_26 : decode cX9_feed 26 = .ok (.iload_n 2, 1) := by decide +kernel
theorem dX9_feed_27 : decode cX9_feed 27 = .ok (.invokevirtual 14, 3) := by decide +kernel
theorem dX9_feed_30 : decode cX9_feed 30 = .ok (.aload_n 0, 1) := by decide +kernel
theorem dX9_feed_31 : decode cX9_feed 31 = .ok (.iload_n 3, 1) := by decide +kernel
theorem dX9_feed_32 : decode cX9_feed 32 = .ok (.invokevirtual 14, 3) := by decide +kernel
theorem dX9_feed_35 : decode cX9_feed 35 = .ok (.aload_n 0, 1) := by decide +kernel
theorem dX9_feed_36 : decode cX9_feed 36 = .ok (.iload 4, 2) := by decide +kernel
theorem dX9_feed_38 : decode cX9_feed 38 = .ok (.invokevirtual 14, 3) := by decide +kernel
theorem dX9_feed_41 : decode cX9_feed 41 = .ok (.aload_n 0, 1) := by decide +kernel
theorem dX9_feed_42 : decode cX9_feed 42 = .ok (.iload 5, 2) := by decide +kernel
theorem dX9_feed_44 : decode cX9_feed 44 = .ok (.invokevirtual 14, 3) := by decide +kernel
theorem dX9_feed_47 : decode cX9_feed 47 = .ok (.aload_n 0, 1) := by decide +kernel
theorem dX9_feed_48 : decode cX9_feed 48 = .ok (.getfield 11, 3) := by decide +kernel
theorem dX9_feed_51 : decode cX9_feed 51 = .ok (.ireturn, 1) := by decide +kernel
theorem dX9_end_0 : decode cX9_end 0 = .ok (.aload_n 0, 1) := by decide +kernel
theorem dX9_end_1 : decode cX9_end 1 = .ok (.iconst 0, 1) := by decide +kernel
theorem dX9_end_2 : decode cX9_end 2 = .ok (.putfield 1, 3) := by decide +kernel
theorem dX9_end_5 : decode cX9_end 5 = .ok (.iload_n 1, 1) := by decide +kernel
theorem dX9_end_6 : decode cX9_end 6 = .ok (.ifCond .lt 11, 3) := by decide +kernel
theorem dX9_end_9 : decode cX9_end 9 = .ok (.iload_n 1, 1) := by decide +kernel
theorem dX9_end_10 : decode cX9_end 10 = .ok (.aload_n 0, 1) := by decide +kernel
theorem dX9_end_11 : decode cX9_end 11 = .ok (.getfield 11, 3) := by decide +kernel
theorem dX9_end_14 : decode cX9_end 14 = .ok (.if_icmp .le 5, 3) := by decide +kernel
theorem dX9_end_17 : decode cX9_end 17 = .ok (.iconst 0, 1) := by decide +kernel
theorem dX9_end_18 : decode cX9_end 18 = .ok (.ireturn, 1) := by decide +kernel
theorem dX9_end_19 : decode cX9_end 19 = .ok (.aload_n 0, 1) := by decide +kernel
theorem dX9_end_20 : decode cX9_end 20 = .ok (.iload_n 1, 1) := by decide +kernel
theorem dX9_end_21 : decode cX9_end 21 = .ok (.putfield 11, 3) := by decide +kernel
theorem dX9_end_24 : decode cX9_end 24 = .ok (.iconst 1, 1) := by decide +kernel
theorem dX9_end_25 : decode cX9_end 25 = .ok (.ireturn, 1) := by decide +kernel
theorem dX9_tapeAt_0 : decode cX9_tapeAt 0 = .ok (.iload_n 1, 1) := by decide +kernel
theorem dX9_tapeAt_1 : decode cX9_tapeAt 1 = .ok (.aload_n 0, 1) := by decide +kernel
theorem dX9_tapeAt_2 : decode cX9_tapeAt 2 = .ok (.getfield 18, 3) := by decide +kernel
theorem dX9_tapeAt_5 : decode cX9_tapeAt 5 = .ok (.if_icmp .ge 12, 3) := by decide +kernel
theorem dX9_tapeAt_8 : decode cX9_tapeAt 8 = .ok (.aload_n 0, 1) := by decide +kernel
theorem dX9_tapeAt_9 : decode cX9_tapeAt 9 = .ok (.getfield 7, 3) := by decide +kernel
theorem dX9_tapeAt_12 : decode cX9_tapeAt 12 = .ok (.iload_n 1, 1) := by decide +kernel
theorem dX9_tapeAt_13 : decode cX9_tapeAt 13 = .ok (.iaload, 1) := by decide +kernel
theorem dX9_tapeAt_14 : decode cX9_tapeAt 14 = .ok (.goto 4, 3) := by decide +kernel
theorem dX9_tapeAt_17 : decode cX9_tapeAt 17 = .ok (.iconst 0, 1) := by decide +kernel
theorem dX9_tapeAt_18 : decode cX9_tapeAt 18 = .ok (.ireturn, 1) := by decide +kernel
theorem dX9_isDigit_0 : decode cX9_isDigit 0 = .ok (.iload_n 0, 1) := by decide +kernel
theorem dX9_isDigit_1 : decode cX9_isDigit 1 = .ok (.bipush 48, 2) := by decide +kernel
theorem dX9_isDigit_3 : decode cX9_isDigit 3 = .ok (.if_icmp .lt 13, 3) := by decide +kernel
theorem dX9_isDigit_6 : decode cX9_isDigit 6 = .ok (.iload_n 0, 1) := by decide +kernel
theorem dX9_isDigit_7 : decode cX9_isDigit 7 = .ok (.bipush 57, 2) := by decide +kernel
theorem dX9_isDigit_9 : decode cX9_isDigit 9 = .ok (.if_icmp .gt 7, 3) := by decide +kernel
theorem dX9_isDigit_12 : decode cX9_isDigit 12 = .ok (.iconst 1, 1) := by decide +kernel
theorem dX9_isDigit_13 : decode cX9_isDigit 13 = .ok (.goto 4, 3) := by decide +kernel
theorem dX9_isDigit_16 : decode cX9_isDigit 16 = .ok (.iconst 0, 1) := by decide +kernel
theorem dX9_isDigit_17 : decode cX9_isDigit 17 = .ok (.ireturn, 1) := by decide +kernel
theorem dX9_isLetter_0 : decode cX9_isLetter 0 = .ok (.iload_n 0, 1) := by decide +kernel
theorem dX9_isLetter_1 : decode cX9_isLetter 1 = .ok (.bipush 97, 2) := by decide +kernel
theorem dX9_isLetter_3 : decode cX9_isLetter 3 = .ok (.if_icmp .lt 13, 3) := by decide +kernel
theorem dX9_isLetter_6 : decode cX9_isLetter 6 = .ok (.iload_n 0, 1) := by decide +kernel
theorem dX9_isLetter_7 : decode cX9_isLetter 7 = .ok (.bipush 122, 2) := by decide +kernel
theorem dX9_isLetter_9 : decode cX9_isLetter 9 = .ok (.if_icmp .gt 7, 3) := by decide +kernel
theorem dX9_isLetter_12 : decode cX9_isLetter 12 = .ok (.iconst 1, 1) := by decide +kernel
theorem dX9_isLetter_13 : decode cX9_isLetter 13 = .ok (.goto 4, 3) := by decide +kernel
theorem dX9_isLetter_16 : decode cX9_isLetter 16 = .ok (.iconst 0, 1) := by decide +kernel
theorem dX9_isLetter_17 : decode cX9_isLetter 17 = .ok (.ireturn, 1) := by decide +kernel
theorem dX9_go_0 : decode cX9_go 0 = .ok (.aload_n 0, 1) := by decide +kernel
theorem dX9_go_1 : decode cX9_go 1 = .ok (.getfield 21, 3) := by decide +kernel
theorem dX9_go_4 : decode cX9_go 4 = .ok (.aload_n 0, 1) := by decide +kernel
theorem dX9_go_5 : decode cX9_go 5 = .ok (.getfield 18, 3) := by decide +kernel
theorem dX9_go_8 : decode cX9_go 8 = .ok (.if_icmp .ge 44, 3) := by decide +kernel
theorem dX9_go_11 : decode cX9_go 11 = .ok (.aload_n 0, 1) := by decide +kernel
theorem dX9_go_12 : decode cX9_go 12 = .ok (.getfield 7, 3) := by decide +kernel
theorem dX9_go_15 : decode cX9_go 15 = .ok (.aload_n 0, 1) := by decide +kernel
theorem dX9_go_16 : decode cX9_go 16 = .ok (.getfield 21, 3) := by decide +kernel
theorem dX9_go_19 : decode cX9_go 19 = .ok (.iaload, 1) := by decide +kernel
theorem dX9_go_20 : decode cX9_go 20 = .ok (.bipush 32, 2) := by decide +kernel
theorem dX9_go_22 : decode cX9_go 22 = .ok (.if_icmp .eq 17, 3) := by decide +kernel
theorem dX9_go_25 : decode cX9_go 25 = .ok (.aload_n 0, 1) := by decide +kernel
theorem dX9_go_26 : decode cX9_go 26 = .ok (.getfield 7, 3) := by decide +kernel
theorem dX9_go_29 : decode cX9_go 29 = .ok (.aload_n 0, 1) := by decide +kernel
theorem dX9_go_30 : decode cX9_go 30 = .ok (.getfield 21, 3) := by decide +kernel
theorem dX9_go_33 : decode cX9_go 33 = .ok (.iaload, 1) := by decide +kernel
theorem dX9_go_34 : decode cX9_go 34 = .ok (.bipush 10, 2) := by decide +kernel
theorem dX9_go_36 : decode cX9_go 36 = .ok (.if_icmp .ne 16, 3) := by decide +kernel
theorem dX9_go_39 : decode cX9_go 39 = .ok (.aload_n 0, 1) := by decide +kernel
theorem dX9_go_40 : decode cX9_go 40 = .ok (.dup, 1) := by decide +kernel
theorem dX9_go_41 : decode cX9_go 41 = .ok (.getfield 21, 3) := by decide +kernel
theorem dX9_go_44 : decode cX9_go 44 = .ok (.iconst 1, 1) := by decide +kernel
theorem dX9_go_45 : decode cX9_go 45 = .ok (.iadd, 1) := by decide +kernel
theorem dX9_go_46 : decode cX9_go 46 = .ok (.putfield 21, 3) := by decide +kernel
theorem dX9_go_49 : decode cX9_go 49 = .ok (.goto (-49), 3) := by decide +kernel
theorem dX9_go_52 : decode cX9_go 52 = .ok (.aload_n 0, 1) := by decide +kernel
theorem dX9_go_53 : decode cX9_go 53 = .ok (.aload_n 0, 1) := by decide +kernel
theorem dX9_go_54 : decode cX9_go 54 = .ok (.getfield 21, 3) := by decide +kernel
theorem dX9_go_57 : decode cX9_go 57 = .ok (.putfield 24, 3) := by decide +kernel
theorem dX9_go_60 : decode cX9_go 60 = .ok (.aload_n 0, 1) := by decide +kernel
theorem dX9_go_61 : decode cX9_go 61 = .ok (.getfield 18, 3) := by decide +kernel
theorem dX9_go_64 : decode cX9_go 64 = .ok (.sipush 700, 3) := by decide +kernel
theorem dX9_go_67 : decode cX9_go 67 = .ok (.if_icmp .le 26, 3) := by decide +kernel
theorem dX9_go_70 : decode cX9_go 70 = .ok (.aload_n 0, 1) := by decide +kernel
theorem dX9_go_71 : decode cX9_go 71 = .ok (.getfield 24, 3) := by decide +kernel
theorem dX9_go_74 : decode cX9_go 74 = .ok (.sipush 700, 3) := by decide +kernel
theorem dX9_go_77 : decode cX9_go 77 = .ok (.if_icmp .lt 16, 3) := by decide +kernel
theorem dX9_go_80 : decode cX9_go 80 = .ok (.aload_n 0, 1) := by decide +kernel
theorem dX9_go_81 : decode cX9_go 81 = .ok (.sipush 700, 3) := by decide +kernel
theorem dX9_go_84 : decode cX9_go 84 = .ok (.putfield 24, 3) := by decide +kernel
theorem dX9_go_87 : decode cX9_go 87 = .ok (.aload_n 0, 1) := by decide +kernel
theorem dX9_go_88 : decode cX9_go 88 = .ok (.iconst 1, 1) := by decide +kernel
theorem dX9_go_89 : decode cX9_go 89 = .ok (.putfield 27, 3) := by decide +kernel
theorem dX9_go_92 : decode cX9_go 92 = .ok (.return_, 1) := by decide +kernel
theorem dX9_go_93 : decode cX9_go 93 = .ok (.aload_n 0, 1) := by decide +kernel
theorem dX9_go_94 : decode cX9_go 94 = .ok (.getfield 21, 3) := by decide +kernel
theorem dX9_go_97 : decode cX9_go 97 = .ok (.aload_n 0, 1) := by decide +kernel
theorem dX9_go_98 : decode cX9_go 98 = .ok (.getfield 18, 3) := by decide +kernel
theorem dX9_go_101 : decode cX9_go 101 = .ok (.if_icmp .lt 9, 3) := by decide +kernel
theorem dX9_go_104 : decode cX9_go 104 = .ok (.aload_n 0, 1) := by decide +kernel
theorem dX9_go_105 : decode cX9_go 105 = .ok (.iconst 0, 1) := by decide +kernel
theorem dX9_go_106 : decode cX9_go 106 = .ok (.putfield 27, 3) := by decide +kernel
theorem dX9_go_109 : decode cX9_go 109 = .ok (.return_, 1) := by decide +kernel
theorem dX9_go_110 : decode cX9_go 110 = .ok (.aload_n 0, 1) := by decide +kernel
theorem dX9_go_111 : decode cX9_go 111 = .ok (.getfield 7, 3) := by decide +kernel
theorem dX9_go_114 : decode cX9_go 114 = .ok (.aload_n 0, 1) := by decide +kernel
theorem dX9_go_115 : decode cX9_go 115 = .ok (.getfield 21, 3) := by decide +kernel
theorem dX9_go_118 : decode cX9_go 118 = .ok (.iaload, 1) := by decide +kernel
theorem dX9_go_119 : decode cX9_go 119 = .ok (.istore_n 1, 1) := by decide +kernel
theorem dX9_go_120 : decode cX9_go 120 = .ok (.iload_n 1, 1) := by decide +kernel
theorem dX9_go_121 : decode cX9_go 121 = .ok (.invokestatic 30, 3) := by decide +kernel
theorem dX9_go_124 : decode cX9_go 124 = .ok (.ifCond .ne 53, 3) := by decide +kernel
theorem dX9_go_127 : decode cX9_go 127 = .ok (.iload_n 1, 1) := by decide +kernel
theorem dX9_go_128 : decode cX9_go 128 = .ok (.invokestatic 34, 3) := by decide +kernel
theorem dX9_go_131 : decode cX9_go 131 = .ok (.ifCond .ne 46, 3) := by decide +kernel
theorem dX9_go_134 : decode cX9_go 134 = .ok (.aload_n 0, 1) := by decide +kernel
theorem dX9_go_135 : decode cX9_go 135 = .ok (.iload_n 1, 1) := by decide +kernel
theorem dX9_go_136 : decode cX9_go 136 = .ok (.bipush 59, 2) := by decide +kernel
theorem dX9_go_138 : decode cX9_go 138 = .ok (.if_icmp .eq 15, 3) := by decide +kernel
theorem dX9_go_141 : decode cX9_go 141 = .ok (.iload_n 1, 1) := by decide +kernel
theorem dX9_go_142 : decode cX9_go 142 = .ok (.bipush 61, 2) := by decide +kernel
theorem dX9_go_144 : decode cX9_go 144 = .ok (.if_icmp .eq 9, 3) := by decide +kernel
theorem dX9_go_147 : decode cX9_go 147 = .ok (.iload_n 1, 1) := by decide +kernel
theorem dX9_go_148 : decode cX9_go 148 = .ok (.bipush 43, 2) := by decide +kernel
theorem dX9_go_150 : decode cX9_go 150 = .ok (.if_icmp .ne 7, 3) := by decide +kernel
theorem dX9_go_153 : decode cX9_go 153 = .ok (.iconst 4, 1) := by decide +kernel
theorem dX9_go_154 : decode cX9_go 154 = .ok (.goto 4, 3) := by decide +kernel
theorem dX9_go_157 : decode cX9_go 157 = .ok (.iconst 1, 1) := by decide +kernel
theorem dX9_go_158 : decode cX9_go 158 = .ok (.putfield 27, 3) := by decide +kernel
theorem dX9_go_161 : decode cX9_go 161 = .ok (.aload_n 0, 1) := by decide +kernel
theorem dX9_go_162 : decode cX9_go 162 = .ok (.iload_n 1, 1) := by decide +kernel
theorem dX9_go_163 : decode cX9_go 163 = .ok (.putfield 37, 3) := by decide +kernel
theorem dX9_go_166 : decode cX9_go 166 = .ok (.aload_n 0, 1) := by decide +kernel
theorem dX9_go_167 : decode cX9_go 167 = .ok (.dup, 1) := by decide +kernel
theorem dX9_go_168 : decode cX9_go 168 = .ok (.getfield 21, 3) := by decide +kernel
theorem dX9_go_171 : decode cX9_go 171 = .ok (.iconst 1, 1) := by decide +kernel
theorem dX9_go_172 : decode cX9_go 172 = .ok (.iadd, 1) := by decide +kernel
theorem dX9_go_173 : decode cX9_go 173 = .ok (.putfield 21, 3) := by decide +kernel
theorem dX9_go_176 : decode cX9_go 176 = .ok (.return_, 1) := by decide +kernel
theorem dX9_go_177 : decode cX9_go 177 = .ok (.iload_n 1, 1) := by decide +kernel
theorem dX9_go_178 : decode cX9_go 178 = .ok (.invokestatic 30, 3) := by decide +kernel
theorem dX9_go_181 : decode cX9_go 181 = .ok (.istore_n 2, 1) := by decide +kernel
theorem dX9_go_182 : decode cX9_go 182 = .ok (.iconst 1, 1) := by decide +kernel
theorem dX9_go_183 : decode cX9_go 183 = .ok (.istore_n 3, 1) := by decide +kernel
theorem dX9_go_184 : decode cX9_go 184 = .ok (.aload_n 0, 1) := by decide +kernel
theorem dX9_go_185 : decode cX9_go 185 = .ok (.lconst 0, 1) := by decide +kernel
theorem dX9_go_186 : decode cX9_go 186 = .ok (.putfield 40, 3) := by decide +kernel
theorem dX9_go_189 : decode cX9_go 189 = .ok (.aload_n 0, 1) := by decide +kernel
theorem dX9_go_190 : decode cX9_go 190 = .ok (.iconst 0, 1) := by decide +kernel
theorem dX9_go_191 : decode cX9_go 191 = .ok (.putfield 44, 3) := by decide +kernel
theorem dX9_go_194 : decode cX9_go 194 = .ok (.aload_n 0, 1) := by decide +kernel
theorem dX9_go_195 : decode cX9_go 195 = .ok (.aload_n 0, 1) := by decide +kernel
theorem dX9_go_196 : decode cX9_go 196 = .ok (.getfield 21, 3) := by decide +kernel
theorem dX9_go_199 : decode cX9_go 199 = .ok (.invokevirtual 47, 3) := by decide +kernel
theorem dX9_go_202 : decode cX9_go 202 = .ok (.invokestatic 30, 3) := by decide +kernel
theorem dX9_go_205 : decode cX9_go 205 = .ok (.ifCond .ne 17, 3) := by decide +kernel
theorem dX9_go_208 : decode cX9_go 208 = .ok (.aload_n 0, 1) := by decide +kernel
theorem dX9_go_209 : decode cX9_go 209 = .ok (.aload_n 0, 1) := by decide +kernel
theorem dX9_go_210 : decode cX9_go 210 = .ok (.getfield 21, 3) := by decide +kernel
theorem dX9_go_213 : decode cX9_go 213 = .ok (.invokevirtual 47, 3) := by decide +kernel
theorem dX9_go_216 : decode cX9_go 216 = .ok (.invokestatic 34, 3) := by decide +kernel
theorem dX9_go_219 : decode cX9_go 219 = .ok (.ifCond .eq 110, 3) := by decide +kernel
theorem dX9_go_222 : decode cX9_go 222 = .ok (.aload_n 0, 1) := by decide +kernel
theorem dX9_go_223 : decode cX9_go 223 = .ok (.getfield 7, 3) := by decide +kernel
theorem dX9_go_226 : decode cX9_go 226 = .ok (.aload_n 0, 1) := by decide +kernel
theorem dX9_go_227 : decode cX9_go 227 = .ok (.getfield 21, 3) := by decide +kernel
theorem dX9_go_230 : decode cX9_go 230 = .ok (.iaload, 1) := by decide +kernel
theorem dX9_go_231 : decode cX9_go 231 = .ok (.istore 4, 2) := by decide +kernel
theorem dX9_go_233 : decode cX9_go 233 = .ok (.iload_n 3, 1) := by decide +kernel
theorem dX9_go_234 : decode cX9_go 234 = .ok (.ifCond .eq 16, 3) := by decide +kernel
theorem dX9_go_237 : decode cX9_go 237 = .ok (.iload 4, 2) := by decide +kernel
theorem dX9_go_239 : decode cX9_go 239 = .ok (.invokestatic 30, 3) := by decide +kernel
theorem dX9_go_242 : decode cX9_go 242 = .ok (.iload_n 2, 1) := by decide +kernel
theorem dX9_go_243 : decode cX9_go 243 = .ok (.if_icmp .ne 7, 3) := by decide +kernel
theorem dX9_go_246 : decode cX9_go 246 = .ok (.iconst 1, 1) := by decide +kernel
theorem dX9_go_247 : decode cX9_go 247 = .ok (.goto 4, 3) := by decide +kernel
theorem dX9_go_250 : decode cX9_go 250 = .ok (.iconst 0, 1) := by decide +kernel
theorem dX9_go_251 : decode cX9_go 251 = .ok (.istore_n 3, 1) := by decide +kernel
theorem dX9_go_252 : decode cX9_go 252 = .ok (.aload_n 0, 1) := by decide +kernel
theorem dX9_go_253 : decode cX9_go 253 = .ok (.getfield 21, 3) := by decide +kernel
theorem dX9_go_256 : decode cX9_go 256 = .ok (.aload_n 0, 1) := by decide +kernel
theorem dX9_go_257 : decode cX9_go 257 = .ok (.getfield 24, 3) := by decide +kernel
theorem dX9_go_260 : decode cX9_go 260 = .ok (.isub, 1) := by decide +kernel
theorem dX9_go_261 : decode cX9_go 261 = .ok (.bipush 8, 2) := by decide +kernel
theorem dX9_go_263 : decode cX9_go 263 = .ok (.if_icmp .ge 23, 3) := by decide +kernel
theorem dX9_go_266 : decode cX9_go 266 = .ok (.aload_n 0, 1) := by decide +kernel
theorem dX9_go_267 : decode cX9_go 267 = .ok (.ldc2_w 51, 3) := by decide +kernel
theorem dX9_go_270 : decode cX9_go 270 = .ok (.aload_n 0, 1) := by decide +kernel
theorem dX9_go_271 : decode cX9_go 271 = .ok (.getfield 40, 3) := by decide +kernel
theorem dX9_go_274 : decode cX9_go 274 = .ok (.lmul, 1) := by decide +kernel
theorem dX9_go_275 : decode cX9_go 275 = .ok (.iload 4, 2) := by decide +kernel
theorem dX9_go_277 : decode cX9_go 277 = .ok (.i2l, 1) := by decide +kernel
theorem dX9_go_278 : decode cX9_go 278 = .ok (.ladd, 1) := by decide +kernel
theorem dX9_go_279 : decode cX9_go 279 = .ok (.ldc2_w 53, 3) := by decide +kernel
theorem dX9_go_282 : decode cX9_go 282 = .ok (.lsub, 1) := by decide +kernel
theorem dX9_go_283 : decode cX9_go 283 = .ok (.putfield 40, 3) := by decide +kernel
theorem dX9_go_286 : decode cX9_go 286 = .ok (.aload_n 0, 1) := by decide +kernel
theorem dX9_go_287 : decode cX9_go 287 = .ok (.getfield 21, 3) := by decide +kernel
theorem dX9_go_290 : decode cX9_go 290 = .ok (.aload_n 0, 1) := by decide +kernel
theorem dX9_go_291 : decode cX9_go 291 = .ok (.getfield 24, 3) := by decide +kernel
theorem dX9_go_294 : decode cX9_go 294 = .ok (.isub, 1) := by decide +kernel
theorem dX9_go_295 : decode cX9_go 295 = .ok (.iconst 4, 1) := by decide +kernel
theorem dX9_go_296 : decode cX9_go 296 = .ok (.if_icmp .ge 20, 3) := by decide +kernel
theorem dX9_go_299 : decode cX9_go 299 = .ok (.aload_n 0, 1) := by decide +kernel
theorem dX9_go_300 : decode cX9_go 300 = .ok (.bipush 10, 2) := by decide +kernel
theorem dX9_go_302 : decode cX9_go 302 = .ok (.aload_n 0, 1) := by decide +kernel
theorem dX9_go_303 : decode cX9_go 303 = .ok (.getfield 44, 3) := by decide +kernel
theorem dX9_go_306 : decode cX9_go 306 = .ok (.imul, 1) := by decide +kernel
theorem dX9_go_307 : decode cX9_go 307 = .ok (.iload 4, 2) := by decide +kernel
theorem dX9_go_309 : decode cX9_go 309 = .ok (.iadd, 1) := by decide +kernel
theorem dX9_go_310 : decode cX9_go 310 = .ok (.bipush 48, 2) := by decide +kernel
theorem dX9_go_312 : decode cX9_go 312 = .ok (.isub, 1) := by decide +kernel
theorem dX9_go_313 : decode cX9_go 313 = .ok (.putfield 44, 3) := by decide +kernel
theorem dX9_go_316 : decode cX9_go 316 = .ok (.aload_n 0, 1) := by decide +kernel
theorem dX9_go_317 : decode cX9_go 317 = .ok (.dup, 1) := by decide +kernel
theorem dX9_go_318 : decode cX9_go 318 = .ok (.getfield 21, 3) := by decide +kernel
theorem dX9_go_321 : decode cX9_go 321 = .ok (.iconst 1, 1) := by decide +kernel
theorem dX9_go_322 : decode cX9_go 322 = .ok (.iadd, 1) := by decide +kernel
theorem dX9_go_323 : decode cX9_go 323 = .ok (.putfield 21, 3) := by decide +kernel
theorem dX9_go_326 : decode cX9_go 326 = .ok (.goto (-132), 3) := by decide +kernel
theorem dX9_go_329 : decode cX9_go 329 = .ok (.aload_n 0, 1) := by decide +kernel
theorem dX9_go_330 : decode cX9_go 330 = .ok (.iload_n 3, 1) := by decide +kernel
theorem dX9_go_331 : decode cX9_go 331 = .ok (.ifCond .eq 25, 3) := by decide +kernel
theorem dX9_go_334 : decode cX9_go 334 = .ok (.aload_n 0, 1) := by decide +kernel
theorem dX9_go_335 : decode cX9_go 335 = .ok (.getfield 21, 3) := by decide +kernel
theorem dX9_go_338 : decode cX9_go 338 = .ok (.aload_n 0, 1) := by decide +kernel
theorem dX9_go_339 : decode cX9_go 339 = .ok (.getfield 24, 3) := by decide +kernel
theorem dX9_go_342 : decode cX9_go 342 = .ok (.isub, 1) := by decide +kernel
theorem dX9_go_343 : decode cX9_go 343 = .ok (.iload_n 2, 1) := by decide +kernel
theorem dX9_go_344 : decode cX9_go 344 = .ok (.ifCond .eq 8, 3) := by decide +kernel
theorem dX9_go_347 : decode cX9_go 347 = .ok (.bipush 8, 2) := by decide +kernel
theorem dX9_go_349 : decode cX9_go 349 = .ok (.goto 4, 3) := by decide +kernel
theorem dX9_go_352 : decode cX9_go 352 = .ok (.iconst 4, 1) := by decide +kernel
theorem dX9_go_353 : decode cX9_go 353 = .ok (.if_icmp .le 7, 3) := by decide +kernel
theorem dX9_go_356 : decode cX9_go 356 = .ok (.iconst 1, 1) := by decide +kernel
theorem dX9_go_357 : decode cX9_go 357 = .ok (.goto 12, 3) := by decide +kernel
theorem dX9_go_360 : decode cX9_go 360 = .ok (.iload_n 2, 1) := by decide +kernel
theorem dX9_go_361 : decode cX9_go 361 = .ok (.ifCond .eq 7, 3) := by decide +kernel
theorem dX9_go_364 : decode cX9_go 364 = .ok (.iconst 2, 1) := by decide +kernel
theorem dX9_go_365 : decode cX9_go 365 = .ok (.goto 4, 3) := by decide +kernel
theorem dX9_go_368 : decode cX9_go 368 = .ok (.iconst 3, 1) := by decide +kernel
theorem dX9_go_369 : decode cX9_go 369 = .ok (.putfield 27, 3) := by decide +kernel
theorem dX9_go_372 : decode cX9_go 372 = .ok (.return_, 1) := by decide +kernel
